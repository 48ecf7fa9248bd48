set_option maxHeartbeats 4000000 in
set_option maxRecDepth 100000 in
/-- come fails -/
theorem zcX5_come_b1 (l : Launch) (D : va_G) (cI : ClassId) (H : Heap) (b : Nat) (tn : Int32) (n : Nat) (g : zG) (me : Nat → Int32) (lo : Nat → Int32) (c : Nat → Nat) (bf : Nat → Int32) (e : Nat → Nat) (rd : Int32) (tk : Int32) (x : Int32) (y : Int32) (hM : va_P D vwCl (zMo cI b tn n (jf g me lo c) bf (zn e) (nm rd tk)) H) (hI : zI n me lo c e) (hx9 : x < 1 ∨ ¬ x ≤ 9) : Met l yX5_come wsX5_come ({ frames := 1, cells := 0, slots := 0, locals := 22 } : Room) (zPc D [(cI, .int)] H [.ref b, .int x, .int y]) (zM (fun H1 => va_P D vwCl (zMo cI b 1 n (jf g me lo c) bf (zn e) (nm rd tk)) H1 ∧ H1.size = H.size) (some (.int 0)) (zF b (b + 5))) 0 0 (zF b (b + 5)) := by
  refine z_enter (cc := cX5_come) (maxL := 4) (ret := (some .int)) (by decide) rfl (Nat.le_of_ble_eq_true rfl) ?_
  intro pg ev s m args below meth cd hfix hr hlocks hname hK hHs ls hl
  obtain ⟨hx, hb, hml, hown, hts⟩ := id hfix
  have hl : lv_has ls 4 [(0, .ref b), (1, .int x), (2, .int y)] := hl
  have hS : va_S (zF b (b + 5)) s.heap H [] := by rw [hHs]; exact va_S.rf
  have hz : H.size = H.size := rfl
  have hinX5 : ∀ w ∈ wsX50, w ∈ wsX5_come := by decide +kernel
  have hn := zI_n hI
  refine lv_aload_n hx hb dX5_come_0 rfl (lv_at hl 0 rfl) ?_
  refine lv_iconst (v := 0) hx hb dX5_come_1 (by decide) ?_
  refine z_put (D := D) (ci := 5) (v := .int 0) (ty := .int) (C := RX5) (T := TX5) (N := 6) hx hb hts hinX5 tyX5 tyX5_ok nmX5 hown hK hM (by simp only [zF]; omega) hS 0 rfl rfl 0 (by decide) (hts _ (List.mem_of_getElem? (i := 1) rfl)) (fun _ h9 => h9) rfl (by decide +kernel) rfl rfl (Nat.le_of_ble_eq_true rfl) dX5_come_2 (fun H1 lo2 hP1 hz1 hk1 hS => ?_)
  have hz : H1.size = H.size := by omega
  have hM3 : va_P D vwCl (zMo cI b 0 n (jf g me lo c) bf (zn e) (nm rd tk)) H1 := z_set zMo_c hM 0 rfl hP1 (fun q _ h => hk1 q h)
  refine lv_iload_n hx hb dX5_come_5 rfl (lv_at hl 1 rfl) ?_
  refine lv_iconst (v := 1) hx hb dX5_come_6 (by decide) ?_
  refine lv_bipush (v := 9) hx hb dX5_come_7 (by decide) ?_
  refine z_ki (va_runS (As := [.int x, .int 1, .int 9]) (rest := []) hfix (zcX5_isIn l D cI H1 x 1 9 ) (va_cwS 3 hts gX5_come_X5_isIn rfl rfl rfl (by decide +kernel) ⟨Nat.le_of_ble_eq_true rfl, Nat.le_of_ble_eq_true rfl⟩) (z_preS hK) rfl rfl hl.1 rfl (lv_room (Nat.le_of_ble_eq_true rfl)) dX5_come_9 ⟨by omega, by omega⟩) ?_
  refine lv_if_eq (tgt := 24) hx hb dX5_come_12 (by decide) (fun c12 => ?_) (fun c12 => ?_)
  · have c12 := zb_0 c12
    refine lv_aload_n hx hb dX5_come_24 rfl (lv_at hl 0 rfl) ?_
    refine lv_iconst (v := 1) hx hb dX5_come_25 (by decide) ?_
    refine z_mi (va_runV (As := [.int 1]) (rest := []) hfix (zcX5_fail l D cI H1 b 0 n (jf g me lo c) bf (zn e) (nm rd tk) 1 hM3) (cwV 1 hts gX5_come_X5_fail rfl rfl rfl (by decide +kernel) ⟨Nat.le_of_ble_eq_true rfl, Nat.le_of_ble_eq_true rfl⟩) (z_preV hK hK hM3 (ci := 5) (q0 := 0) rfl rfl rfl) rfl rfl hl.1 rfl (lv_room (Nat.le_of_ble_eq_true rfl)) dX5_come_26 ⟨by omega, by omega⟩) hS (fun q _ h => by simp only [zF] at h ⊢; omega) (fun q h => by simp only [zF] at h ⊢; omega) (fun H4 lo5 hB hz1 hk1 hS => ?_)
    have hz : H4.size = H.size := (hB.2).trans hz
    have hM6 : va_P D vwCl (zMo cI b 1 n (jf g me lo c) bf (zn e) (nm rd tk)) H4 := hB.1
    exact z_iretM (⟨hM6, hz⟩) hx hb hr hlocks hS dX5_come_29
  · have c12 := zb_1 c12
    exact absurd c12 (z_isIn.mpr hx9)
set_option maxHeartbeats 4000000 in
set_option maxRecDepth 100000 in
/-- come fails -/
theorem zcX5_come_b2 (l : Launch) (D : va_G) (cI : ClassId) (H : Heap) (b : Nat) (tn : Int32) (n : Nat) (g : zG) (me : Nat → Int32) (lo : Nat → Int32) (c : Nat → Nat) (bf : Nat → Int32) (e : Nat → Nat) (rd : Int32) (tk : Int32) (m9 : Nat) (y : Int32) (hM : va_P D vwCl (zMo cI b tn n (jf g me lo c) bf (zn e) (nm rd tk)) H) (hI : zI n me lo c e) (hm1 : 1 ≤ m9) (hm2 : m9 ≤ 9) (hx9 : y < 1 ∨ ¬ y ≤ 5) : Met l yX5_come wsX5_come ({ frames := 1, cells := 0, slots := 0, locals := 22 } : Room) (zPc D [(cI, .int)] H [.ref b, .int (nI m9), .int y]) (zM (fun H1 => va_P D vwCl (zMo cI b 1 n (jf g me lo c) bf (zn e) (nm rd tk)) H1 ∧ H1.size = H.size) (some (.int 0)) (zF b (b + 5))) 0 0 (zF b (b + 5)) := by
  refine z_enter (cc := cX5_come) (maxL := 4) (ret := (some .int)) (by decide) rfl (Nat.le_of_ble_eq_true rfl) ?_
  intro pg ev s m args below meth cd hfix hr hlocks hname hK hHs ls hl
  obtain ⟨hx, hb, hml, hown, hts⟩ := id hfix
  have hl : lv_has ls 4 [(0, .ref b), (1, .int (nI m9)), (2, .int y)] := hl
  have hS : va_S (zF b (b + 5)) s.heap H [] := by rw [hHs]; exact va_S.rf
  have hz : H.size = H.size := rfl
  have hinX5 : ∀ w ∈ wsX50, w ∈ wsX5_come := by decide +kernel
  have hn := zI_n hI
  refine lv_aload_n hx hb dX5_come_0 rfl (lv_at hl 0 rfl) ?_
  refine lv_iconst (v := 0) hx hb dX5_come_1 (by decide) ?_
  refine z_put (D := D) (ci := 5) (v := .int 0) (ty := .int) (C := RX5) (T := TX5) (N := 6) hx hb hts hinX5 tyX5 tyX5_ok nmX5 hown hK hM (by simp only [zF]; omega) hS 0 rfl rfl 0 (by decide) (hts _ (List.mem_of_getElem? (i := 1) rfl)) (fun _ h9 => h9) rfl (by decide +kernel) rfl rfl (Nat.le_of_ble_eq_true rfl) dX5_come_2 (fun H1 lo2 hP1 hz1 hk1 hS => ?_)
  have hz : H1.size = H.size := by omega
  have hM3 : va_P D vwCl (zMo cI b 0 n (jf g me lo c) bf (zn e) (nm rd tk)) H1 := z_set zMo_c hM 0 rfl hP1 (fun q _ h => hk1 q h)
  refine lv_iload_n hx hb dX5_come_5 rfl (lv_at hl 1 rfl) ?_
  refine lv_iconst (v := 1) hx hb dX5_come_6 (by decide) ?_
  refine lv_bipush (v := 9) hx hb dX5_come_7 (by decide) ?_
  refine z_ki (va_runS (As := [.int (nI m9), .int 1, .int 9]) (rest := []) hfix (zcX5_isIn l D cI H1 (nI m9) 1 9 ) (va_cwS 3 hts gX5_come_X5_isIn rfl rfl rfl (by decide +kernel) ⟨Nat.le_of_ble_eq_true rfl, Nat.le_of_ble_eq_true rfl⟩) (z_preS hK) rfl rfl hl.1 rfl (lv_room (Nat.le_of_ble_eq_true rfl)) dX5_come_9 ⟨by omega, by omega⟩) ?_
  refine lv_if_eq (tgt := 24) hx hb dX5_come_12 (by decide) (fun c12 => ?_) (fun c12 => ?_)
  · have c12 := zb_0 c12
    exact absurd (z_in (a := 1) (b := 9) hm1 hm2 (by omega)) c12
  · have c12 := zb_1 c12
    refine lv_iload_n hx hb dX5_come_15 rfl (lv_at hl 2 rfl) ?_
    refine lv_iconst (v := 1) hx hb dX5_come_16 (by decide) ?_
    refine lv_iconst (v := 5) hx hb dX5_come_17 (by decide) ?_
    refine z_ki (va_runS (As := [.int y, .int 1, .int 5]) (rest := []) hfix (zcX5_isIn l D cI H1 y 1 5 ) (va_cwS 3 hts gX5_come_X5_isIn rfl rfl rfl (by decide +kernel) ⟨Nat.le_of_ble_eq_true rfl, Nat.le_of_ble_eq_true rfl⟩) (z_preS hK) rfl rfl hl.1 rfl (lv_room (Nat.le_of_ble_eq_true rfl)) dX5_come_18 ⟨by omega, by omega⟩) ?_
    refine lv_if_ne (tgt := 30) hx hb dX5_come_21 (by decide) (fun c21 => ?_) (fun c21 => ?_)
    · have c21 := zb_1 c21
      exact absurd c21 (z_isIn.mpr hx9)
    · have c21 := zb_0 c21
      refine lv_aload_n hx hb dX5_come_24 rfl (lv_at hl 0 rfl) ?_
      refine lv_iconst (v := 1) hx hb dX5_come_25 (by decide) ?_
      refine z_mi (va_runV (As := [.int 1]) (rest := []) hfix (zcX5_fail l D cI H1 b 0 n (jf g me lo c) bf (zn e) (nm rd tk) 1 hM3) (cwV 1 hts gX5_come_X5_fail rfl rfl rfl (by decide +kernel) ⟨Nat.le_of_ble_eq_true rfl, Nat.le_of_ble_eq_true rfl⟩) (z_preV hK hK hM3 (ci := 5) (q0 := 0) rfl rfl rfl) rfl rfl hl.1 rfl (lv_room (Nat.le_of_ble_eq_true rfl)) dX5_come_26 ⟨by omega, by omega⟩) hS (fun q _ h => by simp only [zF] at h ⊢; omega) (fun q h => by simp only [zF] at h ⊢; omega) (fun H4 lo5 hB hz1 hk1 hS => ?_)
      have hz : H4.size = H.size := (hB.2).trans hz
      have hM6 : va_P D vwCl (zMo cI b 1 n (jf g me lo c) bf (zn e) (nm rd tk)) H4 := hB.1
      exact z_iretM (⟨hM6, hz⟩) hx hb hr hlocks hS dX5_come_29
set_option maxHeartbeats 4000000 in
set_option maxRecDepth 100000 in
/-- come fails -/
theorem zcX5_come_b3 (l : Launch) (D : va_G) (cI : ClassId) (H : Heap) (b : Nat) (tn : Int32) (n : Nat) (g : zG) (me : Nat → Int32) (lo : Nat → Int32) (c : Nat → Nat) (bf : Nat → Int32) (e : Nat → Nat) (rd : Int32) (tk : Int32) (m9 : Nat) (x : Nat) (hM : va_P D vwCl (zMo cI b tn n (jf g me lo c) bf (zn e) (nm rd tk)) H) (hI : zI n me lo c e) (hm1 : 1 ≤ m9) (hm2 : m9 ≤ 9) (hx1 : 1 ≤ x) (hx2 : x ≤ 5) (hn12 : ¬ n < 12) : Met l yX5_come wsX5_come ({ frames := 1, cells := 0, slots := 0, locals := 22 } : Room) (zPc D [(cI, .int)] H [.ref b, .int (nI m9), .int (nI x)]) (zM (fun H1 => va_P D vwCl (zMo cI b 2 n (jf g me lo c) bf (zn e) (nm rd tk)) H1 ∧ H1.size = H.size) (some (.int 0)) (zF b (b + 5))) 0 0 (zF b (b + 5)) := by
  refine z_enter (cc := cX5_come) (maxL := 4) (ret := (some .int)) (by decide) rfl (Nat.le_of_ble_eq_true rfl) ?_
  intro pg ev s m args below meth cd hfix hr hlocks hname hK hHs ls hl
  obtain ⟨hx, hb, hml, hown, hts⟩ := id hfix
  have hl : lv_has ls 4 [(0, .ref b), (1, .int (nI m9)), (2, .int (nI x))] := hl
  have hS : va_S (zF b (b + 5)) s.heap H [] := by rw [hHs]; exact va_S.rf
  have hz : H.size = H.size := rfl
  have hinX5 : ∀ w ∈ wsX50, w ∈ wsX5_come := by decide +kernel
  have hn := zI_n hI
  refine lv_aload_n hx hb dX5_come_0 rfl (lv_at hl 0 rfl) ?_
  refine lv_iconst (v := 0) hx hb dX5_come_1 (by decide) ?_
  refine z_put (D := D) (ci := 5) (v := .int 0) (ty := .int) (C := RX5) (T := TX5) (N := 6) hx hb hts hinX5 tyX5 tyX5_ok nmX5 hown hK hM (by simp only [zF]; omega) hS 0 rfl rfl 0 (by decide) (hts _ (List.mem_of_getElem? (i := 1) rfl)) (fun _ h9 => h9) rfl (by decide +kernel) rfl rfl (Nat.le_of_ble_eq_true rfl) dX5_come_2 (fun H1 lo2 hP1 hz1 hk1 hS => ?_)
  have hz : H1.size = H.size := by omega
  have hM3 : va_P D vwCl (zMo cI b 0 n (jf g me lo c) bf (zn e) (nm rd tk)) H1 := z_set zMo_c hM 0 rfl hP1 (fun q _ h => hk1 q h)
  refine lv_iload_n hx hb dX5_come_5 rfl (lv_at hl 1 rfl) ?_
  refine lv_iconst (v := 1) hx hb dX5_come_6 (by decide) ?_
  refine lv_bipush (v := 9) hx hb dX5_come_7 (by decide) ?_
  refine z_ki (va_runS (As := [.int (nI m9), .int 1, .int 9]) (rest := []) hfix (zcX5_isIn l D cI H1 (nI m9) 1 9 ) (va_cwS 3 hts gX5_come_X5_isIn rfl rfl rfl (by decide +kernel) ⟨Nat.le_of_ble_eq_true rfl, Nat.le_of_ble_eq_true rfl⟩) (z_preS hK) rfl rfl hl.1 rfl (lv_room (Nat.le_of_ble_eq_true rfl)) dX5_come_9 ⟨by omega, by omega⟩) ?_
  refine lv_if_eq (tgt := 24) hx hb dX5_come_12 (by decide) (fun c12 => ?_) (fun c12 => ?_)
  · have c12 := zb_0 c12
    exact absurd (z_in (a := 1) (b := 9) hm1 hm2 (by omega)) c12
  · have c12 := zb_1 c12
    refine lv_iload_n hx hb dX5_come_15 rfl (lv_at hl 2 rfl) ?_
    refine lv_iconst (v := 1) hx hb dX5_come_16 (by decide) ?_
    refine lv_iconst (v := 5) hx hb dX5_come_17 (by decide) ?_
    refine z_ki (va_runS (As := [.int (nI x), .int 1, .int 5]) (rest := []) hfix (zcX5_isIn l D cI H1 (nI x) 1 5 ) (va_cwS 3 hts gX5_come_X5_isIn rfl rfl rfl (by decide +kernel) ⟨Nat.le_of_ble_eq_true rfl, Nat.le_of_ble_eq_true rfl⟩) (z_preS hK) rfl rfl hl.1 rfl (lv_room (Nat.le_of_ble_eq_true rfl)) dX5_come_18 ⟨by omega, by omega⟩) ?_
    refine lv_if_ne (tgt := 30) hx hb dX5_come_21 (by decide) (fun c21 => ?_) (fun c21 => ?_)
    · have c21 := zb_1 c21
      refine lv_aload_n hx hb dX5_come_30 rfl (lv_at hl 0 rfl) ?_
      refine va_get (D := D) (ci := 5) (v := .int (nI n)) (C := RX5) (T := TX5) (N := 6) hx hb hts hinX5 hown hK hM3 0 rfl rfl 1 (by decide) (hts _ (List.mem_of_getElem? (i := 2) rfl)) (fun _ h9 => h9) rfl dX5_come_31 ?_
      refine lv_bipush (v := 12) hx hb dX5_come_34 (by decide) ?_
      refine lv_icmp_ne (tgt := 45) hx hb dX5_come_36 (by decide) (fun c36 => ?_) (fun c36 => ?_)
      · have c36 := z_ne (a := n) (b := 12) c36 (by omega) (by omega)
        omega
      · have c36 := z_eq (a := n) (b := 12) c36 (by omega) (by omega)
        refine lv_aload_n hx hb dX5_come_39 rfl (lv_at hl 0 rfl) ?_
        refine lv_iconst (v := 2) hx hb dX5_come_40 (by decide) ?_
        refine z_mi (va_runV (As := [.int 2]) (rest := []) hfix (zcX5_fail l D cI H1 b 0 n (jf g me lo c) bf (zn e) (nm rd tk) 2 hM3) (cwV 1 hts gX5_come_X5_fail rfl rfl rfl (by decide +kernel) ⟨Nat.le_of_ble_eq_true rfl, Nat.le_of_ble_eq_true rfl⟩) (z_preV hK hK hM3 (ci := 5) (q0 := 0) rfl rfl rfl) rfl rfl hl.1 rfl (lv_room (Nat.le_of_ble_eq_true rfl)) dX5_come_41 ⟨by omega, by omega⟩) hS (fun q _ h => by simp only [zF] at h ⊢; omega) (fun q h => by simp only [zF] at h ⊢; omega) (fun H4 lo5 hB hz1 hk1 hS => ?_)
        have hz : H4.size = H.size := (hB.2).trans hz
        have hM6 : va_P D vwCl (zMo cI b 2 n (jf g me lo c) bf (zn e) (nm rd tk)) H4 := hB.1
        exact z_iretM (⟨hM6, hz⟩) hx hb hr hlocks hS dX5_come_44
    · have c21 := zb_0 c21
      exact absurd (z_in (a := 1) (b := 5) hx1 hx2 (by omega)) c21
set_option maxHeartbeats 4000000 in
set_option maxRecDepth 100000 in
/-- listen fails -/
theorem zcX5_listen_b1 (l : Launch) (D : va_G) (cI : ClassId) (H : Heap) (b : Nat) (tn : Int32) (n : Nat) (g : zG) (me : Nat → Int32) (lo : Nat → Int32) (c : Nat → Nat) (bf : Nat → Int32) (e : Nat → Nat) (rd : Int32) (tk : Int32) (x : Int32) (y : Int32) (hM : va_P D vwCl (zMo cI b tn n (jf g me lo c) bf (zn e) (nm rd tk)) H) (hI : zI n me lo c e) (hx9 : ¬ ∃ j, j < n ∧ x = nI j) : Met l yX5_listen wsX5_listen ({ frames := 2, cells := 0, slots := 0, locals := 43 } : Room) (zPc D [(cI, .int)] H [.ref b, .int x, .int y]) (zM (fun H1 => va_P D vwCl (zMo cI b 1 n (jf g me lo c) bf (zn e) (nm rd tk)) H1 ∧ H1.size = H.size) (some (.int 0)) (zF b (b + 5))) 0 0 (zF b (b + 5)) := by
  refine z_enter (cc := cX5_listen) (maxL := 5) (ret := (some .int)) (by decide) rfl (Nat.le_of_ble_eq_true rfl) ?_
  intro pg ev s m args below meth cd hfix hr hlocks hname hK hHs ls hl
  obtain ⟨hx, hb, hml, hown, hts⟩ := id hfix
  have hl : lv_has ls 5 [(0, .ref b), (1, .int x), (2, .int y)] := hl
  have hS : va_S (zF b (b + 5)) s.heap H [] := by rw [hHs]; exact va_S.rf
  have hz : H.size = H.size := rfl
  have hinX5 : ∀ w ∈ wsX50, w ∈ wsX5_listen := by decide +kernel
  have hn := zI_n hI
  refine lv_aload_n hx hb dX5_listen_0 rfl (lv_at hl 0 rfl) ?_
  refine lv_iconst (v := 0) hx hb dX5_listen_1 (by decide) ?_
  refine z_put (D := D) (ci := 5) (v := .int 0) (ty := .int) (C := RX5) (T := TX5) (N := 6) hx hb hts hinX5 tyX5 tyX5_ok nmX5 hown hK hM (by simp only [zF]; omega) hS 0 rfl rfl 0 (by decide) (hts _ (List.mem_of_getElem? (i := 1) rfl)) (fun _ h9 => h9) rfl (by decide +kernel) rfl rfl (Nat.le_of_ble_eq_true rfl) dX5_listen_2 (fun H1 lo2 hP1 hz1 hk1 hS => ?_)
  have hz : H1.size = H.size := by omega
  have hM3 : va_P D vwCl (zMo cI b 0 n (jf g me lo c) bf (zn e) (nm rd tk)) H1 := z_set zMo_c hM 0 rfl hP1 (fun q _ h => hk1 q h)
  refine lv_aload_n hx hb dX5_listen_5 rfl (lv_at hl 0 rfl) ?_
  refine lv_iload_n hx hb dX5_listen_6 rfl (lv_at hl 1 rfl) ?_
  refine z_ki (va_runV (As := [.int x]) (rest := []) hfix (zcX5_isParrot l D cI H1 b 0 n (jf g me lo c) bf (zn e) (nm rd tk) x hM3) (cwV 1 hts gX5_listen_X5_isParrot rfl rfl rfl (by decide +kernel) ⟨Nat.le_of_ble_eq_true rfl, Nat.le_of_ble_eq_true rfl⟩) (z_preV hK hK hM3 (ci := 5) (q0 := 0) rfl rfl rfl) rfl rfl hl.1 rfl (lv_room (Nat.le_of_ble_eq_true rfl)) dX5_listen_7 ⟨by omega, by omega⟩) ?_
  refine lv_if_eq (tgt := 21) hx hb dX5_listen_10 (by decide) (fun c10 => ?_) (fun c10 => ?_)
  · have c10 := zb_0 c10
    refine lv_aload_n hx hb dX5_listen_21 rfl (lv_at hl 0 rfl) ?_
    refine lv_iconst (v := 1) hx hb dX5_listen_22 (by decide) ?_
    refine z_mi (va_runV (As := [.int 1]) (rest := []) hfix (zcX5_fail l D cI H1 b 0 n (jf g me lo c) bf (zn e) (nm rd tk) 1 hM3) (cwV 1 hts gX5_listen_X5_fail rfl rfl rfl (by decide +kernel) ⟨Nat.le_of_ble_eq_true rfl, Nat.le_of_ble_eq_true rfl⟩) (z_preV hK hK hM3 (ci := 5) (q0 := 0) rfl rfl rfl) rfl rfl hl.1 rfl (lv_room (Nat.le_of_ble_eq_true rfl)) dX5_listen_23 ⟨by omega, by omega⟩) hS (fun q _ h => by simp only [zF] at h ⊢; omega) (fun q h => by simp only [zF] at h ⊢; omega) (fun H4 lo5 hB hz1 hk1 hS => ?_)
    have hz : H4.size = H.size := (hB.2).trans hz
    have hM6 : va_P D vwCl (zMo cI b 1 n (jf g me lo c) bf (zn e) (nm rd tk)) H4 := hB.1
    exact z_iretM (⟨hM6, hz⟩) hx hb hr hlocks hS dX5_listen_26
  · have c10 := zb_1 c10
    exact absurd ((z_isP hn).mp c10) hx9
set_option maxHeartbeats 4000000 in
set_option maxRecDepth 100000 in
/-- listen fails -/
theorem zcX5_listen_b2 (l : Launch) (D : va_G) (cI : ClassId) (H : Heap) (b : Nat) (tn : Int32) (n : Nat) (g : zG) (me : Nat → Int32) (lo : Nat → Int32) (c : Nat → Nat) (bf : Nat → Int32) (e : Nat → Nat) (rd : Int32) (tk : Int32) (p : Nat) (x : Int32) (hM : va_P D vwCl (zMo cI b tn n (jf g me lo c) bf (zn e) (nm rd tk)) H) (hI : zI n me lo c e) (hp : p < n) (hx9 : ¬ ∃ j, j < n ∧ x = nI j) : Met l yX5_listen wsX5_listen ({ frames := 2, cells := 0, slots := 0, locals := 43 } : Room) (zPc D [(cI, .int)] H [.ref b, .int (nI p), .int x]) (zM (fun H1 => va_P D vwCl (zMo cI b 1 n (jf g me lo c) bf (zn e) (nm rd tk)) H1 ∧ H1.size = H.size) (some (.int 0)) (zF b (b + 5))) 0 0 (zF b (b + 5)) := by
  refine z_enter (cc := cX5_listen) (maxL := 5) (ret := (some .int)) (by decide) rfl (Nat.le_of_ble_eq_true rfl) ?_
  intro pg ev s m args below meth cd hfix hr hlocks hname hK hHs ls hl
  obtain ⟨hx, hb, hml, hown, hts⟩ := id hfix
  have hl : lv_has ls 5 [(0, .ref b), (1, .int (nI p)), (2, .int x)] := hl
  have hS : va_S (zF b (b + 5)) s.heap H [] := by rw [hHs]; exact va_S.rf
  have hz : H.size = H.size := rfl
  have hinX5 : ∀ w ∈ wsX50, w ∈ wsX5_listen := by decide +kernel
  have hn := zI_n hI
  refine lv_aload_n hx hb dX5_listen_0 rfl (lv_at hl 0 rfl) ?_
  refine lv_iconst (v := 0) hx hb dX5_listen_1 (by decide) ?_
  refine z_put (D := D) (ci := 5) (v := .int 0) (ty := .int) (C := RX5) (T := TX5) (N := 6) hx hb hts hinX5 tyX5 tyX5_ok nmX5 hown hK hM (by simp only [zF]; omega) hS 0 rfl rfl 0 (by decide) (hts _ (List.mem_of_getElem? (i := 1) rfl)) (fun _ h9 => h9) rfl (by decide +kernel) rfl rfl (Nat.le_of_ble_eq_true rfl) dX5_listen_2 (fun H1 lo2 hP1 hz1 hk1 hS => ?_)
  have hz : H1.size = H.size := by omega
  have hM3 : va_P D vwCl (zMo cI b 0 n (jf g me lo c) bf (zn e) (nm rd tk)) H1 := z_set zMo_c hM 0 rfl hP1 (fun q _ h => hk1 q h)
  refine lv_aload_n hx hb dX5_listen_5 rfl (lv_at hl 0 rfl) ?_
  refine lv_iload_n hx hb dX5_listen_6 rfl (lv_at hl 1 rfl) ?_
  refine z_ki (va_runV (As := [.int (nI p)]) (rest := []) hfix (zcX5_isParrot l D cI H1 b 0 n (jf g me lo c) bf (zn e) (nm rd tk) (nI p) hM3) (cwV 1 hts gX5_listen_X5_isParrot rfl rfl rfl (by decide +kernel) ⟨Nat.le_of_ble_eq_true rfl, Nat.le_of_ble_eq_true rfl⟩) (z_preV hK hK hM3 (ci := 5) (q0 := 0) rfl rfl rfl) rfl rfl hl.1 rfl (lv_room (Nat.le_of_ble_eq_true rfl)) dX5_listen_7 ⟨by omega, by omega⟩) ?_
  refine lv_if_eq (tgt := 21) hx hb dX5_listen_10 (by decide) (fun c10 => ?_) (fun c10 => ?_)
  · have c10 := zb_0 c10
    exact absurd ((z_isP hn).mpr ⟨p, hp, rfl⟩) c10
  · have c10 := zb_1 c10
    refine lv_aload_n hx hb dX5_listen_13 rfl (lv_at hl 0 rfl) ?_
    refine lv_iload_n hx hb dX5_listen_14 rfl (lv_at hl 2 rfl) ?_
    refine z_ki (va_runV (As := [.int x]) (rest := []) hfix (zcX5_isParrot l D cI H1 b 0 n (jf g me lo c) bf (zn e) (nm rd tk) x hM3) (cwV 1 hts gX5_listen_X5_isParrot rfl rfl rfl (by decide +kernel) ⟨Nat.le_of_ble_eq_true rfl, Nat.le_of_ble_eq_true rfl⟩) (z_preV hK hK hM3 (ci := 5) (q0 := 0) rfl rfl rfl) rfl rfl hl.1 rfl (lv_room (Nat.le_of_ble_eq_true rfl)) dX5_listen_15 ⟨by omega, by omega⟩) ?_
    refine lv_if_ne (tgt := 27) hx hb dX5_listen_18 (by decide) (fun c18 => ?_) (fun c18 => ?_)
    · have c18 := zb_1 c18
      exact absurd ((z_isP hn).mp c18) hx9
    · have c18 := zb_0 c18
      refine lv_aload_n hx hb dX5_listen_21 rfl (lv_at hl 0 rfl) ?_
      refine lv_iconst (v := 1) hx hb dX5_listen_22 (by decide) ?_
      refine z_mi (va_runV (As := [.int 1]) (rest := []) hfix (zcX5_fail l D cI H1 b 0 n (jf g me lo c) bf (zn e) (nm rd tk) 1 hM3) (cwV 1 hts gX5_listen_X5_fail rfl rfl rfl (by decide +kernel) ⟨Nat.le_of_ble_eq_true rfl, Nat.le_of_ble_eq_true rfl⟩) (z_preV hK hK hM3 (ci := 5) (q0 := 0) rfl rfl rfl) rfl rfl hl.1 rfl (lv_room (Nat.le_of_ble_eq_true rfl)) dX5_listen_23 ⟨by omega, by omega⟩) hS (fun q _ h => by simp only [zF] at h ⊢; omega) (fun q h => by simp only [zF] at h ⊢; omega) (fun H4 lo5 hB hz1 hk1 hS => ?_)
      have hz : H4.size = H.size := (hB.2).trans hz
      have hM6 : va_P D vwCl (zMo cI b 1 n (jf g me lo c) bf (zn e) (nm rd tk)) H4 := hB.1
      exact z_iretM (⟨hM6, hz⟩) hx hb hr hlocks hS dX5_listen_26
set_option maxHeartbeats 4000000 in
set_option maxRecDepth 100000 in
/-- listen fails -/
theorem zcX5_listen_b3 (l : Launch) (D : va_G) (cI : ClassId) (H : Heap) (b : Nat) (tn : Int32) (n : Nat) (g : zG) (me : Nat → Int32) (lo : Nat → Int32) (c : Nat → Nat) (bf : Nat → Int32) (e : Nat → Nat) (rd : Int32) (tk : Int32) (p : Nat) (hM : va_P D vwCl (zMo cI b tn n (jf g me lo c) bf (zn e) (nm rd tk)) H) (hI : zI n me lo c e) (hp : p < n) : Met l yX5_listen wsX5_listen ({ frames := 2, cells := 0, slots := 0, locals := 43 } : Room) (zPc D [(cI, .int)] H [.ref b, .int (nI p), .int (nI p)]) (zM (fun H1 => va_P D vwCl (zMo cI b 2 n (jf g me lo c) bf (zn e) (nm rd tk)) H1 ∧ H1.size = H.size) (some (.int 0)) (zF b (b + 5))) 0 0 (zF b (b + 5)) := by
  refine z_enter (cc := cX5_listen) (maxL := 5) (ret := (some .int)) (by decide) rfl (Nat.le_of_ble_eq_true rfl) ?_
  intro pg ev s m args below meth cd hfix hr hlocks hname hK hHs ls hl
  obtain ⟨hx, hb, hml, hown, hts⟩ := id hfix
  have hl : lv_has ls 5 [(0, .ref b), (1, .int (nI p)), (2, .int (nI p))] := hl
  have hS : va_S (zF b (b + 5)) s.heap H [] := by rw [hHs]; exact va_S.rf
  have hz : H.size = H.size := rfl
  have hinX5 : ∀ w ∈ wsX50, w ∈ wsX5_listen := by decide +kernel
  have hn := zI_n hI
  refine lv_aload_n hx hb dX5_listen_0 rfl (lv_at hl 0 rfl) ?_
  refine lv_iconst (v := 0) hx hb dX5_listen_1 (by decide) ?_
  refine z_put (D := D) (ci := 5) (v := .int 0) (ty := .int) (C := RX5) (T := TX5) (N := 6) hx hb hts hinX5 tyX5 tyX5_ok nmX5 hown hK hM (by simp only [zF]; omega) hS 0 rfl rfl 0 (by decide) (hts _ (List.mem_of_getElem? (i := 1) rfl)) (fun _ h9 => h9) rfl (by decide +kernel) rfl rfl (Nat.le_of_ble_eq_true rfl) dX5_listen_2 (fun H1 lo2 hP1 hz1 hk1 hS => ?_)
  have hz : H1.size = H.size := by omega
  have hM3 : va_P D vwCl (zMo cI b 0 n (jf g me lo c) bf (zn e) (nm rd tk)) H1 := z_set zMo_c hM 0 rfl hP1 (fun q _ h => hk1 q h)
  refine lv_aload_n hx hb dX5_listen_5 rfl (lv_at hl 0 rfl) ?_
  refine lv_iload_n hx hb dX5_listen_6 rfl (lv_at hl 1 rfl) ?_
  refine z_ki (va_runV (As := [.int (nI p)]) (rest := []) hfix (zcX5_isParrot l D cI H1 b 0 n (jf g me lo c) bf (zn e) (nm rd tk) (nI p) hM3) (cwV 1 hts gX5_listen_X5_isParrot rfl rfl rfl (by decide +kernel) ⟨Nat.le_of_ble_eq_true rfl, Nat.le_of_ble_eq_true rfl⟩) (z_preV hK hK hM3 (ci := 5) (q0 := 0) rfl rfl rfl) rfl rfl hl.1 rfl (lv_room (Nat.le_of_ble_eq_true rfl)) dX5_listen_7 ⟨by omega, by omega⟩) ?_
  refine lv_if_eq (tgt := 21) hx hb dX5_listen_10 (by decide) (fun c10 => ?_) (fun c10 => ?_)
  · have c10 := zb_0 c10
    exact absurd ((z_isP hn).mpr ⟨p, hp, rfl⟩) c10
  · have c10 := zb_1 c10
    refine lv_aload_n hx hb dX5_listen_13 rfl (lv_at hl 0 rfl) ?_
    refine lv_iload_n hx hb dX5_listen_14 rfl (lv_at hl 2 rfl) ?_
    refine z_ki (va_runV (As := [.int (nI p)]) (rest := []) hfix (zcX5_isParrot l D cI H1 b 0 n (jf g me lo c) bf (zn e) (nm rd tk) (nI p) hM3) (cwV 1 hts gX5_listen_X5_isParrot rfl rfl rfl (by decide +kernel) ⟨Nat.le_of_ble_eq_true rfl, Nat.le_of_ble_eq_true rfl⟩) (z_preV hK hK hM3 (ci := 5) (q0 := 0) rfl rfl rfl) rfl rfl hl.1 rfl (lv_room (Nat.le_of_ble_eq_true rfl)) dX5_listen_15 ⟨by omega, by omega⟩) ?_
    refine lv_if_ne (tgt := 27) hx hb dX5_listen_18 (by decide) (fun c18 => ?_) (fun c18 => ?_)
    · have c18 := zb_1 c18
      refine lv_iload_n hx hb dX5_listen_27 rfl (lv_at hl 1 rfl) ?_
      refine lv_iload_n hx hb dX5_listen_28 rfl (lv_at hl 2 rfl) ?_
      refine lv_icmp_ne (tgt := 38) hx hb dX5_listen_29 (by decide) (fun c29 => ?_) (fun c29 => ?_)
      · have c29 := z_ne (a := p) (b := p) c29 (by omega) (by omega)
        exact absurd rfl c29
      · have c29 := z_eq (a := p) (b := p) c29 (by omega) (by omega)
        refine lv_aload_n hx hb dX5_listen_32 rfl (lv_at hl 0 rfl) ?_
        refine lv_iconst (v := 2) hx hb dX5_listen_33 (by decide) ?_
        refine z_mi (va_runV (As := [.int 2]) (rest := []) hfix (zcX5_fail l D cI H1 b 0 n (jf g me lo c) bf (zn e) (nm rd tk) 2 hM3) (cwV 1 hts gX5_listen_X5_fail rfl rfl rfl (by decide +kernel) ⟨Nat.le_of_ble_eq_true rfl, Nat.le_of_ble_eq_true rfl⟩) (z_preV hK hK hM3 (ci := 5) (q0 := 0) rfl rfl rfl) rfl rfl hl.1 rfl (lv_room (Nat.le_of_ble_eq_true rfl)) dX5_listen_34 ⟨by omega, by omega⟩) hS (fun q _ h => by simp only [zF] at h ⊢; omega) (fun q h => by simp only [zF] at h ⊢; omega) (fun H4 lo5 hB hz1 hk1 hS => ?_)
        have hz : H4.size = H.size := (hB.2).trans hz
        have hM6 : va_P D vwCl (zMo cI b 2 n (jf g me lo c) bf (zn e) (nm rd tk)) H4 := hB.1
        exact z_iretM (⟨hM6, hz⟩) hx hb hr hlocks hS dX5_listen_37
    · have c18 := zb_0 c18
      exact absurd ((z_isP hn).mpr ⟨p, hp, rfl⟩) c18
set_option maxHeartbeats 4000000 in
set_option maxRecDepth 100000 in
/-- listen fails -/
theorem zcX5_listen_b4 (l : Launch) (D : va_G) (cI : ClassId) (H : Heap) (b : Nat) (tn : Int32) (n : Nat) (g : zG) (me : Nat → Int32) (lo : Nat → Int32) (c : Nat → Nat) (bf : Nat → Int32) (e : Nat → Nat) (rd : Int32) (tk : Int32) (p : Nat) (o : Nat) (hM : va_P D vwCl (zMo cI b tn n (jf g me lo c) bf (zn e) (nm rd tk)) H) (hI : zI n me lo c e) (hp : p < n) (ho : o < n) (hpo9 : ¬ p = o) (hpn : po e p o (c p) = none) (hc9 : ¬ c p < 4) : Met l yX5_listen wsX5_listen ({ frames := 2, cells := 0, slots := 0, locals := 45 } : Room) (zPc D [(cI, .int)] H [.ref b, .int (nI p), .int (nI o)]) (zM (fun H1 => va_P D vwCl (zMo cI b 3 n (jf g me lo c) bf (zn e) (nm rd tk)) H1 ∧ H1.size = H.size) (some (.int 0)) (zF b (b + 5))) 0 0 (zF b (b + 5)) := by
  refine z_enter (cc := cX5_listen) (maxL := 5) (ret := (some .int)) (by decide) rfl (Nat.le_of_ble_eq_true rfl) ?_
  intro pg ev s m args below meth cd hfix hr hlocks hname hK hHs ls hl
  obtain ⟨hx, hb, hml, hown, hts⟩ := id hfix
  have hl : lv_has ls 5 [(0, .ref b), (1, .int (nI p)), (2, .int (nI o))] := hl
  have hS : va_S (zF b (b + 5)) s.heap H [] := by rw [hHs]; exact va_S.rf
  have hz : H.size = H.size := rfl
  have hinX5 : ∀ w ∈ wsX50, w ∈ wsX5_listen := by decide +kernel
  have hn := zI_n hI
  have hc4 := zI_c hI p
  refine lv_aload_n hx hb dX5_listen_0 rfl (lv_at hl 0 rfl) ?_
  refine lv_iconst (v := 0) hx hb dX5_listen_1 (by decide) ?_
  refine z_put (D := D) (ci := 5) (v := .int 0) (ty := .int) (C := RX5) (T := TX5) (N := 6) hx hb hts hinX5 tyX5 tyX5_ok nmX5 hown hK hM (by simp only [zF]; omega) hS 0 rfl rfl 0 (by decide) (hts _ (List.mem_of_getElem? (i := 1) rfl)) (fun _ h9 => h9) rfl (by decide +kernel) rfl rfl (Nat.le_of_ble_eq_true rfl) dX5_listen_2 (fun H1 lo2 hP1 hz1 hk1 hS => ?_)
  have hz : H1.size = H.size := by omega
  have hM3 : va_P D vwCl (zMo cI b 0 n (jf g me lo c) bf (zn e) (nm rd tk)) H1 := z_set zMo_c hM 0 rfl hP1 (fun q _ h => hk1 q h)
  refine lv_aload_n hx hb dX5_listen_5 rfl (lv_at hl 0 rfl) ?_
  refine lv_iload_n hx hb dX5_listen_6 rfl (lv_at hl 1 rfl) ?_
  refine z_ki (va_runV (As := [.int (nI p)]) (rest := []) hfix (zcX5_isParrot l D cI H1 b 0 n (jf g me lo c) bf (zn e) (nm rd tk) (nI p) hM3) (cwV 1 hts gX5_listen_X5_isParrot rfl rfl rfl (by decide +kernel) ⟨Nat.le_of_ble_eq_true rfl, Nat.le_of_ble_eq_true rfl⟩) (z_preV hK hK hM3 (ci := 5) (q0 := 0) rfl rfl rfl) rfl rfl hl.1 rfl (lv_room (Nat.le_of_ble_eq_true rfl)) dX5_listen_7 ⟨by omega, by omega⟩) ?_
  refine lv_if_eq (tgt := 21) hx hb dX5_listen_10 (by decide) (fun c10 => ?_) (fun c10 => ?_)
  · have c10 := zb_0 c10
    exact absurd ((z_isP hn).mpr ⟨p, hp, rfl⟩) c10
  · have c10 := zb_1 c10
    refine lv_aload_n hx hb dX5_listen_13 rfl (lv_at hl 0 rfl) ?_
    refine lv_iload_n hx hb dX5_listen_14 rfl (lv_at hl 2 rfl) ?_
    refine z_ki (va_runV (As := [.int (nI o)]) (rest := []) hfix (zcX5_isParrot l D cI H1 b 0 n (jf g me lo c) bf (zn e) (nm rd tk) (nI o) hM3) (cwV 1 hts gX5_listen_X5_isParrot rfl rfl rfl (by decide +kernel) ⟨Nat.le_of_ble_eq_true rfl, Nat.le_of_ble_eq_true rfl⟩) (z_preV hK hK hM3 (ci := 5) (q0 := 0) rfl rfl rfl) rfl rfl hl.1 rfl (lv_room (Nat.le_of_ble_eq_true rfl)) dX5_listen_15 ⟨by omega, by omega⟩) ?_
    refine lv_if_ne (tgt := 27) hx hb dX5_listen_18 (by decide) (fun c18 => ?_) (fun c18 => ?_)
    · have c18 := zb_1 c18
      refine lv_iload_n hx hb dX5_listen_27 rfl (lv_at hl 1 rfl) ?_
      refine lv_iload_n hx hb dX5_listen_28 rfl (lv_at hl 2 rfl) ?_
      refine lv_icmp_ne (tgt := 38) hx hb dX5_listen_29 (by decide) (fun c29 => ?_) (fun c29 => ?_)
      · have c29 := z_ne (a := p) (b := o) c29 (by omega) (by omega)
        refine lv_aload_n hx hb dX5_listen_38 rfl (lv_at hl 0 rfl) ?_
        refine lv_iload_n hx hb dX5_listen_39 rfl (lv_at hl 1 rfl) ?_
        refine lv_iload_n hx hb dX5_listen_40 rfl (lv_at hl 2 rfl) ?_
        refine z_ki (va_runV (As := [.int (nI p), .int (nI o)]) (rest := []) hfix (zcX5_place l D cI H1 b 0 n g me lo c bf e rd tk p o hM3 hI (by omega) (by omega)) (cwV 2 hts gX5_listen_X5_place rfl rfl rfl (by decide +kernel) ⟨Nat.le_of_ble_eq_true rfl, Nat.le_of_ble_eq_true rfl⟩) (z_preV hK hK hM3 (ci := 5) (q0 := 0) rfl rfl rfl) rfl rfl hl.1 rfl (lv_room (Nat.le_of_ble_eq_true rfl)) dX5_listen_41 ⟨by omega, by omega⟩) ?_
        refine lv_istore_n (lv' := [(3, .int (zo (po e p o (c p)))), (0, .ref b), (1, .int (nI p)), (2, .int (nI o))]) hx hb dX5_listen_44 rfl hl (by decide) rfl (fun ls hl => ?_)
        refine lv_aload_n hx hb dX5_listen_45 rfl (lv_at hl 1 rfl) ?_
        refine lv_iload_n hx hb dX5_listen_46 rfl (lv_at hl 2 rfl) ?_
        refine lv_bipush (v := 9) hx hb dX5_listen_47 (by decide) ?_
        refine z_ki (va_runV (As := [.int (nI p), .int 9]) (rest := []) hfix (zcX5_ju l D cI H1 b 0 n (jf g me lo c) bf (zn e) (nm rd tk) p 9 hM3 (by omega) (by omega)) (cwV 2 hts gX5_listen_X5_ju rfl rfl rfl (by decide +kernel) ⟨Nat.le_of_ble_eq_true rfl, Nat.le_of_ble_eq_true rfl⟩) (z_preV hK hK hM3 (ci := 5) (q0 := 0) rfl rfl rfl) rfl rfl hl.1 rfl (lv_room (Nat.le_of_ble_eq_true rfl)) dX5_listen_49 ⟨by omega, by omega⟩) ?_
        refine z_toi (y := (nI (c p))) (jf_9) ?_
        refine lv_istore (lv' := [(4, .int (nI (c p))), (3, .int (zo (po e p o (c p)))), (0, .ref b), (1, .int (nI p)), (2, .int (nI o))]) hx hb dX5_listen_52 hl (by decide) rfl (fun ls hl => ?_)
        refine lv_iload_n hx hb dX5_listen_54 rfl (lv_at hl 1 rfl) ?_
        refine lv_iconst (v := (-1)) hx hb dX5_listen_55 (by decide) ?_
        refine lv_icmp_ne (tgt := 71) hx hb dX5_listen_56 (by decide) (fun c56 => ?_) (fun c56 => ?_)
        · exact absurd (by rw [hpn]; rfl) c56
        · refine lv_iload hx hb dX5_listen_59 (lv_at hl 0 rfl) ?_
          refine lv_iconst (v := 4) hx hb dX5_listen_61 (by decide) ?_
          refine lv_icmp_ne (tgt := 71) hx hb dX5_listen_62 (by decide) (fun c62 => ?_) (fun c62 => ?_)
          · have c62 := z_ne (a := c p) (b := 4) c62 (by omega) (by omega)
            omega
          · have c62 := z_eq (a := c p) (b := 4) c62 (by omega) (by omega)
            refine lv_aload_n hx hb dX5_listen_65 rfl (lv_at hl 2 rfl) ?_
            refine lv_iconst (v := 3) hx hb dX5_listen_66 (by decide) ?_
            refine z_mi (va_runV (As := [.int 3]) (rest := []) hfix (zcX5_fail l D cI H1 b 0 n (jf g me lo c) bf (zn e) (nm rd tk) 3 hM3) (cwV 1 hts gX5_listen_X5_fail rfl rfl rfl (by decide +kernel) ⟨Nat.le_of_ble_eq_true rfl, Nat.le_of_ble_eq_true rfl⟩) (z_preV hK hK hM3 (ci := 5) (q0 := 0) rfl rfl rfl) rfl rfl hl.1 rfl (lv_room (Nat.le_of_ble_eq_true rfl)) dX5_listen_67 ⟨by omega, by omega⟩) hS (fun q _ h => by simp only [zF] at h ⊢; omega) (fun q h => by simp only [zF] at h ⊢; omega) (fun H4 lo5 hB hz1 hk1 hS => ?_)
            have hz : H4.size = H.size := (hB.2).trans hz
            have hM6 : va_P D vwCl (zMo cI b 3 n (jf g me lo c) bf (zn e) (nm rd tk)) H4 := hB.1
            exact z_iretM (⟨hM6, hz⟩) hx hb hr hlocks hS dX5_listen_70
      · have c29 := z_eq (a := p) (b := o) c29 (by omega) (by omega)
        exact absurd c29 hpo9
    · have c18 := zb_0 c18
      exact absurd ((z_isP hn).mpr ⟨o, ho, rfl⟩) c18
set_option maxHeartbeats 4000000 in
set_option maxRecDepth 100000 in
/-- raise fails -/
theorem zcX5_raise_b1 (l : Launch) (D : va_G) (cI : ClassId) (H : Heap) (b : Nat) (tn : Int32) (n : Nat) (g : zG) (me : Nat → Int32) (lo : Nat → Int32) (c : Nat → Nat) (bf : Nat → Int32) (e : Nat → Nat) (rd : Int32) (tk : Int32) (x : Int32) (y : Int32) (hM : va_P D vwCl (zMo cI b tn n (jf g me lo c) bf (zn e) (nm rd tk)) H) (hI : zI n me lo c e) (hx9 : ¬ ∃ j, j < n ∧ x = nI j) : Met l yX5_raise wsX5_raise ({ frames := 2, cells := 0, slots := 0, locals := 43 } : Room) (zPc D [(cI, .int)] H [.ref b, .int x, .int y]) (zM (fun H1 => va_P D vwCl (zMo cI b 1 n (jf g me lo c) bf (zn e) (nm rd tk)) H1 ∧ H1.size = H.size) (some (.int 0)) (zF b (b + 5))) 0 0 (zF b (b + 5)) := by
  refine z_enter (cc := cX5_raise) (maxL := 4) (ret := (some .int)) (by decide) rfl (Nat.le_of_ble_eq_true rfl) ?_
  intro pg ev s m args below meth cd hfix hr hlocks hname hK hHs ls hl
  obtain ⟨hx, hb, hml, hown, hts⟩ := id hfix
  have hl : lv_has ls 4 [(0, .ref b), (1, .int x), (2, .int y)] := hl
  have hS : va_S (zF b (b + 5)) s.heap H [] := by rw [hHs]; exact va_S.rf
  have hz : H.size = H.size := rfl
  have hinX5 : ∀ w ∈ wsX50, w ∈ wsX5_raise := by decide +kernel
  have hn := zI_n hI
  refine lv_aload_n hx hb dX5_raise_0 rfl (lv_at hl 0 rfl) ?_
  refine lv_iconst (v := 0) hx hb dX5_raise_1 (by decide) ?_
  refine z_put (D := D) (ci := 5) (v := .int 0) (ty := .int) (C := RX5) (T := TX5) (N := 6) hx hb hts hinX5 tyX5 tyX5_ok nmX5 hown hK hM (by simp only [zF]; omega) hS 0 rfl rfl 0 (by decide) (hts _ (List.mem_of_getElem? (i := 1) rfl)) (fun _ h9 => h9) rfl (by decide +kernel) rfl rfl (Nat.le_of_ble_eq_true rfl) dX5_raise_2 (fun H1 lo2 hP1 hz1 hk1 hS => ?_)
  have hz : H1.size = H.size := by omega
  have hM3 : va_P D vwCl (zMo cI b 0 n (jf g me lo c) bf (zn e) (nm rd tk)) H1 := z_set zMo_c hM 0 rfl hP1 (fun q _ h => hk1 q h)
  refine lv_aload_n hx hb dX5_raise_5 rfl (lv_at hl 0 rfl) ?_
  refine lv_iload_n hx hb dX5_raise_6 rfl (lv_at hl 1 rfl) ?_
  refine z_ki (va_runV (As := [.int x]) (rest := []) hfix (zcX5_isParrot l D cI H1 b 0 n (jf g me lo c) bf (zn e) (nm rd tk) x hM3) (cwV 1 hts gX5_raise_X5_isParrot rfl rfl rfl (by decide +kernel) ⟨Nat.le_of_ble_eq_true rfl, Nat.le_of_ble_eq_true rfl⟩) (z_preV hK hK hM3 (ci := 5) (q0 := 0) rfl rfl rfl) rfl rfl hl.1 rfl (lv_room (Nat.le_of_ble_eq_true rfl)) dX5_raise_7 ⟨by omega, by omega⟩) ?_
  refine lv_if_ne (tgt := 19) hx hb dX5_raise_10 (by decide) (fun c10 => ?_) (fun c10 => ?_)
  · have c10 := zb_1 c10
    exact absurd ((z_isP hn).mp c10) hx9
  · have c10 := zb_0 c10
    refine lv_aload_n hx hb dX5_raise_13 rfl (lv_at hl 0 rfl) ?_
    refine lv_iconst (v := 1) hx hb dX5_raise_14 (by decide) ?_
    refine z_mi (va_runV (As := [.int 1]) (rest := []) hfix (zcX5_fail l D cI H1 b 0 n (jf g me lo c) bf (zn e) (nm rd tk) 1 hM3) (cwV 1 hts gX5_raise_X5_fail rfl rfl rfl (by decide +kernel) ⟨Nat.le_of_ble_eq_true rfl, Nat.le_of_ble_eq_true rfl⟩) (z_preV hK hK hM3 (ci := 5) (q0 := 0) rfl rfl rfl) rfl rfl hl.1 rfl (lv_room (Nat.le_of_ble_eq_true rfl)) dX5_raise_15 ⟨by omega, by omega⟩) hS (fun q _ h => by simp only [zF] at h ⊢; omega) (fun q h => by simp only [zF] at h ⊢; omega) (fun H4 lo5 hB hz1 hk1 hS => ?_)
    have hz : H4.size = H.size := (hB.2).trans hz
    have hM6 : va_P D vwCl (zMo cI b 1 n (jf g me lo c) bf (zn e) (nm rd tk)) H4 := hB.1
    exact z_iretM (⟨hM6, hz⟩) hx hb hr hlocks hS dX5_raise_18
set_option maxHeartbeats 4000000 in
set_option maxRecDepth 100000 in
/-- raise fails -/
theorem zcX5_raise_b2 (l : Launch) (D : va_G) (cI : ClassId) (H : Heap) (b : Nat) (tn : Int32) (n : Nat) (g : zG) (me : Nat → Int32) (lo : Nat → Int32) (c : Nat → Nat) (bf : Nat → Int32) (e : Nat → Nat) (rd : Int32) (tk : Int32) (p : Nat) (y : Int32) (hM : va_P D vwCl (zMo cI b tn n (jf g me lo c) bf (zn e) (nm rd tk)) H) (hI : zI n me lo c e) (hp : p < n) (hx9 : y < 1 ∨ ¬ y ≤ 5) : Met l yX5_raise wsX5_raise ({ frames := 2, cells := 0, slots := 0, locals := 43 } : Room) (zPc D [(cI, .int)] H [.ref b, .int (nI p), .int y]) (zM (fun H1 => va_P D vwCl (zMo cI b 2 n (jf g me lo c) bf (zn e) (nm rd tk)) H1 ∧ H1.size = H.size) (some (.int 0)) (zF b (b + 5))) 0 0 (zF b (b + 5)) := by
  refine z_enter (cc := cX5_raise) (maxL := 4) (ret := (some .int)) (by decide) rfl (Nat.le_of_ble_eq_true rfl) ?_
  intro pg ev s m args below meth cd hfix hr hlocks hname hK hHs ls hl
  obtain ⟨hx, hb, hml, hown, hts⟩ := id hfix
  have hl : lv_has ls 4 [(0, .ref b), (1, .int (nI p)), (2, .int y)] := hl
  have hS : va_S (zF b (b + 5)) s.heap H [] := by rw [hHs]; exact va_S.rf
  have hz : H.size = H.size := rfl
  have hinX5 : ∀ w ∈ wsX50, w ∈ wsX5_raise := by decide +kernel
  have hn := zI_n hI
  refine lv_aload_n hx hb dX5_raise_0 rfl (lv_at hl 0 rfl) ?_
  refine lv_iconst (v := 0) hx hb dX5_raise_1 (by decide) ?_
  refine z_put (D := D) (ci := 5) (v := .int 0) (ty := .int) (C := RX5) (T := TX5) (N := 6) hx hb hts hinX5 tyX5 tyX5_ok nmX5 hown hK hM (by simp only [zF]; omega) hS 0 rfl rfl 0 (by decide) (hts _ (List.mem_of_getElem? (i := 1) rfl)) (fun _ h9 => h9) rfl (by decide +kernel) rfl rfl (Nat.le_of_ble_eq_true rfl) dX5_raise_2 (fun H1 lo2 hP1 hz1 hk1 hS => ?_)
  have hz : H1.size = H.size := by omega
  have hM3 : va_P D vwCl (zMo cI b 0 n (jf g me lo c) bf (zn e) (nm rd tk)) H1 := z_set zMo_c hM 0 rfl hP1 (fun q _ h => hk1 q h)
  refine lv_aload_n hx hb dX5_raise_5 rfl (lv_at hl 0 rfl) ?_
  refine lv_iload_n hx hb dX5_raise_6 rfl (lv_at hl 1 rfl) ?_
  refine z_ki (va_runV (As := [.int (nI p)]) (rest := []) hfix (zcX5_isParrot l D cI H1 b 0 n (jf g me lo c) bf (zn e) (nm rd tk) (nI p) hM3) (cwV 1 hts gX5_raise_X5_isParrot rfl rfl rfl (by decide +kernel) ⟨Nat.le_of_ble_eq_true rfl, Nat.le_of_ble_eq_true rfl⟩) (z_preV hK hK hM3 (ci := 5) (q0 := 0) rfl rfl rfl) rfl rfl hl.1 rfl (lv_room (Nat.le_of_ble_eq_true rfl)) dX5_raise_7 ⟨by omega, by omega⟩) ?_
  refine lv_if_ne (tgt := 19) hx hb dX5_raise_10 (by decide) (fun c10 => ?_) (fun c10 => ?_)
  · have c10 := zb_1 c10
    refine lv_iload_n hx hb dX5_raise_19 rfl (lv_at hl 2 rfl) ?_
    refine lv_iconst (v := 1) hx hb dX5_raise_20 (by decide) ?_
    refine lv_iconst (v := 5) hx hb dX5_raise_21 (by decide) ?_
    refine z_ki (va_runS (As := [.int y, .int 1, .int 5]) (rest := []) hfix (zcX5_isIn l D cI H1 y 1 5 ) (va_cwS 3 hts gX5_raise_X5_isIn rfl rfl rfl (by decide +kernel) ⟨Nat.le_of_ble_eq_true rfl, Nat.le_of_ble_eq_true rfl⟩) (z_preS hK) rfl rfl hl.1 rfl (lv_room (Nat.le_of_ble_eq_true rfl)) dX5_raise_22 ⟨by omega, by omega⟩) ?_
    refine lv_if_ne (tgt := 34) hx hb dX5_raise_25 (by decide) (fun c25 => ?_) (fun c25 => ?_)
    · have c25 := zb_1 c25
      exact absurd c25 (z_isIn.mpr hx9)
    · have c25 := zb_0 c25
      refine lv_aload_n hx hb dX5_raise_28 rfl (lv_at hl 0 rfl) ?_
      refine lv_iconst (v := 2) hx hb dX5_raise_29 (by decide) ?_
      refine z_mi (va_runV (As := [.int 2]) (rest := []) hfix (zcX5_fail l D cI H1 b 0 n (jf g me lo c) bf (zn e) (nm rd tk) 2 hM3) (cwV 1 hts gX5_raise_X5_fail rfl rfl rfl (by decide +kernel) ⟨Nat.le_of_ble_eq_true rfl, Nat.le_of_ble_eq_true rfl⟩) (z_preV hK hK hM3 (ci := 5) (q0 := 0) rfl rfl rfl) rfl rfl hl.1 rfl (lv_room (Nat.le_of_ble_eq_true rfl)) dX5_raise_30 ⟨by omega, by omega⟩) hS (fun q _ h => by simp only [zF] at h ⊢; omega) (fun q h => by simp only [zF] at h ⊢; omega) (fun H4 lo5 hB hz1 hk1 hS => ?_)
      have hz : H4.size = H.size := (hB.2).trans hz
      have hM6 : va_P D vwCl (zMo cI b 2 n (jf g me lo c) bf (zn e) (nm rd tk)) H4 := hB.1
      exact z_iretM (⟨hM6, hz⟩) hx hb hr hlocks hS dX5_raise_33
  · have c10 := zb_0 c10
    exact absurd ((z_isP hn).mpr ⟨p, hp, rfl⟩) c10
set_option maxHeartbeats 4000000 in
set_option maxRecDepth 100000 in
/-- whisper fails -/
theorem zcX5_whisper_b1 (l : Launch) (D : va_G) (cI : ClassId) (H : Heap) (b : Nat) (tn : Int32) (n : Nat) (g : zG) (me : Nat → Int32) (lo : Nat → Int32) (c : Nat → Nat) (bf : Nat → Int32) (e : Nat → Nat) (rd : Int32) (tk : Int32) (x : Int32) (y : Int32) (z : Int32) (hM : va_P D vwCl (zMo cI b tn n (jf g me lo c) bf (zn e) (nm rd tk)) H) (hI : zI n me lo c e) (hx9 : ¬ ∃ j, j < n ∧ x = nI j) : Met l yX5_whisper wsX5_whisper ({ frames := 2, cells := 0, slots := 0, locals := 43 } : Room) (zPc D [(cI, .int)] H [.ref b, .int x, .int y, .int z]) (zM (fun H1 => va_P D vwCl (zMo cI b 1 n (jf g me lo c) bf (zn e) (nm rd tk)) H1 ∧ H1.size = H.size) (some (.int 0)) (zF b (b + 5))) 0 0 (zF b (b + 5)) := by
  refine z_enter (cc := cX5_whisper) (maxL := 5) (ret := (some .int)) (by decide) rfl (Nat.le_of_ble_eq_true rfl) ?_
  intro pg ev s m args below meth cd hfix hr hlocks hname hK hHs ls hl
  obtain ⟨hx, hb, hml, hown, hts⟩ := id hfix
  have hl : lv_has ls 5 [(0, .ref b), (1, .int x), (2, .int y), (3, .int z)] := hl
  have hS : va_S (zF b (b + 5)) s.heap H [] := by rw [hHs]; exact va_S.rf
  have hz : H.size = H.size := rfl
  have hinX5 : ∀ w ∈ wsX50, w ∈ wsX5_whisper := by decide +kernel
  have hn := zI_n hI
  refine lv_aload_n hx hb dX5_whisper_0 rfl (lv_at hl 0 rfl) ?_
  refine lv_iconst (v := 0) hx hb dX5_whisper_1 (by decide) ?_
  refine z_put (D := D) (ci := 5) (v := .int 0) (ty := .int) (C := RX5) (T := TX5) (N := 6) hx hb hts hinX5 tyX5 tyX5_ok nmX5 hown hK hM (by simp only [zF]; omega) hS 0 rfl rfl 0 (by decide) (hts _ (List.mem_of_getElem? (i := 1) rfl)) (fun _ h9 => h9) rfl (by decide +kernel) rfl rfl (Nat.le_of_ble_eq_true rfl) dX5_whisper_2 (fun H1 lo2 hP1 hz1 hk1 hS => ?_)
  have hz : H1.size = H.size := by omega
  have hM3 : va_P D vwCl (zMo cI b 0 n (jf g me lo c) bf (zn e) (nm rd tk)) H1 := z_set zMo_c hM 0 rfl hP1 (fun q _ h => hk1 q h)
  refine lv_aload_n hx hb dX5_whisper_5 rfl (lv_at hl 0 rfl) ?_
  refine lv_iload_n hx hb dX5_whisper_6 rfl (lv_at hl 1 rfl) ?_
  refine z_ki (va_runV (As := [.int x]) (rest := []) hfix (zcX5_isParrot l D cI H1 b 0 n (jf g me lo c) bf (zn e) (nm rd tk) x hM3) (cwV 1 hts gX5_whisper_X5_isParrot rfl rfl rfl (by decide +kernel) ⟨Nat.le_of_ble_eq_true rfl, Nat.le_of_ble_eq_true rfl⟩) (z_preV hK hK hM3 (ci := 5) (q0 := 0) rfl rfl rfl) rfl rfl hl.1 rfl (lv_room (Nat.le_of_ble_eq_true rfl)) dX5_whisper_7 ⟨by omega, by omega⟩) ?_
  refine lv_if_ne (tgt := 19) hx hb dX5_whisper_10 (by decide) (fun c10 => ?_) (fun c10 => ?_)
  · have c10 := zb_1 c10
    exact absurd ((z_isP hn).mp c10) hx9
  · have c10 := zb_0 c10
    refine lv_aload_n hx hb dX5_whisper_13 rfl (lv_at hl 0 rfl) ?_
    refine lv_iconst (v := 1) hx hb dX5_whisper_14 (by decide) ?_
    refine z_mi (va_runV (As := [.int 1]) (rest := []) hfix (zcX5_fail l D cI H1 b 0 n (jf g me lo c) bf (zn e) (nm rd tk) 1 hM3) (cwV 1 hts gX5_whisper_X5_fail rfl rfl rfl (by decide +kernel) ⟨Nat.le_of_ble_eq_true rfl, Nat.le_of_ble_eq_true rfl⟩) (z_preV hK hK hM3 (ci := 5) (q0 := 0) rfl rfl rfl) rfl rfl hl.1 rfl (lv_room (Nat.le_of_ble_eq_true rfl)) dX5_whisper_15 ⟨by omega, by omega⟩) hS (fun q _ h => by simp only [zF] at h ⊢; omega) (fun q h => by simp only [zF] at h ⊢; omega) (fun H4 lo5 hB hz1 hk1 hS => ?_)
    have hz : H4.size = H.size := (hB.2).trans hz
    have hM6 : va_P D vwCl (zMo cI b 1 n (jf g me lo c) bf (zn e) (nm rd tk)) H4 := hB.1
    exact z_iretM (⟨hM6, hz⟩) hx hb hr hlocks hS dX5_whisper_18
set_option maxHeartbeats 4000000 in
set_option maxRecDepth 100000 in
/-- whisper fails -/
theorem zcX5_whisper_b2 (l : Launch) (D : va_G) (cI : ClassId) (H : Heap) (b : Nat) (tn : Int32) (n : Nat) (g : zG) (me : Nat → Int32) (lo : Nat → Int32) (c : Nat → Nat) (bf : Nat → Int32) (e : Nat → Nat) (rd : Int32) (tk : Int32) (p : Nat) (y : Int32) (z : Int32) (hM : va_P D vwCl (zMo cI b tn n (jf g me lo c) bf (zn e) (nm rd tk)) H) (hI : zI n me lo c e) (hp : p < n) (hx9 : y < 0 ∨ ¬ y ≤ 9999) : Met l yX5_whisper wsX5_whisper ({ frames := 2, cells := 0, slots := 0, locals := 43 } : Room) (zPc D [(cI, .int)] H [.ref b, .int (nI p), .int y, .int z]) (zM (fun H1 => va_P D vwCl (zMo cI b 2 n (jf g me lo c) bf (zn e) (nm rd tk)) H1 ∧ H1.size = H.size) (some (.int 0)) (zF b (b + 5))) 0 0 (zF b (b + 5)) := by
  refine z_enter (cc := cX5_whisper) (maxL := 5) (ret := (some .int)) (by decide) rfl (Nat.le_of_ble_eq_true rfl) ?_
  intro pg ev s m args below meth cd hfix hr hlocks hname hK hHs ls hl
  obtain ⟨hx, hb, hml, hown, hts⟩ := id hfix
  have hl : lv_has ls 5 [(0, .ref b), (1, .int (nI p)), (2, .int y), (3, .int z)] := hl
  have hS : va_S (zF b (b + 5)) s.heap H [] := by rw [hHs]; exact va_S.rf
  have hz : H.size = H.size := rfl
  have hinX5 : ∀ w ∈ wsX50, w ∈ wsX5_whisper := by decide +kernel
  have hn := zI_n hI
  refine lv_aload_n hx hb dX5_whisper_0 rfl (lv_at hl 0 rfl) ?_
  refine lv_iconst (v := 0) hx hb dX5_whisper_1 (by decide) ?_
  refine z_put (D := D) (ci := 5) (v := .int 0) (ty := .int) (C := RX5) (T := TX5) (N := 6) hx hb hts hinX5 tyX5 tyX5_ok nmX5 hown hK hM (by simp only [zF]; omega) hS 0 rfl rfl 0 (by decide) (hts _ (List.mem_of_getElem? (i := 1) rfl)) (fun _ h9 => h9) rfl (by decide +kernel) rfl rfl (Nat.le_of_ble_eq_true rfl) dX5_whisper_2 (fun H1 lo2 hP1 hz1 hk1 hS => ?_)
  have hz : H1.size = H.size := by omega
  have hM3 : va_P D vwCl (zMo cI b 0 n (jf g me lo c) bf (zn e) (nm rd tk)) H1 := z_set zMo_c hM 0 rfl hP1 (fun q _ h => hk1 q h)
  refine lv_aload_n hx hb dX5_whisper_5 rfl (lv_at hl 0 rfl) ?_
  refine lv_iload_n hx hb dX5_whisper_6 rfl (lv_at hl 1 rfl) ?_
  refine z_ki (va_runV (As := [.int (nI p)]) (rest := []) hfix (zcX5_isParrot l D cI H1 b 0 n (jf g me lo c) bf (zn e) (nm rd tk) (nI p) hM3) (cwV 1 hts gX5_whisper_X5_isParrot rfl rfl rfl (by decide +kernel) ⟨Nat.le_of_ble_eq_true rfl, Nat.le_of_ble_eq_true rfl⟩) (z_preV hK hK hM3 (ci := 5) (q0 := 0) rfl rfl rfl) rfl rfl hl.1 rfl (lv_room (Nat.le_of_ble_eq_true rfl)) dX5_whisper_7 ⟨by omega, by omega⟩) ?_
  refine lv_if_ne (tgt := 19) hx hb dX5_whisper_10 (by decide) (fun c10 => ?_) (fun c10 => ?_)
  · have c10 := zb_1 c10
    refine lv_iload_n hx hb dX5_whisper_19 rfl (lv_at hl 2 rfl) ?_
    refine z_ki (va_runS (As := [.int y]) (rest := []) hfix (zcX5_isWord l D cI H1 y ) (va_cwS 1 hts gX5_whisper_X5_isWord rfl rfl rfl (by decide +kernel) ⟨Nat.le_of_ble_eq_true rfl, Nat.le_of_ble_eq_true rfl⟩) (z_preS hK) rfl rfl hl.1 rfl (lv_room (Nat.le_of_ble_eq_true rfl)) dX5_whisper_20 ⟨by omega, by omega⟩) ?_
    refine lv_if_eq (tgt := 36) hx hb dX5_whisper_23 (by decide) (fun c23 => ?_) (fun c23 => ?_)
    · have c23 := zb_0 c23
      refine lv_aload_n hx hb dX5_whisper_36 rfl (lv_at hl 0 rfl) ?_
      refine lv_iconst (v := 2) hx hb dX5_whisper_37 (by decide) ?_
      refine z_mi (va_runV (As := [.int 2]) (rest := []) hfix (zcX5_fail l D cI H1 b 0 n (jf g me lo c) bf (zn e) (nm rd tk) 2 hM3) (cwV 1 hts gX5_whisper_X5_fail rfl rfl rfl (by decide +kernel) ⟨Nat.le_of_ble_eq_true rfl, Nat.le_of_ble_eq_true rfl⟩) (z_preV hK hK hM3 (ci := 5) (q0 := 0) rfl rfl rfl) rfl rfl hl.1 rfl (lv_room (Nat.le_of_ble_eq_true rfl)) dX5_whisper_38 ⟨by omega, by omega⟩) hS (fun q _ h => by simp only [zF] at h ⊢; omega) (fun q h => by simp only [zF] at h ⊢; omega) (fun H4 lo5 hB hz1 hk1 hS => ?_)
      have hz : H4.size = H.size := (hB.2).trans hz
      have hM6 : va_P D vwCl (zMo cI b 2 n (jf g me lo c) bf (zn e) (nm rd tk)) H4 := hB.1
      exact z_iretM (⟨hM6, hz⟩) hx hb hr hlocks hS dX5_whisper_41
    · have c23 := zb_1 c23
      exact absurd c23 (z_isIn.mpr hx9)
  · have c10 := zb_0 c10
    exact absurd ((z_isP hn).mpr ⟨p, hp, rfl⟩) c10
set_option maxHeartbeats 4000000 in
set_option maxRecDepth 100000 in
/-- whisper fails -/
theorem zcX5_whisper_b3 (l : Launch) (D : va_G) (cI : ClassId) (H : Heap) (b : Nat) (tn : Int32) (n : Nat) (g : zG) (me : Nat → Int32) (lo : Nat → Int32) (c : Nat → Nat) (bf : Nat → Int32) (e : Nat → Nat) (rd : Int32) (tk : Int32) (p : Nat) (w : Nat) (z : Int32) (hM : va_P D vwCl (zMo cI b tn n (jf g me lo c) bf (zn e) (nm rd tk)) H) (hI : zI n me lo c e) (hp : p < n) (hw : w ≤ 9999) (hx9 : z < 0 ∨ ¬ z ≤ 9) : Met l yX5_whisper wsX5_whisper ({ frames := 2, cells := 0, slots := 0, locals := 43 } : Room) (zPc D [(cI, .int)] H [.ref b, .int (nI p), .int (nI w), .int z]) (zM (fun H1 => va_P D vwCl (zMo cI b 2 n (jf g me lo c) bf (zn e) (nm rd tk)) H1 ∧ H1.size = H.size) (some (.int 0)) (zF b (b + 5))) 0 0 (zF b (b + 5)) := by
  refine z_enter (cc := cX5_whisper) (maxL := 5) (ret := (some .int)) (by decide) rfl (Nat.le_of_ble_eq_true rfl) ?_
  intro pg ev s m args below meth cd hfix hr hlocks hname hK hHs ls hl
  obtain ⟨hx, hb, hml, hown, hts⟩ := id hfix
  have hl : lv_has ls 5 [(0, .ref b), (1, .int (nI p)), (2, .int (nI w)), (3, .int z)] := hl
  have hS : va_S (zF b (b + 5)) s.heap H [] := by rw [hHs]; exact va_S.rf
  have hz : H.size = H.size := rfl
  have hinX5 : ∀ w ∈ wsX50, w ∈ wsX5_whisper := by decide +kernel
  have hn := zI_n hI
  refine lv_aload_n hx hb dX5_whisper_0 rfl (lv_at hl 0 rfl) ?_
  refine lv_iconst (v := 0) hx hb dX5_whisper_1 (by decide) ?_
  refine z_put (D := D) (ci := 5) (v := .int 0) (ty := .int) (C := RX5) (T := TX5) (N := 6) hx hb hts hinX5 tyX5 tyX5_ok nmX5 hown hK hM (by simp only [zF]; omega) hS 0 rfl rfl 0 (by decide) (hts _ (List.mem_of_getElem? (i := 1) rfl)) (fun _ h9 => h9) rfl (by decide +kernel) rfl rfl (Nat.le_of_ble_eq_true rfl) dX5_whisper_2 (fun H1 lo2 hP1 hz1 hk1 hS => ?_)
  have hz : H1.size = H.size := by omega
  have hM3 : va_P D vwCl (zMo cI b 0 n (jf g me lo c) bf (zn e) (nm rd tk)) H1 := z_set zMo_c hM 0 rfl hP1 (fun q _ h => hk1 q h)
  refine lv_aload_n hx hb dX5_whisper_5 rfl (lv_at hl 0 rfl) ?_
  refine lv_iload_n hx hb dX5_whisper_6 rfl (lv_at hl 1 rfl) ?_
  refine z_ki (va_runV (As := [.int (nI p)]) (rest := []) hfix (zcX5_isParrot l D cI H1 b 0 n (jf g me lo c) bf (zn e) (nm rd tk) (nI p) hM3) (cwV 1 hts gX5_whisper_X5_isParrot rfl rfl rfl (by decide +kernel) ⟨Nat.le_of_ble_eq_true rfl, Nat.le_of_ble_eq_true rfl⟩) (z_preV hK hK hM3 (ci := 5) (q0 := 0) rfl rfl rfl) rfl rfl hl.1 rfl (lv_room (Nat.le_of_ble_eq_true rfl)) dX5_whisper_7 ⟨by omega, by omega⟩) ?_
  refine lv_if_ne (tgt := 19) hx hb dX5_whisper_10 (by decide) (fun c10 => ?_) (fun c10 => ?_)
  · have c10 := zb_1 c10
    refine lv_iload_n hx hb dX5_whisper_19 rfl (lv_at hl 2 rfl) ?_
    refine z_ki (va_runS (As := [.int (nI w)]) (rest := []) hfix (zcX5_isWord l D cI H1 (nI w) ) (va_cwS 1 hts gX5_whisper_X5_isWord rfl rfl rfl (by decide +kernel) ⟨Nat.le_of_ble_eq_true rfl, Nat.le_of_ble_eq_true rfl⟩) (z_preS hK) rfl rfl hl.1 rfl (lv_room (Nat.le_of_ble_eq_true rfl)) dX5_whisper_20 ⟨by omega, by omega⟩) ?_
    refine lv_if_eq (tgt := 36) hx hb dX5_whisper_23 (by decide) (fun c23 => ?_) (fun c23 => ?_)
    · have c23 := zb_0 c23
      exact absurd (z_in (a := 0) (b := 9999) (Nat.zero_le _) hw (by omega)) c23
    · have c23 := zb_1 c23
      refine lv_iload_n hx hb dX5_whisper_26 rfl (lv_at hl 3 rfl) ?_
      refine lv_iconst (v := 0) hx hb dX5_whisper_27 (by decide) ?_
      refine lv_bipush (v := 9) hx hb dX5_whisper_28 (by decide) ?_
      refine z_ki (va_runS (As := [.int z, .int 0, .int 9]) (rest := []) hfix (zcX5_isIn l D cI H1 z 0 9 ) (va_cwS 3 hts gX5_whisper_X5_isIn rfl rfl rfl (by decide +kernel) ⟨Nat.le_of_ble_eq_true rfl, Nat.le_of_ble_eq_true rfl⟩) (z_preS hK) rfl rfl hl.1 rfl (lv_room (Nat.le_of_ble_eq_true rfl)) dX5_whisper_30 ⟨by omega, by omega⟩) ?_
      refine lv_if_ne (tgt := 42) hx hb dX5_whisper_33 (by decide) (fun c33 => ?_) (fun c33 => ?_)
      · have c33 := zb_1 c33
        exact absurd c33 (z_isIn.mpr hx9)
      · have c33 := zb_0 c33
        refine lv_aload_n hx hb dX5_whisper_36 rfl (lv_at hl 0 rfl) ?_
        refine lv_iconst (v := 2) hx hb dX5_whisper_37 (by decide) ?_
        refine z_mi (va_runV (As := [.int 2]) (rest := []) hfix (zcX5_fail l D cI H1 b 0 n (jf g me lo c) bf (zn e) (nm rd tk) 2 hM3) (cwV 1 hts gX5_whisper_X5_fail rfl rfl rfl (by decide +kernel) ⟨Nat.le_of_ble_eq_true rfl, Nat.le_of_ble_eq_true rfl⟩) (z_preV hK hK hM3 (ci := 5) (q0 := 0) rfl rfl rfl) rfl rfl hl.1 rfl (lv_room (Nat.le_of_ble_eq_true rfl)) dX5_whisper_38 ⟨by omega, by omega⟩) hS (fun q _ h => by simp only [zF] at h ⊢; omega) (fun q h => by simp only [zF] at h ⊢; omega) (fun H4 lo5 hB hz1 hk1 hS => ?_)
        have hz : H4.size = H.size := (hB.2).trans hz
        have hM6 : va_P D vwCl (zMo cI b 2 n (jf g me lo c) bf (zn e) (nm rd tk)) H4 := hB.1
        exact z_iretM (⟨hM6, hz⟩) hx hb hr hlocks hS dX5_whisper_41
  · have c10 := zb_0 c10
    exact absurd ((z_isP hn).mpr ⟨p, hp, rfl⟩) c10
set_option maxHeartbeats 4000000 in
set_option maxRecDepth 100000 in
/-- parrot fails -/
theorem zcX5_parrot_b1 (l : Launch) (D : va_G) (cI : ClassId) (H : Heap) (b : Nat) (tn : Int32) (n : Nat) (g : zG) (me : Nat → Int32) (lo : Nat → Int32) (c : Nat → Nat) (bf : Nat → Int32) (e : Nat → Nat) (rd : Int32) (tk : Int32) (x : Int32) (y : Int32) (hM : va_P D vwCl (zMo cI b tn n (jf g me lo c) bf (zn e) (nm rd tk)) H) (hI : zI n me lo c e) (hx9 : ¬ ∃ j, j < n ∧ x = nI j) : Met l yX5_parrot wsX5_parrot ({ frames := 2, cells := 0, slots := 0, locals := 43 } : Room) (zPc D [(cI, .int)] H [.ref b, .int x, .int y]) (zM (fun H1 => va_P D vwCl (zMo cI b 1 n (jf g me lo c) bf (zn e) (nm rd tk)) H1 ∧ H1.size = H.size) (some (.int 0)) (zF b (b + 5))) 0 0 (zF b (b + 5)) := by
  refine z_enter (cc := cX5_parrot) (maxL := 3) (ret := (some .int)) (by decide) rfl (Nat.le_of_ble_eq_true rfl) ?_
  intro pg ev s m args below meth cd hfix hr hlocks hname hK hHs ls hl
  obtain ⟨hx, hb, hml, hown, hts⟩ := id hfix
  have hl : lv_has ls 3 [(0, .ref b), (1, .int x), (2, .int y)] := hl
  have hS : va_S (zF b (b + 5)) s.heap H [] := by rw [hHs]; exact va_S.rf
  have hz : H.size = H.size := rfl
  have hinX5 : ∀ w ∈ wsX50, w ∈ wsX5_parrot := by decide +kernel
  have hn := zI_n hI
  refine lv_aload_n hx hb dX5_parrot_0 rfl (lv_at hl 0 rfl) ?_
  refine lv_iconst (v := 0) hx hb dX5_parrot_1 (by decide) ?_
  refine z_put (D := D) (ci := 5) (v := .int 0) (ty := .int) (C := RX5) (T := TX5) (N := 6) hx hb hts hinX5 tyX5 tyX5_ok nmX5 hown hK hM (by simp only [zF]; omega) hS 0 rfl rfl 0 (by decide) (hts _ (List.mem_of_getElem? (i := 1) rfl)) (fun _ h9 => h9) rfl (by decide +kernel) rfl rfl (Nat.le_of_ble_eq_true rfl) dX5_parrot_2 (fun H1 lo2 hP1 hz1 hk1 hS => ?_)
  have hz : H1.size = H.size := by omega
  have hM3 : va_P D vwCl (zMo cI b 0 n (jf g me lo c) bf (zn e) (nm rd tk)) H1 := z_set zMo_c hM 0 rfl hP1 (fun q _ h => hk1 q h)
  refine lv_aload_n hx hb dX5_parrot_5 rfl (lv_at hl 0 rfl) ?_
  refine lv_iload_n hx hb dX5_parrot_6 rfl (lv_at hl 1 rfl) ?_
  refine z_ki (va_runV (As := [.int x]) (rest := []) hfix (zcX5_isParrot l D cI H1 b 0 n (jf g me lo c) bf (zn e) (nm rd tk) x hM3) (cwV 1 hts gX5_parrot_X5_isParrot rfl rfl rfl (by decide +kernel) ⟨Nat.le_of_ble_eq_true rfl, Nat.le_of_ble_eq_true rfl⟩) (z_preV hK hK hM3 (ci := 5) (q0 := 0) rfl rfl rfl) rfl rfl hl.1 rfl (lv_room (Nat.le_of_ble_eq_true rfl)) dX5_parrot_7 ⟨by omega, by omega⟩) ?_
  refine lv_if_eq (tgt := 32) hx hb dX5_parrot_10 (by decide) (fun c10 => ?_) (fun c10 => ?_)
  · have c10 := zb_0 c10
    refine lv_aload_n hx hb dX5_parrot_32 rfl (lv_at hl 0 rfl) ?_
    refine lv_iconst (v := 1) hx hb dX5_parrot_33 (by decide) ?_
    refine z_mi (va_runV (As := [.int 1]) (rest := []) hfix (zcX5_fail l D cI H1 b 0 n (jf g me lo c) bf (zn e) (nm rd tk) 1 hM3) (cwV 1 hts gX5_parrot_X5_fail rfl rfl rfl (by decide +kernel) ⟨Nat.le_of_ble_eq_true rfl, Nat.le_of_ble_eq_true rfl⟩) (z_preV hK hK hM3 (ci := 5) (q0 := 0) rfl rfl rfl) rfl rfl hl.1 rfl (lv_room (Nat.le_of_ble_eq_true rfl)) dX5_parrot_34 ⟨by omega, by omega⟩) hS (fun q _ h => by simp only [zF] at h ⊢; omega) (fun q h => by simp only [zF] at h ⊢; omega) (fun H4 lo5 hB hz1 hk1 hS => ?_)
    have hz : H4.size = H.size := (hB.2).trans hz
    have hM6 : va_P D vwCl (zMo cI b 1 n (jf g me lo c) bf (zn e) (nm rd tk)) H4 := hB.1
    exact z_iretM (⟨hM6, hz⟩) hx hb hr hlocks hS dX5_parrot_37
  · have c10 := zb_1 c10
    exact absurd ((z_isP hn).mp c10) hx9
set_option maxHeartbeats 4000000 in
set_option maxRecDepth 100000 in
/-- parrot fails -/
theorem zcX5_parrot_b2 (l : Launch) (D : va_G) (cI : ClassId) (H : Heap) (b : Nat) (tn : Int32) (n : Nat) (g : zG) (me : Nat → Int32) (lo : Nat → Int32) (c : Nat → Nat) (bf : Nat → Int32) (e : Nat → Nat) (rd : Int32) (tk : Int32) (p : Nat) (y : Int32) (hM : va_P D vwCl (zMo cI b tn n (jf g me lo c) bf (zn e) (nm rd tk)) H) (hI : zI n me lo c e) (hp : p < n) (hx9 : y < 0 ∨ ¬ y ≤ 6) : Met l yX5_parrot wsX5_parrot ({ frames := 2, cells := 0, slots := 0, locals := 43 } : Room) (zPc D [(cI, .int)] H [.ref b, .int (nI p), .int y]) (zM (fun H1 => va_P D vwCl (zMo cI b 1 n (jf g me lo c) bf (zn e) (nm rd tk)) H1 ∧ H1.size = H.size) (some (.int 0)) (zF b (b + 5))) 0 0 (zF b (b + 5)) := by
  refine z_enter (cc := cX5_parrot) (maxL := 3) (ret := (some .int)) (by decide) rfl (Nat.le_of_ble_eq_true rfl) ?_
  intro pg ev s m args below meth cd hfix hr hlocks hname hK hHs ls hl
  obtain ⟨hx, hb, hml, hown, hts⟩ := id hfix
  have hl : lv_has ls 3 [(0, .ref b), (1, .int (nI p)), (2, .int y)] := hl
  have hS : va_S (zF b (b + 5)) s.heap H [] := by rw [hHs]; exact va_S.rf
  have hz : H.size = H.size := rfl
  have hinX5 : ∀ w ∈ wsX50, w ∈ wsX5_parrot := by decide +kernel
  have hn := zI_n hI
  refine lv_aload_n hx hb dX5_parrot_0 rfl (lv_at hl 0 rfl) ?_
  refine lv_iconst (v := 0) hx hb dX5_parrot_1 (by decide) ?_
  refine z_put (D := D) (ci := 5) (v := .int 0) (ty := .int) (C := RX5) (T := TX5) (N := 6) hx hb hts hinX5 tyX5 tyX5_ok nmX5 hown hK hM (by simp only [zF]; omega) hS 0 rfl rfl 0 (by decide) (hts _ (List.mem_of_getElem? (i := 1) rfl)) (fun _ h9 => h9) rfl (by decide +kernel) rfl rfl (Nat.le_of_ble_eq_true rfl) dX5_parrot_2 (fun H1 lo2 hP1 hz1 hk1 hS => ?_)
  have hz : H1.size = H.size := by omega
  have hM3 : va_P D vwCl (zMo cI b 0 n (jf g me lo c) bf (zn e) (nm rd tk)) H1 := z_set zMo_c hM 0 rfl hP1 (fun q _ h => hk1 q h)
  refine lv_aload_n hx hb dX5_parrot_5 rfl (lv_at hl 0 rfl) ?_
  refine lv_iload_n hx hb dX5_parrot_6 rfl (lv_at hl 1 rfl) ?_
  refine z_ki (va_runV (As := [.int (nI p)]) (rest := []) hfix (zcX5_isParrot l D cI H1 b 0 n (jf g me lo c) bf (zn e) (nm rd tk) (nI p) hM3) (cwV 1 hts gX5_parrot_X5_isParrot rfl rfl rfl (by decide +kernel) ⟨Nat.le_of_ble_eq_true rfl, Nat.le_of_ble_eq_true rfl⟩) (z_preV hK hK hM3 (ci := 5) (q0 := 0) rfl rfl rfl) rfl rfl hl.1 rfl (lv_room (Nat.le_of_ble_eq_true rfl)) dX5_parrot_7 ⟨by omega, by omega⟩) ?_
  refine lv_if_eq (tgt := 32) hx hb dX5_parrot_10 (by decide) (fun c10 => ?_) (fun c10 => ?_)
  · have c10 := zb_0 c10
    exact absurd ((z_isP hn).mpr ⟨p, hp, rfl⟩) c10
  · have c10 := zb_1 c10
    refine lv_iload_n hx hb dX5_parrot_13 rfl (lv_at hl 2 rfl) ?_
    refine lv_iconst (v := 0) hx hb dX5_parrot_14 (by decide) ?_
    refine lv_bipush (v := 6) hx hb dX5_parrot_15 (by decide) ?_
    refine z_ki (va_runS (As := [.int y, .int 0, .int 6]) (rest := []) hfix (zcX5_isIn l D cI H1 y 0 6 ) (va_cwS 3 hts gX5_parrot_X5_isIn rfl rfl rfl (by decide +kernel) ⟨Nat.le_of_ble_eq_true rfl, Nat.le_of_ble_eq_true rfl⟩) (z_preS hK) rfl rfl hl.1 rfl (lv_room (Nat.le_of_ble_eq_true rfl)) dX5_parrot_17 ⟨by omega, by omega⟩) ?_
    refine lv_if_eq (tgt := 32) hx hb dX5_parrot_20 (by decide) (fun c20 => ?_) (fun c20 => ?_)
    · have c20 := zb_0 c20
      refine lv_aload_n hx hb dX5_parrot_32 rfl (lv_at hl 0 rfl) ?_
      refine lv_iconst (v := 1) hx hb dX5_parrot_33 (by decide) ?_
      refine z_mi (va_runV (As := [.int 1]) (rest := []) hfix (zcX5_fail l D cI H1 b 0 n (jf g me lo c) bf (zn e) (nm rd tk) 1 hM3) (cwV 1 hts gX5_parrot_X5_fail rfl rfl rfl (by decide +kernel) ⟨Nat.le_of_ble_eq_true rfl, Nat.le_of_ble_eq_true rfl⟩) (z_preV hK hK hM3 (ci := 5) (q0 := 0) rfl rfl rfl) rfl rfl hl.1 rfl (lv_room (Nat.le_of_ble_eq_true rfl)) dX5_parrot_34 ⟨by omega, by omega⟩) hS (fun q _ h => by simp only [zF] at h ⊢; omega) (fun q h => by simp only [zF] at h ⊢; omega) (fun H4 lo5 hB hz1 hk1 hS => ?_)
      have hz : H4.size = H.size := (hB.2).trans hz
      have hM6 : va_P D vwCl (zMo cI b 1 n (jf g me lo c) bf (zn e) (nm rd tk)) H4 := hB.1
      exact z_iretM (⟨hM6, hz⟩) hx hb hr hlocks hS dX5_parrot_37
    · have c20 := zb_1 c20
      exact absurd c20 (z_isIn.mpr hx9)
set_option maxHeartbeats 4000000 in
set_option maxRecDepth 100000 in
/-- half fails -/
theorem zcX5_half_b1 (l : Launch) (D : va_G) (cI : ClassId) (H : Heap) (b : Nat) (tn : Int32) (n : Nat) (g : zG) (me : Nat → Int32) (lo : Nat → Int32) (c : Nat → Nat) (bf : Nat → Int32) (e : Nat → Nat) (rd : Int32) (tk : Int32) (x : Int32) (h : Int32) (y : Int32) (hM : va_P D vwCl (zMo cI b tn n (jf g me lo c) bf (zn e) (nm rd tk)) H) (hI : zI n me lo c e) (hx9 : ¬ ∃ j, j < n ∧ x = nI j) : Met l yX5_half wsX5_half ({ frames := 2, cells := 0, slots := 0, locals := 43 } : Room) (zPc D [(cI, .int)] H [.ref b, .int x, .int h, .int y]) (zM (fun H1 => va_P D vwCl (zMo cI b 1 n (jf g me lo c) bf (zn e) (nm rd tk)) H1 ∧ H1.size = H.size) (some (.int 0)) (zF b (b + 5))) 0 0 (zF b (b + 5)) := by
  refine z_enter (cc := cX5_half) (maxL := 4) (ret := (some .int)) (by decide) rfl (Nat.le_of_ble_eq_true rfl) ?_
  intro pg ev s m args below meth cd hfix hr hlocks hname hK hHs ls hl
  obtain ⟨hx, hb, hml, hown, hts⟩ := id hfix
  have hl : lv_has ls 4 [(0, .ref b), (1, .int x), (2, .int h), (3, .int y)] := hl
  have hS : va_S (zF b (b + 5)) s.heap H [] := by rw [hHs]; exact va_S.rf
  have hz : H.size = H.size := rfl
  have hinX5 : ∀ w ∈ wsX50, w ∈ wsX5_half := by decide +kernel
  have hn := zI_n hI
  refine lv_aload_n hx hb dX5_half_0 rfl (lv_at hl 0 rfl) ?_
  refine lv_iconst (v := 0) hx hb dX5_half_1 (by decide) ?_
  refine z_put (D := D) (ci := 5) (v := .int 0) (ty := .int) (C := RX5) (T := TX5) (N := 6) hx hb hts hinX5 tyX5 tyX5_ok nmX5 hown hK hM (by simp only [zF]; omega) hS 0 rfl rfl 0 (by decide) (hts _ (List.mem_of_getElem? (i := 1) rfl)) (fun _ h9 => h9) rfl (by decide +kernel) rfl rfl (Nat.le_of_ble_eq_true rfl) dX5_half_2 (fun H1 lo2 hP1 hz1 hk1 hS => ?_)
  have hz : H1.size = H.size := by omega
  have hM3 : va_P D vwCl (zMo cI b 0 n (jf g me lo c) bf (zn e) (nm rd tk)) H1 := z_set zMo_c hM 0 rfl hP1 (fun q _ h => hk1 q h)
  refine lv_aload_n hx hb dX5_half_5 rfl (lv_at hl 0 rfl) ?_
  refine lv_iload_n hx hb dX5_half_6 rfl (lv_at hl 1 rfl) ?_
  refine z_ki (va_runV (As := [.int x]) (rest := []) hfix (zcX5_isParrot l D cI H1 b 0 n (jf g me lo c) bf (zn e) (nm rd tk) x hM3) (cwV 1 hts gX5_half_X5_isParrot rfl rfl rfl (by decide +kernel) ⟨Nat.le_of_ble_eq_true rfl, Nat.le_of_ble_eq_true rfl⟩) (z_preV hK hK hM3 (ci := 5) (q0 := 0) rfl rfl rfl) rfl rfl hl.1 rfl (lv_room (Nat.le_of_ble_eq_true rfl)) dX5_half_7 ⟨by omega, by omega⟩) ?_
  refine lv_if_eq (tgt := 40) hx hb dX5_half_10 (by decide) (fun c10 => ?_) (fun c10 => ?_)
  · have c10 := zb_0 c10
    refine lv_aload_n hx hb dX5_half_40 rfl (lv_at hl 0 rfl) ?_
    refine lv_iconst (v := 1) hx hb dX5_half_41 (by decide) ?_
    refine z_mi (va_runV (As := [.int 1]) (rest := []) hfix (zcX5_fail l D cI H1 b 0 n (jf g me lo c) bf (zn e) (nm rd tk) 1 hM3) (cwV 1 hts gX5_half_X5_fail rfl rfl rfl (by decide +kernel) ⟨Nat.le_of_ble_eq_true rfl, Nat.le_of_ble_eq_true rfl⟩) (z_preV hK hK hM3 (ci := 5) (q0 := 0) rfl rfl rfl) rfl rfl hl.1 rfl (lv_room (Nat.le_of_ble_eq_true rfl)) dX5_half_42 ⟨by omega, by omega⟩) hS (fun q _ h => by simp only [zF] at h ⊢; omega) (fun q h => by simp only [zF] at h ⊢; omega) (fun H4 lo5 hB hz1 hk1 hS => ?_)
    have hz : H4.size = H.size := (hB.2).trans hz
    have hM6 : va_P D vwCl (zMo cI b 1 n (jf g me lo c) bf (zn e) (nm rd tk)) H4 := hB.1
    exact z_iretM (⟨hM6, hz⟩) hx hb hr hlocks hS dX5_half_45
  · have c10 := zb_1 c10
    exact absurd ((z_isP hn).mp c10) hx9
set_option maxHeartbeats 4000000 in
set_option maxRecDepth 100000 in
/-- half fails -/
theorem zcX5_half_b2 (l : Launch) (D : va_G) (cI : ClassId) (H : Heap) (b : Nat) (tn : Int32) (n : Nat) (g : zG) (me : Nat → Int32) (lo : Nat → Int32) (c : Nat → Nat) (bf : Nat → Int32) (e : Nat → Nat) (rd : Int32) (tk : Int32) (p : Nat) (h : Int32) (y : Int32) (hM : va_P D vwCl (zMo cI b tn n (jf g me lo c) bf (zn e) (nm rd tk)) H) (hI : zI n me lo c e) (hp : p < n) (hx9 : y < 0 ∨ ¬ y ≤ 2) : Met l yX5_half wsX5_half ({ frames := 2, cells := 0, slots := 0, locals := 43 } : Room) (zPc D [(cI, .int)] H [.ref b, .int (nI p), .int h, .int y]) (zM (fun H1 => va_P D vwCl (zMo cI b 1 n (jf g me lo c) bf (zn e) (nm rd tk)) H1 ∧ H1.size = H.size) (some (.int 0)) (zF b (b + 5))) 0 0 (zF b (b + 5)) := by
  refine z_enter (cc := cX5_half) (maxL := 4) (ret := (some .int)) (by decide) rfl (Nat.le_of_ble_eq_true rfl) ?_
  intro pg ev s m args below meth cd hfix hr hlocks hname hK hHs ls hl
  obtain ⟨hx, hb, hml, hown, hts⟩ := id hfix
  have hl : lv_has ls 4 [(0, .ref b), (1, .int (nI p)), (2, .int h), (3, .int y)] := hl
  have hS : va_S (zF b (b + 5)) s.heap H [] := by rw [hHs]; exact va_S.rf
  have hz : H.size = H.size := rfl
  have hinX5 : ∀ w ∈ wsX50, w ∈ wsX5_half := by decide +kernel
  have hn := zI_n hI
  refine lv_aload_n hx hb dX5_half_0 rfl (lv_at hl 0 rfl) ?_
  refine lv_iconst (v := 0) hx hb dX5_half_1 (by decide) ?_
  refine z_put (D := D) (ci := 5) (v := .int 0) (ty := .int) (C := RX5) (T := TX5) (N := 6) hx hb hts hinX5 tyX5 tyX5_ok nmX5 hown hK hM (by simp only [zF]; omega) hS 0 rfl rfl 0 (by decide) (hts _ (List.mem_of_getElem? (i := 1) rfl)) (fun _ h9 => h9) rfl (by decide +kernel) rfl rfl (Nat.le_of_ble_eq_true rfl) dX5_half_2 (fun H1 lo2 hP1 hz1 hk1 hS => ?_)
  have hz : H1.size = H.size := by omega
  have hM3 : va_P D vwCl (zMo cI b 0 n (jf g me lo c) bf (zn e) (nm rd tk)) H1 := z_set zMo_c hM 0 rfl hP1 (fun q _ h => hk1 q h)
  refine lv_aload_n hx hb dX5_half_5 rfl (lv_at hl 0 rfl) ?_
  refine lv_iload_n hx hb dX5_half_6 rfl (lv_at hl 1 rfl) ?_
  refine z_ki (va_runV (As := [.int (nI p)]) (rest := []) hfix (zcX5_isParrot l D cI H1 b 0 n (jf g me lo c) bf (zn e) (nm rd tk) (nI p) hM3) (cwV 1 hts gX5_half_X5_isParrot rfl rfl rfl (by decide +kernel) ⟨Nat.le_of_ble_eq_true rfl, Nat.le_of_ble_eq_true rfl⟩) (z_preV hK hK hM3 (ci := 5) (q0 := 0) rfl rfl rfl) rfl rfl hl.1 rfl (lv_room (Nat.le_of_ble_eq_true rfl)) dX5_half_7 ⟨by omega, by omega⟩) ?_
  refine lv_if_eq (tgt := 40) hx hb dX5_half_10 (by decide) (fun c10 => ?_) (fun c10 => ?_)
  · have c10 := zb_0 c10
    exact absurd ((z_isP hn).mpr ⟨p, hp, rfl⟩) c10
  · have c10 := zb_1 c10
    refine lv_iload_n hx hb dX5_half_13 rfl (lv_at hl 3 rfl) ?_
    refine lv_iconst (v := 0) hx hb dX5_half_14 (by decide) ?_
    refine lv_iconst (v := 2) hx hb dX5_half_15 (by decide) ?_
    refine z_ki (va_runS (As := [.int y, .int 0, .int 2]) (rest := []) hfix (zcX5_isIn l D cI H1 y 0 2 ) (va_cwS 3 hts gX5_half_X5_isIn rfl rfl rfl (by decide +kernel) ⟨Nat.le_of_ble_eq_true rfl, Nat.le_of_ble_eq_true rfl⟩) (z_preS hK) rfl rfl hl.1 rfl (lv_room (Nat.le_of_ble_eq_true rfl)) dX5_half_16 ⟨by omega, by omega⟩) ?_
    refine lv_if_eq (tgt := 40) hx hb dX5_half_19 (by decide) (fun c19 => ?_) (fun c19 => ?_)
    · have c19 := zb_0 c19
      refine lv_aload_n hx hb dX5_half_40 rfl (lv_at hl 0 rfl) ?_
      refine lv_iconst (v := 1) hx hb dX5_half_41 (by decide) ?_
      refine z_mi (va_runV (As := [.int 1]) (rest := []) hfix (zcX5_fail l D cI H1 b 0 n (jf g me lo c) bf (zn e) (nm rd tk) 1 hM3) (cwV 1 hts gX5_half_X5_fail rfl rfl rfl (by decide +kernel) ⟨Nat.le_of_ble_eq_true rfl, Nat.le_of_ble_eq_true rfl⟩) (z_preV hK hK hM3 (ci := 5) (q0 := 0) rfl rfl rfl) rfl rfl hl.1 rfl (lv_room (Nat.le_of_ble_eq_true rfl)) dX5_half_42 ⟨by omega, by omega⟩) hS (fun q _ h => by simp only [zF] at h ⊢; omega) (fun q h => by simp only [zF] at h ⊢; omega) (fun H4 lo5 hB hz1 hk1 hS => ?_)
      have hz : H4.size = H.size := (hB.2).trans hz
      have hM6 : va_P D vwCl (zMo cI b 1 n (jf g me lo c) bf (zn e) (nm rd tk)) H4 := hB.1
      exact z_iretM (⟨hM6, hz⟩) hx hb hr hlocks hS dX5_half_45
    · have c19 := zb_1 c19
      exact absurd c19 (z_isIn.mpr hx9)
set_option maxHeartbeats 4000000 in
set_option maxRecDepth 100000 in
/-- hears fails -/
theorem zcX5_hears_b1 (l : Launch) (D : va_G) (cI : ClassId) (H : Heap) (b : Nat) (tn : Int32) (n : Nat) (g : zG) (me : Nat → Int32) (lo : Nat → Int32) (c : Nat → Nat) (bf : Nat → Int32) (e : Nat → Nat) (rd : Int32) (tk : Int32) (x : Int32) (y : Int32) (hM : va_P D vwCl (zMo cI b tn n (jf g me lo c) bf (zn e) (nm rd tk)) H) (hI : zI n me lo c e) (hx9 : ¬ ∃ j, j < n ∧ x = nI j) : Met l yX5_hears wsX5_hears ({ frames := 2, cells := 0, slots := 0, locals := 43 } : Room) (zPc D [(cI, .int)] H [.ref b, .int x, .int y]) (zM (fun H1 => va_P D vwCl (zMo cI b 1 n (jf g me lo c) bf (zn e) (nm rd tk)) H1 ∧ H1.size = H.size) (some (.int 0)) (zF b (b + 5))) 0 0 (zF b (b + 5)) := by
  refine z_enter (cc := cX5_hears) (maxL := 3) (ret := (some .int)) (by decide) rfl (Nat.le_of_ble_eq_true rfl) ?_
  intro pg ev s m args below meth cd hfix hr hlocks hname hK hHs ls hl
  obtain ⟨hx, hb, hml, hown, hts⟩ := id hfix
  have hl : lv_has ls 3 [(0, .ref b), (1, .int x), (2, .int y)] := hl
  have hS : va_S (zF b (b + 5)) s.heap H [] := by rw [hHs]; exact va_S.rf
  have hz : H.size = H.size := rfl
  have hinX5 : ∀ w ∈ wsX50, w ∈ wsX5_hears := by decide +kernel
  have hn := zI_n hI
  refine lv_aload_n hx hb dX5_hears_0 rfl (lv_at hl 0 rfl) ?_
  refine lv_iconst (v := 0) hx hb dX5_hears_1 (by decide) ?_
  refine z_put (D := D) (ci := 5) (v := .int 0) (ty := .int) (C := RX5) (T := TX5) (N := 6) hx hb hts hinX5 tyX5 tyX5_ok nmX5 hown hK hM (by simp only [zF]; omega) hS 0 rfl rfl 0 (by decide) (hts _ (List.mem_of_getElem? (i := 1) rfl)) (fun _ h9 => h9) rfl (by decide +kernel) rfl rfl (Nat.le_of_ble_eq_true rfl) dX5_hears_2 (fun H1 lo2 hP1 hz1 hk1 hS => ?_)
  have hz : H1.size = H.size := by omega
  have hM3 : va_P D vwCl (zMo cI b 0 n (jf g me lo c) bf (zn e) (nm rd tk)) H1 := z_set zMo_c hM 0 rfl hP1 (fun q _ h => hk1 q h)
  refine lv_aload_n hx hb dX5_hears_5 rfl (lv_at hl 0 rfl) ?_
  refine lv_iload_n hx hb dX5_hears_6 rfl (lv_at hl 1 rfl) ?_
  refine z_ki (va_runV (As := [.int x]) (rest := []) hfix (zcX5_isParrot l D cI H1 b 0 n (jf g me lo c) bf (zn e) (nm rd tk) x hM3) (cwV 1 hts gX5_hears_X5_isParrot rfl rfl rfl (by decide +kernel) ⟨Nat.le_of_ble_eq_true rfl, Nat.le_of_ble_eq_true rfl⟩) (z_preV hK hK hM3 (ci := 5) (q0 := 0) rfl rfl rfl) rfl rfl hl.1 rfl (lv_room (Nat.le_of_ble_eq_true rfl)) dX5_hears_7 ⟨by omega, by omega⟩) ?_
  refine lv_if_eq (tgt := 43) hx hb dX5_hears_10 (by decide) (fun c10 => ?_) (fun c10 => ?_)
  · have c10 := zb_0 c10
    refine lv_aload_n hx hb dX5_hears_43 rfl (lv_at hl 0 rfl) ?_
    refine lv_iconst (v := 1) hx hb dX5_hears_44 (by decide) ?_
    refine z_mi (va_runV (As := [.int 1]) (rest := []) hfix (zcX5_fail l D cI H1 b 0 n (jf g me lo c) bf (zn e) (nm rd tk) 1 hM3) (cwV 1 hts gX5_hears_X5_fail rfl rfl rfl (by decide +kernel) ⟨Nat.le_of_ble_eq_true rfl, Nat.le_of_ble_eq_true rfl⟩) (z_preV hK hK hM3 (ci := 5) (q0 := 0) rfl rfl rfl) rfl rfl hl.1 rfl (lv_room (Nat.le_of_ble_eq_true rfl)) dX5_hears_45 ⟨by omega, by omega⟩) hS (fun q _ h => by simp only [zF] at h ⊢; omega) (fun q h => by simp only [zF] at h ⊢; omega) (fun H4 lo5 hB hz1 hk1 hS => ?_)
    have hz : H4.size = H.size := (hB.2).trans hz
    have hM6 : va_P D vwCl (zMo cI b 1 n (jf g me lo c) bf (zn e) (nm rd tk)) H4 := hB.1
    exact z_iretM (⟨hM6, hz⟩) hx hb hr hlocks hS dX5_hears_48
  · have c10 := zb_1 c10
    exact absurd ((z_isP hn).mp c10) hx9
set_option maxHeartbeats 4000000 in
set_option maxRecDepth 100000 in
/-- hears fails -/
theorem zcX5_hears_b2 (l : Launch) (D : va_G) (cI : ClassId) (H : Heap) (b : Nat) (tn : Int32) (n : Nat) (g : zG) (me : Nat → Int32) (lo : Nat → Int32) (c : Nat → Nat) (bf : Nat → Int32) (e : Nat → Nat) (rd : Int32) (tk : Int32) (p : Nat) (y : Int32) (hM : va_P D vwCl (zMo cI b tn n (jf g me lo c) bf (zn e) (nm rd tk)) H) (hI : zI n me lo c e) (hp : p < n) (hx9 : ¬ ∃ j, j < c p ∧ y = nI j) : Met l yX5_hears wsX5_hears ({ frames := 2, cells := 0, slots := 0, locals := 43 } : Room) (zPc D [(cI, .int)] H [.ref b, .int (nI p), .int y]) (zM (fun H1 => va_P D vwCl (zMo cI b 1 n (jf g me lo c) bf (zn e) (nm rd tk)) H1 ∧ H1.size = H.size) (some (.int 0)) (zF b (b + 5))) 0 0 (zF b (b + 5)) := by
  refine z_enter (cc := cX5_hears) (maxL := 3) (ret := (some .int)) (by decide) rfl (Nat.le_of_ble_eq_true rfl) ?_
  intro pg ev s m args below meth cd hfix hr hlocks hname hK hHs ls hl
  obtain ⟨hx, hb, hml, hown, hts⟩ := id hfix
  have hl : lv_has ls 3 [(0, .ref b), (1, .int (nI p)), (2, .int y)] := hl
  have hS : va_S (zF b (b + 5)) s.heap H [] := by rw [hHs]; exact va_S.rf
  have hz : H.size = H.size := rfl
  have hinX5 : ∀ w ∈ wsX50, w ∈ wsX5_hears := by decide +kernel
  have hn := zI_n hI
  have hc4 := zI_c hI p
  refine lv_aload_n hx hb dX5_hears_0 rfl (lv_at hl 0 rfl) ?_
  refine lv_iconst (v := 0) hx hb dX5_hears_1 (by decide) ?_
  refine z_put (D := D) (ci := 5) (v := .int 0) (ty := .int) (C := RX5) (T := TX5) (N := 6) hx hb hts hinX5 tyX5 tyX5_ok nmX5 hown hK hM (by simp only [zF]; omega) hS 0 rfl rfl 0 (by decide) (hts _ (List.mem_of_getElem? (i := 1) rfl)) (fun _ h9 => h9) rfl (by decide +kernel) rfl rfl (Nat.le_of_ble_eq_true rfl) dX5_hears_2 (fun H1 lo2 hP1 hz1 hk1 hS => ?_)
  have hz : H1.size = H.size := by omega
  have hM3 : va_P D vwCl (zMo cI b 0 n (jf g me lo c) bf (zn e) (nm rd tk)) H1 := z_set zMo_c hM 0 rfl hP1 (fun q _ h => hk1 q h)
  refine lv_aload_n hx hb dX5_hears_5 rfl (lv_at hl 0 rfl) ?_
  refine lv_iload_n hx hb dX5_hears_6 rfl (lv_at hl 1 rfl) ?_
  refine z_ki (va_runV (As := [.int (nI p)]) (rest := []) hfix (zcX5_isParrot l D cI H1 b 0 n (jf g me lo c) bf (zn e) (nm rd tk) (nI p) hM3) (cwV 1 hts gX5_hears_X5_isParrot rfl rfl rfl (by decide +kernel) ⟨Nat.le_of_ble_eq_true rfl, Nat.le_of_ble_eq_true rfl⟩) (z_preV hK hK hM3 (ci := 5) (q0 := 0) rfl rfl rfl) rfl rfl hl.1 rfl (lv_room (Nat.le_of_ble_eq_true rfl)) dX5_hears_7 ⟨by omega, by omega⟩) ?_
  refine lv_if_eq (tgt := 43) hx hb dX5_hears_10 (by decide) (fun c10 => ?_) (fun c10 => ?_)
  · have c10 := zb_0 c10
    exact absurd ((z_isP hn).mpr ⟨p, hp, rfl⟩) c10
  · have c10 := zb_1 c10
    refine lv_iload_n hx hb dX5_hears_13 rfl (lv_at hl 2 rfl) ?_
    refine lv_iconst (v := 0) hx hb dX5_hears_14 (by decide) ?_
    refine lv_aload_n hx hb dX5_hears_15 rfl (lv_at hl 0 rfl) ?_
    refine lv_iload_n hx hb dX5_hears_16 rfl (lv_at hl 1 rfl) ?_
    refine lv_bipush (v := 9) hx hb dX5_hears_17 (by decide) ?_
    refine z_ki (va_runV (As := [.int (nI p), .int 9]) (rest := [.int 0, .int y]) hfix (zcX5_ju l D cI H1 b 0 n (jf g me lo c) bf (zn e) (nm rd tk) p 9 hM3 (by omega) (by omega)) (cwV 2 hts gX5_hears_X5_ju rfl rfl rfl (by decide +kernel) ⟨Nat.le_of_ble_eq_true rfl, Nat.le_of_ble_eq_true rfl⟩) (z_preV hK hK hM3 (ci := 5) (q0 := 0) rfl rfl rfl) rfl rfl hl.1 rfl (lv_room (Nat.le_of_ble_eq_true rfl)) dX5_hears_19 ⟨by omega, by omega⟩) ?_
    refine z_toi (y := (nI (c p))) (jf_9) ?_
    refine lv_iconst (v := 1) hx hb dX5_hears_22 (by decide) ?_
    refine lv_isub hx hb dX5_hears_23 ?_
    refine z_ki (va_runS (As := [.int y, .int 0, .int ((nI (c p)) - 1)]) (rest := []) hfix (zcX5_isIn l D cI H1 y 0 ((nI (c p)) - 1) ) (va_cwS 3 hts gX5_hears_X5_isIn rfl rfl rfl (by decide +kernel) ⟨Nat.le_of_ble_eq_true rfl, Nat.le_of_ble_eq_true rfl⟩) (z_preS hK) rfl rfl hl.1 rfl (lv_room (Nat.le_of_ble_eq_true rfl)) dX5_hears_24 ⟨by omega, by omega⟩) ?_
    refine lv_if_eq (tgt := 43) hx hb dX5_hears_27 (by decide) (fun c27 => ?_) (fun c27 => ?_)
    · have c27 := zb_0 c27
      refine lv_aload_n hx hb dX5_hears_43 rfl (lv_at hl 0 rfl) ?_
      refine lv_iconst (v := 1) hx hb dX5_hears_44 (by decide) ?_
      refine z_mi (va_runV (As := [.int 1]) (rest := []) hfix (zcX5_fail l D cI H1 b 0 n (jf g me lo c) bf (zn e) (nm rd tk) 1 hM3) (cwV 1 hts gX5_hears_X5_fail rfl rfl rfl (by decide +kernel) ⟨Nat.le_of_ble_eq_true rfl, Nat.le_of_ble_eq_true rfl⟩) (z_preV hK hK hM3 (ci := 5) (q0 := 0) rfl rfl rfl) rfl rfl hl.1 rfl (lv_room (Nat.le_of_ble_eq_true rfl)) dX5_hears_45 ⟨by omega, by omega⟩) hS (fun q _ h => by simp only [zF] at h ⊢; omega) (fun q h => by simp only [zF] at h ⊢; omega) (fun H4 lo5 hB hz1 hk1 hS => ?_)
      have hz : H4.size = H.size := (hB.2).trans hz
      have hM6 : va_P D vwCl (zMo cI b 1 n (jf g me lo c) bf (zn e) (nm rd tk)) H4 := hB.1
      exact z_iretM (⟨hM6, hz⟩) hx hb hr hlocks hS dX5_hears_48
    · have c27 := zb_1 c27
      exact absurd ((z_isP (n := c p) (by omega)).mp c27) hx9
set_option maxHeartbeats 4000000 in
set_option maxRecDepth 100000 in
/-- votes fails -/
theorem zcX5_votes_b1 (l : Launch) (D : va_G) (cI : ClassId) (H : Heap) (b : Nat) (tn : Int32) (n : Nat) (g : zG) (me : Nat → Int32) (lo : Nat → Int32) (c : Nat → Nat) (bf : Nat → Int32) (e : Nat → Nat) (rd : Int32) (tk : Int32) (x : Int32) (hM : va_P D vwCl (zMo cI b tn n (jf g me lo c) bf (zn e) (nm rd tk)) H) (hI : zI n me lo c e) (hx9 : x < 0 ∨ ¬ x ≤ 9999) : Met l yX5_votes wsX5_votes ({ frames := 2, cells := 0, slots := 0, locals := 42 } : Room) (zPc D [(cI, .int)] H [.ref b, .int x]) (zM (fun H1 => va_P D vwCl (zMo cI b 1 n (jf g me lo c) bf (zn e) (nm rd tk)) H1 ∧ H1.size = H.size) (some (.int 0)) (zF b (b + 5))) 0 0 (zF b (b + 5)) := by
  refine z_enter (cc := cX5_votes) (maxL := 2) (ret := (some .int)) (by decide) rfl (Nat.le_of_ble_eq_true rfl) ?_
  intro pg ev s m args below meth cd hfix hr hlocks hname hK hHs ls hl
  obtain ⟨hx, hb, hml, hown, hts⟩ := id hfix
  have hl : lv_has ls 2 [(0, .ref b), (1, .int x)] := hl
  have hS : va_S (zF b (b + 5)) s.heap H [] := by rw [hHs]; exact va_S.rf
  have hz : H.size = H.size := rfl
  have hinX5 : ∀ w ∈ wsX50, w ∈ wsX5_votes := by decide +kernel
  have hn := zI_n hI
  refine lv_aload_n hx hb dX5_votes_0 rfl (lv_at hl 0 rfl) ?_
  refine lv_iconst (v := 0) hx hb dX5_votes_1 (by decide) ?_
  refine z_put (D := D) (ci := 5) (v := .int 0) (ty := .int) (C := RX5) (T := TX5) (N := 6) hx hb hts hinX5 tyX5 tyX5_ok nmX5 hown hK hM (by simp only [zF]; omega) hS 0 rfl rfl 0 (by decide) (hts _ (List.mem_of_getElem? (i := 1) rfl)) (fun _ h9 => h9) rfl (by decide +kernel) rfl rfl (Nat.le_of_ble_eq_true rfl) dX5_votes_2 (fun H1 lo2 hP1 hz1 hk1 hS => ?_)
  have hz : H1.size = H.size := by omega
  have hM3 : va_P D vwCl (zMo cI b 0 n (jf g me lo c) bf (zn e) (nm rd tk)) H1 := z_set zMo_c hM 0 rfl hP1 (fun q _ h => hk1 q h)
  refine lv_iload_n hx hb dX5_votes_5 rfl (lv_at hl 1 rfl) ?_
  refine z_ki (va_runS (As := [.int x]) (rest := []) hfix (zcX5_isWord l D cI H1 x ) (va_cwS 1 hts gX5_votes_X5_isWord rfl rfl rfl (by decide +kernel) ⟨Nat.le_of_ble_eq_true rfl, Nat.le_of_ble_eq_true rfl⟩) (z_preS hK) rfl rfl hl.1 rfl (lv_room (Nat.le_of_ble_eq_true rfl)) dX5_votes_6 ⟨by omega, by omega⟩) ?_
  refine lv_if_eq (tgt := 20) hx hb dX5_votes_9 (by decide) (fun c9 => ?_) (fun c9 => ?_)
  · have c9 := zb_0 c9
    refine lv_aload_n hx hb dX5_votes_20 rfl (lv_at hl 0 rfl) ?_
    refine lv_iconst (v := 1) hx hb dX5_votes_21 (by decide) ?_
    refine z_mi (va_runV (As := [.int 1]) (rest := []) hfix (zcX5_fail l D cI H1 b 0 n (jf g me lo c) bf (zn e) (nm rd tk) 1 hM3) (cwV 1 hts gX5_votes_X5_fail rfl rfl rfl (by decide +kernel) ⟨Nat.le_of_ble_eq_true rfl, Nat.le_of_ble_eq_true rfl⟩) (z_preV hK hK hM3 (ci := 5) (q0 := 0) rfl rfl rfl) rfl rfl hl.1 rfl (lv_room (Nat.le_of_ble_eq_true rfl)) dX5_votes_22 ⟨by omega, by omega⟩) hS (fun q _ h => by simp only [zF] at h ⊢; omega) (fun q h => by simp only [zF] at h ⊢; omega) (fun H4 lo5 hB hz1 hk1 hS => ?_)
    have hz : H4.size = H.size := (hB.2).trans hz
    have hM6 : va_P D vwCl (zMo cI b 1 n (jf g me lo c) bf (zn e) (nm rd tk)) H4 := hB.1
    exact z_iretM (⟨hM6, hz⟩) hx hb hr hlocks hS dX5_votes_25
  · have c9 := zb_1 c9
    exact absurd c9 (z_isIn.mpr hx9)
set_option maxHeartbeats 4000000 in
set_option maxRecDepth 100000 in
/-- left fails -/
theorem zcX5_left_b1 (l : Launch) (D : va_G) (cI : ClassId) (H : Heap) (b : Nat) (tn : Int32) (n : Nat) (g : zG) (me : Nat → Int32) (lo : Nat → Int32) (c : Nat → Nat) (bf : Nat → Int32) (e : Nat → Nat) (rd : Int32) (tk : Int32) (x : Int32) (hM : va_P D vwCl (zMo cI b tn n (jf g me lo c) bf (zn e) (nm rd tk)) H) (hI : zI n me lo c e) (hx9 : x < 0 ∨ ¬ x ≤ 9999) : Met l yX5_left wsX5_left ({ frames := 2, cells := 0, slots := 0, locals := 42 } : Room) (zPc D [(cI, .int)] H [.ref b, .int x]) (zM (fun H1 => va_P D vwCl (zMo cI b 1 n (jf g me lo c) bf (zn e) (nm rd tk)) H1 ∧ H1.size = H.size) (some (.int 0)) (zF b (b + 5))) 0 0 (zF b (b + 5)) := by
  refine z_enter (cc := cX5_left) (maxL := 4) (ret := (some .int)) (by decide) rfl (Nat.le_of_ble_eq_true rfl) ?_
  intro pg ev s m args below meth cd hfix hr hlocks hname hK hHs ls hl
  obtain ⟨hx, hb, hml, hown, hts⟩ := id hfix
  have hl : lv_has ls 4 [(0, .ref b), (1, .int x)] := hl
  have hS : va_S (zF b (b + 5)) s.heap H [] := by rw [hHs]; exact va_S.rf
  have hz : H.size = H.size := rfl
  have hinX5 : ∀ w ∈ wsX50, w ∈ wsX5_left := by decide +kernel
  have hn := zI_n hI
  refine lv_aload_n hx hb dX5_left_0 rfl (lv_at hl 0 rfl) ?_
  refine lv_iconst (v := 0) hx hb dX5_left_1 (by decide) ?_
  refine z_put (D := D) (ci := 5) (v := .int 0) (ty := .int) (C := RX5) (T := TX5) (N := 6) hx hb hts hinX5 tyX5 tyX5_ok nmX5 hown hK hM (by simp only [zF]; omega) hS 0 rfl rfl 0 (by decide) (hts _ (List.mem_of_getElem? (i := 1) rfl)) (fun _ h9 => h9) rfl (by decide +kernel) rfl rfl (Nat.le_of_ble_eq_true rfl) dX5_left_2 (fun H1 lo2 hP1 hz1 hk1 hS => ?_)
  have hz : H1.size = H.size := by omega
  have hM3 : va_P D vwCl (zMo cI b 0 n (jf g me lo c) bf (zn e) (nm rd tk)) H1 := z_set zMo_c hM 0 rfl hP1 (fun q _ h => hk1 q h)
  refine lv_iload_n hx hb dX5_left_5 rfl (lv_at hl 1 rfl) ?_
  refine z_ki (va_runS (As := [.int x]) (rest := []) hfix (zcX5_isWord l D cI H1 x ) (va_cwS 1 hts gX5_left_X5_isWord rfl rfl rfl (by decide +kernel) ⟨Nat.le_of_ble_eq_true rfl, Nat.le_of_ble_eq_true rfl⟩) (z_preS hK) rfl rfl hl.1 rfl (lv_room (Nat.le_of_ble_eq_true rfl)) dX5_left_6 ⟨by omega, by omega⟩) ?_
  refine lv_if_ne (tgt := 18) hx hb dX5_left_9 (by decide) (fun c9 => ?_) (fun c9 => ?_)
  · have c9 := zb_1 c9
    exact absurd c9 (z_isIn.mpr hx9)
  · have c9 := zb_0 c9
    refine lv_aload_n hx hb dX5_left_12 rfl (lv_at hl 0 rfl) ?_
    refine lv_iconst (v := 1) hx hb dX5_left_13 (by decide) ?_
    refine z_mi (va_runV (As := [.int 1]) (rest := []) hfix (zcX5_fail l D cI H1 b 0 n (jf g me lo c) bf (zn e) (nm rd tk) 1 hM3) (cwV 1 hts gX5_left_X5_fail rfl rfl rfl (by decide +kernel) ⟨Nat.le_of_ble_eq_true rfl, Nat.le_of_ble_eq_true rfl⟩) (z_preV hK hK hM3 (ci := 5) (q0 := 0) rfl rfl rfl) rfl rfl hl.1 rfl (lv_room (Nat.le_of_ble_eq_true rfl)) dX5_left_14 ⟨by omega, by omega⟩) hS (fun q _ h => by simp only [zF] at h ⊢; omega) (fun q h => by simp only [zF] at h ⊢; omega) (fun H4 lo5 hB hz1 hk1 hS => ?_)
    have hz : H4.size = H.size := (hB.2).trans hz
    have hM6 : va_P D vwCl (zMo cI b 1 n (jf g me lo c) bf (zn e) (nm rd tk)) H4 := hB.1
    exact z_iretM (⟨hM6, hz⟩) hx hb hr hlocks hS dX5_left_17
set_option maxHeartbeats 4000000 in
set_option maxRecDepth 100000 in
/-- count fails -/
theorem zcX5_count_b1 (l : Launch) (D : va_G) (cI : ClassId) (H : Heap) (b : Nat) (tn : Int32) (n : Nat) (g : zG) (me : Nat → Int32) (lo : Nat → Int32) (c : Nat → Nat) (bf : Nat → Int32) (e : Nat → Nat) (rd : Int32) (tk : Int32) (x : Int32) (hM : va_P D vwCl (zMo cI b tn n (jf g me lo c) bf (zn e) (nm rd tk)) H) (hI : zI n me lo c e) (hx9 : x < 0 ∨ ¬ x ≤ 5) : Met l yX5_count wsX5_count ({ frames := 1, cells := 0, slots := 0, locals := 22 } : Room) (zPc D [(cI, .int)] H [.ref b, .int x]) (zM (fun H1 => va_P D vwCl (zMo cI b 1 n (jf g me lo c) bf (zn e) (nm rd tk)) H1 ∧ H1.size = H.size) (some (.int 0)) (zF b (b + 5))) 0 0 (zF b (b + 5)) := by
  refine z_enter (cc := cX5_count) (maxL := 2) (ret := (some .int)) (by decide) rfl (Nat.le_of_ble_eq_true rfl) ?_
  intro pg ev s m args below meth cd hfix hr hlocks hname hK hHs ls hl
  obtain ⟨hx, hb, hml, hown, hts⟩ := id hfix
  have hl : lv_has ls 2 [(0, .ref b), (1, .int x)] := hl
  have hS : va_S (zF b (b + 5)) s.heap H [] := by rw [hHs]; exact va_S.rf
  have hz : H.size = H.size := rfl
  have hinX5 : ∀ w ∈ wsX50, w ∈ wsX5_count := by decide +kernel
  have hn := zI_n hI
  refine lv_aload_n hx hb dX5_count_0 rfl (lv_at hl 0 rfl) ?_
  refine lv_iconst (v := 0) hx hb dX5_count_1 (by decide) ?_
  refine z_put (D := D) (ci := 5) (v := .int 0) (ty := .int) (C := RX5) (T := TX5) (N := 6) hx hb hts hinX5 tyX5 tyX5_ok nmX5 hown hK hM (by simp only [zF]; omega) hS 0 rfl rfl 0 (by decide) (hts _ (List.mem_of_getElem? (i := 1) rfl)) (fun _ h9 => h9) rfl (by decide +kernel) rfl rfl (Nat.le_of_ble_eq_true rfl) dX5_count_2 (fun H1 lo2 hP1 hz1 hk1 hS => ?_)
  have hz : H1.size = H.size := by omega
  have hM3 : va_P D vwCl (zMo cI b 0 n (jf g me lo c) bf (zn e) (nm rd tk)) H1 := z_set zMo_c hM 0 rfl hP1 (fun q _ h => hk1 q h)
  refine lv_iload_n hx hb dX5_count_5 rfl (lv_at hl 1 rfl) ?_
  refine lv_iconst (v := 0) hx hb dX5_count_6 (by decide) ?_
  refine lv_iconst (v := 5) hx hb dX5_count_7 (by decide) ?_
  refine z_ki (va_runS (As := [.int x, .int 0, .int 5]) (rest := []) hfix (zcX5_isIn l D cI H1 x 0 5 ) (va_cwS 3 hts gX5_count_X5_isIn rfl rfl rfl (by decide +kernel) ⟨Nat.le_of_ble_eq_true rfl, Nat.le_of_ble_eq_true rfl⟩) (z_preS hK) rfl rfl hl.1 rfl (lv_room (Nat.le_of_ble_eq_true rfl)) dX5_count_8 ⟨by omega, by omega⟩) ?_
  refine lv_if_eq (tgt := 22) hx hb dX5_count_11 (by decide) (fun c11 => ?_) (fun c11 => ?_)
  · have c11 := zb_0 c11
    refine lv_aload_n hx hb dX5_count_22 rfl (lv_at hl 0 rfl) ?_
    refine lv_iconst (v := 1) hx hb dX5_count_23 (by decide) ?_
    refine z_mi (va_runV (As := [.int 1]) (rest := []) hfix (zcX5_fail l D cI H1 b 0 n (jf g me lo c) bf (zn e) (nm rd tk) 1 hM3) (cwV 1 hts gX5_count_X5_fail rfl rfl rfl (by decide +kernel) ⟨Nat.le_of_ble_eq_true rfl, Nat.le_of_ble_eq_true rfl⟩) (z_preV hK hK hM3 (ci := 5) (q0 := 0) rfl rfl rfl) rfl rfl hl.1 rfl (lv_room (Nat.le_of_ble_eq_true rfl)) dX5_count_24 ⟨by omega, by omega⟩) hS (fun q _ h => by simp only [zF] at h ⊢; omega) (fun q h => by simp only [zF] at h ⊢; omega) (fun H4 lo5 hB hz1 hk1 hS => ?_)
    have hz : H4.size = H.size := (hB.2).trans hz
    have hM6 : va_P D vwCl (zMo cI b 1 n (jf g me lo c) bf (zn e) (nm rd tk)) H4 := hB.1
    exact z_iretM (⟨hM6, hz⟩) hx hb hr hlocks hS dX5_count_27
  · have c11 := zb_1 c11
    exact absurd c11 (z_isIn.mpr hx9)
set_option maxHeartbeats 4000000 in
set_option maxRecDepth 100000 in
/-- pass fails -/
theorem zcX5_pass_b1 (l : Launch) (D : va_G) (cI : ClassId) (H : Heap) (b : Nat) (tn : Int32) (n : Nat) (g : zG) (me : Nat → Int32) (lo : Nat → Int32) (c : Nat → Nat) (bf : Nat → Int32) (e : Nat → Nat) (rd : Int32) (tk : Int32) (x : Int32) (hM : va_P D vwCl (zMo cI b tn n (jf g me lo c) bf (zn e) (nm rd tk)) H) (hI : zI n me lo c e) (hx9 : x < 1 ∨ ¬ x ≤ 200) : Met l yX5_pass wsX5_pass ({ frames := 1, cells := 0, slots := 0, locals := 22 } : Room) (zPc D [(cI, .int)] H [.ref b, .int x]) (zM (fun H1 => va_P D vwCl (zMo cI b 1 n (jf g me lo c) bf (zn e) (nm rd tk)) H1 ∧ H1.size = H.size) (some (.int 0)) (zF b (b + 5))) 0 0 (zF b (b + 5)) := by
  refine z_enter (cc := cX5_pass) (maxL := 3) (ret := (some .int)) (by decide) rfl (Nat.le_of_ble_eq_true rfl) ?_
  intro pg ev s m args below meth cd hfix hr hlocks hname hK hHs ls hl
  obtain ⟨hx, hb, hml, hown, hts⟩ := id hfix
  have hl : lv_has ls 3 [(0, .ref b), (1, .int x)] := hl
  have hS : va_S (zF b (b + 5)) s.heap H [] := by rw [hHs]; exact va_S.rf
  have hz : H.size = H.size := rfl
  have hinX5 : ∀ w ∈ wsX50, w ∈ wsX5_pass := by decide +kernel
  have hn := zI_n hI
  refine lv_aload_n hx hb dX5_pass_0 rfl (lv_at hl 0 rfl) ?_
  refine lv_iconst (v := 0) hx hb dX5_pass_1 (by decide) ?_
  refine z_put (D := D) (ci := 5) (v := .int 0) (ty := .int) (C := RX5) (T := TX5) (N := 6) hx hb hts hinX5 tyX5 tyX5_ok nmX5 hown hK hM (by simp only [zF]; omega) hS 0 rfl rfl 0 (by decide) (hts _ (List.mem_of_getElem? (i := 1) rfl)) (fun _ h9 => h9) rfl (by decide +kernel) rfl rfl (Nat.le_of_ble_eq_true rfl) dX5_pass_2 (fun H1 lo2 hP1 hz1 hk1 hS => ?_)
  have hz : H1.size = H.size := by omega
  have hM3 : va_P D vwCl (zMo cI b 0 n (jf g me lo c) bf (zn e) (nm rd tk)) H1 := z_set zMo_c hM 0 rfl hP1 (fun q _ h => hk1 q h)
  refine lv_iload_n hx hb dX5_pass_5 rfl (lv_at hl 1 rfl) ?_
  refine lv_iconst (v := 1) hx hb dX5_pass_6 (by decide) ?_
  refine lv_sipush (v := 200) hx hb dX5_pass_7 (by decide) ?_
  refine z_ki (va_runS (As := [.int x, .int 1, .int 200]) (rest := []) hfix (zcX5_isIn l D cI H1 x 1 200 ) (va_cwS 3 hts gX5_pass_X5_isIn rfl rfl rfl (by decide +kernel) ⟨Nat.le_of_ble_eq_true rfl, Nat.le_of_ble_eq_true rfl⟩) (z_preS hK) rfl rfl hl.1 rfl (lv_room (Nat.le_of_ble_eq_true rfl)) dX5_pass_10 ⟨by omega, by omega⟩) ?_
  refine lv_if_ne (tgt := 22) hx hb dX5_pass_13 (by decide) (fun c13 => ?_) (fun c13 => ?_)
  · have c13 := zb_1 c13
    exact absurd c13 (z_isIn.mpr hx9)
  · have c13 := zb_0 c13
    refine lv_aload_n hx hb dX5_pass_16 rfl (lv_at hl 0 rfl) ?_
    refine lv_iconst (v := 1) hx hb dX5_pass_17 (by decide) ?_
    refine z_mi (va_runV (As := [.int 1]) (rest := []) hfix (zcX5_fail l D cI H1 b 0 n (jf g me lo c) bf (zn e) (nm rd tk) 1 hM3) (cwV 1 hts gX5_pass_X5_fail rfl rfl rfl (by decide +kernel) ⟨Nat.le_of_ble_eq_true rfl, Nat.le_of_ble_eq_true rfl⟩) (z_preV hK hK hM3 (ci := 5) (q0 := 0) rfl rfl rfl) rfl rfl hl.1 rfl (lv_room (Nat.le_of_ble_eq_true rfl)) dX5_pass_18 ⟨by omega, by omega⟩) hS (fun q _ h => by simp only [zF] at h ⊢; omega) (fun q h => by simp only [zF] at h ⊢; omega) (fun H4 lo5 hB hz1 hk1 hS => ?_)
    have hz : H4.size = H.size := (hB.2).trans hz
    have hM6 : va_P D vwCl (zMo cI b 1 n (jf g me lo c) bf (zn e) (nm rd tk)) H4 := hB.1
    exact z_iretM (⟨hM6, hz⟩) hx hb hr hlocks hS dX5_pass_21
set_option maxHeartbeats 4000000 in
set_option maxRecDepth 100000 in
/-- foresee fails -/
theorem zcX5_foresee_b1 (l : Launch) (D : va_G) (cI : ClassId) (H : Heap) (b : Nat) (tn : Int32) (n : Nat) (g : zG) (me : Nat → Int32) (lo : Nat → Int32) (c : Nat → Nat) (bf : Nat → Int32) (e : Nat → Nat) (rd : Int32) (tk : Int32) (x : Int32) (y : Int32) (hM : va_P D vwCl (zMo cI b tn n (jf g me lo c) bf (zn e) (nm rd tk)) H) (hI : zI n me lo c e) (hx9 : x < 1 ∨ ¬ x ≤ 200) : Met l yX5_foresee wsX5_foresee ({ frames := 1, cells := 0, slots := 0, locals := 22 } : Room) (zPc D [(cI, .int)] H [.ref b, .int x, .int y]) (zM (fun H1 => va_P D vwCl (zMo cI b 1 n (jf g me lo c) bf (zn e) (nm rd tk)) H1 ∧ H1.size = H.size) (some (.int 0)) (zF b (b + 5))) 0 0 (zF b (b + 5)) := by
  refine z_enter (cc := cX5_foresee) (maxL := 5) (ret := (some .int)) (by decide) rfl (Nat.le_of_ble_eq_true rfl) ?_
  intro pg ev s m args below meth cd hfix hr hlocks hname hK hHs ls hl
  obtain ⟨hx, hb, hml, hown, hts⟩ := id hfix
  have hl : lv_has ls 5 [(0, .ref b), (1, .int x), (2, .int y)] := hl
  have hS : va_S (zF b (b + 5)) s.heap H [] := by rw [hHs]; exact va_S.rf
  have hz : H.size = H.size := rfl
  have hinX5 : ∀ w ∈ wsX50, w ∈ wsX5_foresee := by decide +kernel
  have hn := zI_n hI
  refine lv_aload_n hx hb dX5_foresee_0 rfl (lv_at hl 0 rfl) ?_
  refine lv_iconst (v := 0) hx hb dX5_foresee_1 (by decide) ?_
  refine z_put (D := D) (ci := 5) (v := .int 0) (ty := .int) (C := RX5) (T := TX5) (N := 6) hx hb hts hinX5 tyX5 tyX5_ok nmX5 hown hK hM (by simp only [zF]; omega) hS 0 rfl rfl 0 (by decide) (hts _ (List.mem_of_getElem? (i := 1) rfl)) (fun _ h9 => h9) rfl (by decide +kernel) rfl rfl (Nat.le_of_ble_eq_true rfl) dX5_foresee_2 (fun H1 lo2 hP1 hz1 hk1 hS => ?_)
  have hz : H1.size = H.size := by omega
  have hM3 : va_P D vwCl (zMo cI b 0 n (jf g me lo c) bf (zn e) (nm rd tk)) H1 := z_set zMo_c hM 0 rfl hP1 (fun q _ h => hk1 q h)
  refine lv_iload_n hx hb dX5_foresee_5 rfl (lv_at hl 1 rfl) ?_
  refine lv_iconst (v := 1) hx hb dX5_foresee_6 (by decide) ?_
  refine lv_sipush (v := 200) hx hb dX5_foresee_7 (by decide) ?_
  refine z_ki (va_runS (As := [.int x, .int 1, .int 200]) (rest := []) hfix (zcX5_isIn l D cI H1 x 1 200 ) (va_cwS 3 hts gX5_foresee_X5_isIn rfl rfl rfl (by decide +kernel) ⟨Nat.le_of_ble_eq_true rfl, Nat.le_of_ble_eq_true rfl⟩) (z_preS hK) rfl rfl hl.1 rfl (lv_room (Nat.le_of_ble_eq_true rfl)) dX5_foresee_10 ⟨by omega, by omega⟩) ?_
  refine lv_if_ne (tgt := 22) hx hb dX5_foresee_13 (by decide) (fun c13 => ?_) (fun c13 => ?_)
  · have c13 := zb_1 c13
    exact absurd c13 (z_isIn.mpr hx9)
  · have c13 := zb_0 c13
    refine lv_aload_n hx hb dX5_foresee_16 rfl (lv_at hl 0 rfl) ?_
    refine lv_iconst (v := 1) hx hb dX5_foresee_17 (by decide) ?_
    refine z_mi (va_runV (As := [.int 1]) (rest := []) hfix (zcX5_fail l D cI H1 b 0 n (jf g me lo c) bf (zn e) (nm rd tk) 1 hM3) (cwV 1 hts gX5_foresee_X5_fail rfl rfl rfl (by decide +kernel) ⟨Nat.le_of_ble_eq_true rfl, Nat.le_of_ble_eq_true rfl⟩) (z_preV hK hK hM3 (ci := 5) (q0 := 0) rfl rfl rfl) rfl rfl hl.1 rfl (lv_room (Nat.le_of_ble_eq_true rfl)) dX5_foresee_18 ⟨by omega, by omega⟩) hS (fun q _ h => by simp only [zF] at h ⊢; omega) (fun q h => by simp only [zF] at h ⊢; omega) (fun H4 lo5 hB hz1 hk1 hS => ?_)
    have hz : H4.size = H.size := (hB.2).trans hz
    have hM6 : va_P D vwCl (zMo cI b 1 n (jf g me lo c) bf (zn e) (nm rd tk)) H4 := hB.1
    exact z_iretM (⟨hM6, hz⟩) hx hb hr hlocks hS dX5_foresee_21
set_option maxHeartbeats 4000000 in
set_option maxRecDepth 100000 in
/-- foresee fails -/
theorem zcX5_foresee_b2 (l : Launch) (D : va_G) (cI : ClassId) (H : Heap) (b : Nat) (tn : Int32) (n : Nat) (g : zG) (me : Nat → Int32) (lo : Nat → Int32) (c : Nat → Nat) (bf : Nat → Int32) (e : Nat → Nat) (rd : Int32) (tk : Int32) (r : Nat) (x : Int32) (hM : va_P D vwCl (zMo cI b tn n (jf g me lo c) bf (zn e) (nm rd tk)) H) (hI : zI n me lo c e) (hr1 : 1 ≤ r) (hr2 : r ≤ 200) (hx9 : ¬ ∃ j, j < n ∧ x = nI j) : Met l yX5_foresee wsX5_foresee ({ frames := 2, cells := 0, slots := 0, locals := 43 } : Room) (zPc D [(cI, .int)] H [.ref b, .int (nI r), .int x]) (zM (fun H1 => va_P D vwCl (zMo cI b 2 n (jf g me lo c) bf (zn e) (nm rd tk)) H1 ∧ H1.size = H.size) (some (.int 0)) (zF b (b + 5))) 0 0 (zF b (b + 5)) := by
  refine z_enter (cc := cX5_foresee) (maxL := 5) (ret := (some .int)) (by decide) rfl (Nat.le_of_ble_eq_true rfl) ?_
  intro pg ev s m args below meth cd hfix hr hlocks hname hK hHs ls hl
  obtain ⟨hx, hb, hml, hown, hts⟩ := id hfix
  have hl : lv_has ls 5 [(0, .ref b), (1, .int (nI r)), (2, .int x)] := hl
  have hS : va_S (zF b (b + 5)) s.heap H [] := by rw [hHs]; exact va_S.rf
  have hz : H.size = H.size := rfl
  have hinX5 : ∀ w ∈ wsX50, w ∈ wsX5_foresee := by decide +kernel
  have hn := zI_n hI
  refine lv_aload_n hx hb dX5_foresee_0 rfl (lv_at hl 0 rfl) ?_
  refine lv_iconst (v := 0) hx hb dX5_foresee_1 (by decide) ?_
  refine z_put (D := D) (ci := 5) (v := .int 0) (ty := .int) (C := RX5) (T := TX5) (N := 6) hx hb hts hinX5 tyX5 tyX5_ok nmX5 hown hK hM (by simp only [zF]; omega) hS 0 rfl rfl 0 (by decide) (hts _ (List.mem_of_getElem? (i := 1) rfl)) (fun _ h9 => h9) rfl (by decide +kernel) rfl rfl (Nat.le_of_ble_eq_true rfl) dX5_foresee_2 (fun H1 lo2 hP1 hz1 hk1 hS => ?_)
  have hz : H1.size = H.size := by omega
  have hM3 : va_P D vwCl (zMo cI b 0 n (jf g me lo c) bf (zn e) (nm rd tk)) H1 := z_set zMo_c hM 0 rfl hP1 (fun q _ h => hk1 q h)
  refine lv_iload_n hx hb dX5_foresee_5 rfl (lv_at hl 1 rfl) ?_
  refine lv_iconst (v := 1) hx hb dX5_foresee_6 (by decide) ?_
  refine lv_sipush (v := 200) hx hb dX5_foresee_7 (by decide) ?_
  refine z_ki (va_runS (As := [.int (nI r), .int 1, .int 200]) (rest := []) hfix (zcX5_isIn l D cI H1 (nI r) 1 200 ) (va_cwS 3 hts gX5_foresee_X5_isIn rfl rfl rfl (by decide +kernel) ⟨Nat.le_of_ble_eq_true rfl, Nat.le_of_ble_eq_true rfl⟩) (z_preS hK) rfl rfl hl.1 rfl (lv_room (Nat.le_of_ble_eq_true rfl)) dX5_foresee_10 ⟨by omega, by omega⟩) ?_
  refine lv_if_ne (tgt := 22) hx hb dX5_foresee_13 (by decide) (fun c13 => ?_) (fun c13 => ?_)
  · have c13 := zb_1 c13
    refine lv_aload_n hx hb dX5_foresee_22 rfl (lv_at hl 0 rfl) ?_
    refine lv_iload_n hx hb dX5_foresee_23 rfl (lv_at hl 2 rfl) ?_
    refine z_ki (va_runV (As := [.int x]) (rest := []) hfix (zcX5_isParrot l D cI H1 b 0 n (jf g me lo c) bf (zn e) (nm rd tk) x hM3) (cwV 1 hts gX5_foresee_X5_isParrot rfl rfl rfl (by decide +kernel) ⟨Nat.le_of_ble_eq_true rfl, Nat.le_of_ble_eq_true rfl⟩) (z_preV hK hK hM3 (ci := 5) (q0 := 0) rfl rfl rfl) rfl rfl hl.1 rfl (lv_room (Nat.le_of_ble_eq_true rfl)) dX5_foresee_24 ⟨by omega, by omega⟩) ?_
    refine lv_if_ne (tgt := 36) hx hb dX5_foresee_27 (by decide) (fun c27 => ?_) (fun c27 => ?_)
    · have c27 := zb_1 c27
      exact absurd ((z_isP hn).mp c27) hx9
    · have c27 := zb_0 c27
      refine lv_aload_n hx hb dX5_foresee_30 rfl (lv_at hl 0 rfl) ?_
      refine lv_iconst (v := 2) hx hb dX5_foresee_31 (by decide) ?_
      refine z_mi (va_runV (As := [.int 2]) (rest := []) hfix (zcX5_fail l D cI H1 b 0 n (jf g me lo c) bf (zn e) (nm rd tk) 2 hM3) (cwV 1 hts gX5_foresee_X5_fail rfl rfl rfl (by decide +kernel) ⟨Nat.le_of_ble_eq_true rfl, Nat.le_of_ble_eq_true rfl⟩) (z_preV hK hK hM3 (ci := 5) (q0 := 0) rfl rfl rfl) rfl rfl hl.1 rfl (lv_room (Nat.le_of_ble_eq_true rfl)) dX5_foresee_32 ⟨by omega, by omega⟩) hS (fun q _ h => by simp only [zF] at h ⊢; omega) (fun q h => by simp only [zF] at h ⊢; omega) (fun H4 lo5 hB hz1 hk1 hS => ?_)
      have hz : H4.size = H.size := (hB.2).trans hz
      have hM6 : va_P D vwCl (zMo cI b 2 n (jf g me lo c) bf (zn e) (nm rd tk)) H4 := hB.1
      exact z_iretM (⟨hM6, hz⟩) hx hb hr hlocks hS dX5_foresee_35
  · have c13 := zb_0 c13
    exact absurd (z_in (a := 1) (b := 200) hr1 hr2 (by omega)) c13
set_option maxHeartbeats 4000000 in
set_option maxRecDepth 100000 in
/-- advise fails -/
theorem zcX5_advise_b1 (l : Launch) (D : va_G) (cI : ClassId) (H : Heap) (b : Nat) (tn : Int32) (n : Nat) (g : zG) (me : Nat → Int32) (lo : Nat → Int32) (c : Nat → Nat) (bf : Nat → Int32) (e : Nat → Nat) (rd : Int32) (tk : Int32) (x : Int32) (y : Int32) (hM : va_P D vwCl (zMo cI b tn n (jf g me lo c) bf (zn e) (nm rd tk)) H) (hI : zI n me lo c e) (hx9 : x < 0 ∨ ¬ x ≤ 9999) : Met l yX5_advise wsX5_advise ({ frames := 2, cells := 0, slots := 0, locals := 42 } : Room) (zPc D [(cI, .int)] H [.ref b, .int x, .int y]) (zM (fun H1 => va_P D vwCl (zMo cI b 1 n (jf g me lo c) bf (zn e) (nm rd tk)) H1 ∧ H1.size = H.size) (some (.int 0)) (zF b (b + 5))) 0 0 (zF b (b + 5)) := by
  refine z_enter (cc := cX5_advise) (maxL := 8) (ret := (some .int)) (by decide) rfl (Nat.le_of_ble_eq_true rfl) ?_
  intro pg ev s m args below meth cd hfix hr hlocks hname hK hHs ls hl
  obtain ⟨hx, hb, hml, hown, hts⟩ := id hfix
  have hl : lv_has ls 8 [(0, .ref b), (1, .int x), (2, .int y)] := hl
  have hS : va_S (zF b (b + 5)) s.heap H [] := by rw [hHs]; exact va_S.rf
  have hz : H.size = H.size := rfl
  have hinX5 : ∀ w ∈ wsX50, w ∈ wsX5_advise := by decide +kernel
  have hn := zI_n hI
  refine lv_aload_n hx hb dX5_advise_0 rfl (lv_at hl 0 rfl) ?_
  refine lv_iconst (v := 0) hx hb dX5_advise_1 (by decide) ?_
  refine z_put (D := D) (ci := 5) (v := .int 0) (ty := .int) (C := RX5) (T := TX5) (N := 6) hx hb hts hinX5 tyX5 tyX5_ok nmX5 hown hK hM (by simp only [zF]; omega) hS 0 rfl rfl 0 (by decide) (hts _ (List.mem_of_getElem? (i := 1) rfl)) (fun _ h9 => h9) rfl (by decide +kernel) rfl rfl (Nat.le_of_ble_eq_true rfl) dX5_advise_2 (fun H1 lo2 hP1 hz1 hk1 hS => ?_)
  have hz : H1.size = H.size := by omega
  have hM3 : va_P D vwCl (zMo cI b 0 n (jf g me lo c) bf (zn e) (nm rd tk)) H1 := z_set zMo_c hM 0 rfl hP1 (fun q _ h => hk1 q h)
  refine lv_iload_n hx hb dX5_advise_5 rfl (lv_at hl 1 rfl) ?_
  refine z_ki (va_runS (As := [.int x]) (rest := []) hfix (zcX5_isWord l D cI H1 x ) (va_cwS 1 hts gX5_advise_X5_isWord rfl rfl rfl (by decide +kernel) ⟨Nat.le_of_ble_eq_true rfl, Nat.le_of_ble_eq_true rfl⟩) (z_preS hK) rfl rfl hl.1 rfl (lv_room (Nat.le_of_ble_eq_true rfl)) dX5_advise_6 ⟨by omega, by omega⟩) ?_
  refine lv_if_eq (tgt := 22) hx hb dX5_advise_9 (by decide) (fun c9 => ?_) (fun c9 => ?_)
  · have c9 := zb_0 c9
    refine lv_aload_n hx hb dX5_advise_22 rfl (lv_at hl 0 rfl) ?_
    refine lv_iconst (v := 1) hx hb dX5_advise_23 (by decide) ?_
    refine z_mi (va_runV (As := [.int 1]) (rest := []) hfix (zcX5_fail l D cI H1 b 0 n (jf g me lo c) bf (zn e) (nm rd tk) 1 hM3) (cwV 1 hts gX5_advise_X5_fail rfl rfl rfl (by decide +kernel) ⟨Nat.le_of_ble_eq_true rfl, Nat.le_of_ble_eq_true rfl⟩) (z_preV hK hK hM3 (ci := 5) (q0 := 0) rfl rfl rfl) rfl rfl hl.1 rfl (lv_room (Nat.le_of_ble_eq_true rfl)) dX5_advise_24 ⟨by omega, by omega⟩) hS (fun q _ h => by simp only [zF] at h ⊢; omega) (fun q h => by simp only [zF] at h ⊢; omega) (fun H4 lo5 hB hz1 hk1 hS => ?_)
    have hz : H4.size = H.size := (hB.2).trans hz
    have hM6 : va_P D vwCl (zMo cI b 1 n (jf g me lo c) bf (zn e) (nm rd tk)) H4 := hB.1
    exact z_iretM (⟨hM6, hz⟩) hx hb hr hlocks hS dX5_advise_27
  · have c9 := zb_1 c9
    exact absurd c9 (z_isIn.mpr hx9)
set_option maxHeartbeats 4000000 in
set_option maxRecDepth 100000 in
/-- advise fails -/
theorem zcX5_advise_b2 (l : Launch) (D : va_G) (cI : ClassId) (H : Heap) (b : Nat) (tn : Int32) (n : Nat) (g : zG) (me : Nat → Int32) (lo : Nat → Int32) (c : Nat → Nat) (bf : Nat → Int32) (e : Nat → Nat) (rd : Int32) (tk : Int32) (w : Nat) (y : Int32) (hM : va_P D vwCl (zMo cI b tn n (jf g me lo c) bf (zn e) (nm rd tk)) H) (hI : zI n me lo c e) (hw : w ≤ 9999) (hx9 : y < 1 ∨ ¬ y ≤ 40) : Met l yX5_advise wsX5_advise ({ frames := 2, cells := 0, slots := 0, locals := 42 } : Room) (zPc D [(cI, .int)] H [.ref b, .int (nI w), .int y]) (zM (fun H1 => va_P D vwCl (zMo cI b 1 n (jf g me lo c) bf (zn e) (nm rd tk)) H1 ∧ H1.size = H.size) (some (.int 0)) (zF b (b + 5))) 0 0 (zF b (b + 5)) := by
  refine z_enter (cc := cX5_advise) (maxL := 8) (ret := (some .int)) (by decide) rfl (Nat.le_of_ble_eq_true rfl) ?_
  intro pg ev s m args below meth cd hfix hr hlocks hname hK hHs ls hl
  obtain ⟨hx, hb, hml, hown, hts⟩ := id hfix
  have hl : lv_has ls 8 [(0, .ref b), (1, .int (nI w)), (2, .int y)] := hl
  have hS : va_S (zF b (b + 5)) s.heap H [] := by rw [hHs]; exact va_S.rf
  have hz : H.size = H.size := rfl
  have hinX5 : ∀ w ∈ wsX50, w ∈ wsX5_advise := by decide +kernel
  have hn := zI_n hI
  refine lv_aload_n hx hb dX5_advise_0 rfl (lv_at hl 0 rfl) ?_
  refine lv_iconst (v := 0) hx hb dX5_advise_1 (by decide) ?_
  refine z_put (D := D) (ci := 5) (v := .int 0) (ty := .int) (C := RX5) (T := TX5) (N := 6) hx hb hts hinX5 tyX5 tyX5_ok nmX5 hown hK hM (by simp only [zF]; omega) hS 0 rfl rfl 0 (by decide) (hts _ (List.mem_of_getElem? (i := 1) rfl)) (fun _ h9 => h9) rfl (by decide +kernel) rfl rfl (Nat.le_of_ble_eq_true rfl) dX5_advise_2 (fun H1 lo2 hP1 hz1 hk1 hS => ?_)
  have hz : H1.size = H.size := by omega
  have hM3 : va_P D vwCl (zMo cI b 0 n (jf g me lo c) bf (zn e) (nm rd tk)) H1 := z_set zMo_c hM 0 rfl hP1 (fun q _ h => hk1 q h)
  refine lv_iload_n hx hb dX5_advise_5 rfl (lv_at hl 1 rfl) ?_
  refine z_ki (va_runS (As := [.int (nI w)]) (rest := []) hfix (zcX5_isWord l D cI H1 (nI w) ) (va_cwS 1 hts gX5_advise_X5_isWord rfl rfl rfl (by decide +kernel) ⟨Nat.le_of_ble_eq_true rfl, Nat.le_of_ble_eq_true rfl⟩) (z_preS hK) rfl rfl hl.1 rfl (lv_room (Nat.le_of_ble_eq_true rfl)) dX5_advise_6 ⟨by omega, by omega⟩) ?_
  refine lv_if_eq (tgt := 22) hx hb dX5_advise_9 (by decide) (fun c9 => ?_) (fun c9 => ?_)
  · have c9 := zb_0 c9
    exact absurd (z_in (a := 0) (b := 9999) (Nat.zero_le _) hw (by omega)) c9
  · have c9 := zb_1 c9
    refine lv_iload_n hx hb dX5_advise_12 rfl (lv_at hl 2 rfl) ?_
    refine lv_iconst (v := 1) hx hb dX5_advise_13 (by decide) ?_
    refine lv_bipush (v := 40) hx hb dX5_advise_14 (by decide) ?_
    refine z_ki (va_runS (As := [.int y, .int 1, .int 40]) (rest := []) hfix (zcX5_isIn l D cI H1 y 1 40 ) (va_cwS 3 hts gX5_advise_X5_isIn rfl rfl rfl (by decide +kernel) ⟨Nat.le_of_ble_eq_true rfl, Nat.le_of_ble_eq_true rfl⟩) (z_preS hK) rfl rfl hl.1 rfl (lv_room (Nat.le_of_ble_eq_true rfl)) dX5_advise_16 ⟨by omega, by omega⟩) ?_
    refine lv_if_ne (tgt := 28) hx hb dX5_advise_19 (by decide) (fun c19 => ?_) (fun c19 => ?_)
    · have c19 := zb_1 c19
      exact absurd c19 (z_isIn.mpr hx9)
    · have c19 := zb_0 c19
      refine lv_aload_n hx hb dX5_advise_22 rfl (lv_at hl 0 rfl) ?_
      refine lv_iconst (v := 1) hx hb dX5_advise_23 (by decide) ?_
      refine z_mi (va_runV (As := [.int 1]) (rest := []) hfix (zcX5_fail l D cI H1 b 0 n (jf g me lo c) bf (zn e) (nm rd tk) 1 hM3) (cwV 1 hts gX5_advise_X5_fail rfl rfl rfl (by decide +kernel) ⟨Nat.le_of_ble_eq_true rfl, Nat.le_of_ble_eq_true rfl⟩) (z_preV hK hK hM3 (ci := 5) (q0 := 0) rfl rfl rfl) rfl rfl hl.1 rfl (lv_room (Nat.le_of_ble_eq_true rfl)) dX5_advise_24 ⟨by omega, by omega⟩) hS (fun q _ h => by simp only [zF] at h ⊢; omega) (fun q h => by simp only [zF] at h ⊢; omega) (fun H4 lo5 hB hz1 hk1 hS => ?_)
      have hz : H4.size = H.size := (hB.2).trans hz
      have hM6 : va_P D vwCl (zMo cI b 1 n (jf g me lo c) bf (zn e) (nm rd tk)) H4 := hB.1
      exact z_iretM (⟨hM6, hz⟩) hx hb hr hlocks hS dX5_advise_27
set_option maxHeartbeats 4000000 in
set_option maxRecDepth 100000 in
/-- source fails -/
theorem zcX5_source_b1 (l : Launch) (D : va_G) (cI : ClassId) (H : Heap) (b : Nat) (tn : Int32) (n : Nat) (g : zG) (me : Nat → Int32) (lo : Nat → Int32) (c : Nat → Nat) (bf : Nat → Int32) (e : Nat → Nat) (rd : Int32) (tk : Int32) (x : Int32) (hM : va_P D vwCl (zMo cI b tn n (jf g me lo c) bf (zn e) (nm rd tk)) H) (hI : zI n me lo c e) (hx9 : ¬ ∃ j, j < n ∧ x = nI j) : Met l yX5_source wsX5_source ({ frames := 2, cells := 0, slots := 0, locals := 43 } : Room) (zPc D [(cI, .int)] H [.ref b, .int x]) (zM (fun H1 => va_P D vwCl (zMo cI b 1 n (jf g me lo c) bf (zn e) (nm rd tk)) H1 ∧ H1.size = H.size) (some (.int 0)) (zF b (b + 5))) 0 0 (zF b (b + 5)) := by
  refine z_enter (cc := cX5_source) (maxL := 6) (ret := (some .int)) (by decide) rfl (Nat.le_of_ble_eq_true rfl) ?_
  intro pg ev s m args below meth cd hfix hr hlocks hname hK hHs ls hl
  obtain ⟨hx, hb, hml, hown, hts⟩ := id hfix
  have hl : lv_has ls 6 [(0, .ref b), (1, .int x)] := hl
  have hS : va_S (zF b (b + 5)) s.heap H [] := by rw [hHs]; exact va_S.rf
  have hz : H.size = H.size := rfl
  have hinX5 : ∀ w ∈ wsX50, w ∈ wsX5_source := by decide +kernel
  have hn := zI_n hI
  refine lv_aload_n hx hb dX5_source_0 rfl (lv_at hl 0 rfl) ?_
  refine lv_iconst (v := 0) hx hb dX5_source_1 (by decide) ?_
  refine z_put (D := D) (ci := 5) (v := .int 0) (ty := .int) (C := RX5) (T := TX5) (N := 6) hx hb hts hinX5 tyX5 tyX5_ok nmX5 hown hK hM (by simp only [zF]; omega) hS 0 rfl rfl 0 (by decide) (hts _ (List.mem_of_getElem? (i := 1) rfl)) (fun _ h9 => h9) rfl (by decide +kernel) rfl rfl (Nat.le_of_ble_eq_true rfl) dX5_source_2 (fun H1 lo2 hP1 hz1 hk1 hS => ?_)
  have hz : H1.size = H.size := by omega
  have hM3 : va_P D vwCl (zMo cI b 0 n (jf g me lo c) bf (zn e) (nm rd tk)) H1 := z_set zMo_c hM 0 rfl hP1 (fun q _ h => hk1 q h)
  refine lv_aload_n hx hb dX5_source_5 rfl (lv_at hl 0 rfl) ?_
  refine lv_iload_n hx hb dX5_source_6 rfl (lv_at hl 1 rfl) ?_
  refine z_ki (va_runV (As := [.int x]) (rest := []) hfix (zcX5_isParrot l D cI H1 b 0 n (jf g me lo c) bf (zn e) (nm rd tk) x hM3) (cwV 1 hts gX5_source_X5_isParrot rfl rfl rfl (by decide +kernel) ⟨Nat.le_of_ble_eq_true rfl, Nat.le_of_ble_eq_true rfl⟩) (z_preV hK hK hM3 (ci := 5) (q0 := 0) rfl rfl rfl) rfl rfl hl.1 rfl (lv_room (Nat.le_of_ble_eq_true rfl)) dX5_source_7 ⟨by omega, by omega⟩) ?_
  refine lv_if_ne (tgt := 19) hx hb dX5_source_10 (by decide) (fun c10 => ?_) (fun c10 => ?_)
  · have c10 := zb_1 c10
    exact absurd ((z_isP hn).mp c10) hx9
  · have c10 := zb_0 c10
    refine lv_aload_n hx hb dX5_source_13 rfl (lv_at hl 0 rfl) ?_
    refine lv_iconst (v := 1) hx hb dX5_source_14 (by decide) ?_
    refine z_mi (va_runV (As := [.int 1]) (rest := []) hfix (zcX5_fail l D cI H1 b 0 n (jf g me lo c) bf (zn e) (nm rd tk) 1 hM3) (cwV 1 hts gX5_source_X5_fail rfl rfl rfl (by decide +kernel) ⟨Nat.le_of_ble_eq_true rfl, Nat.le_of_ble_eq_true rfl⟩) (z_preV hK hK hM3 (ci := 5) (q0 := 0) rfl rfl rfl) rfl rfl hl.1 rfl (lv_room (Nat.le_of_ble_eq_true rfl)) dX5_source_15 ⟨by omega, by omega⟩) hS (fun q _ h => by simp only [zF] at h ⊢; omega) (fun q h => by simp only [zF] at h ⊢; omega) (fun H4 lo5 hB hz1 hk1 hS => ?_)
    have hz : H4.size = H.size := (hB.2).trans hz
    have hM6 : va_P D vwCl (zMo cI b 1 n (jf g me lo c) bf (zn e) (nm rd tk)) H4 := hB.1
    exact z_iretM (⟨hM6, hz⟩) hx hb hr hlocks hS dX5_source_18
