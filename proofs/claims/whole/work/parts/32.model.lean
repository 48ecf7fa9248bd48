set_option maxHeartbeats 4000000 in
set_option maxRecDepth 100000 in
/-- ju -/
theorem zcX5_ju (l : Launch) (D : va_G) (cI : ClassId) (H : Heap) (b : Nat) (tn : Int32) (n : Nat) (J : Nat → Int32) (bf : Nat → Int32) (E : Nat → Int32) (Nm : Nat → Int32) (p : Nat) (w : Nat) (hM : va_P D vwCl (zMo cI b tn n J bf E Nm) H) (hp : p < 12) (hw : w < 10) : Met l yX5_ju wsX5_ju ({ frames := 0, cells := 0, slots := 0, locals := 0 } : Room) (zPc D [(cI, .int)] H [.ref b, .int (nI p), .int (nI w)]) (zQ (some (.int (J (p * 10 + w)))) H) 0 0 (fun _ => False) := by
  refine z_enter (cc := cX5_ju) (maxL := 3) (ret := (some .int)) (by decide) rfl (Nat.le_of_ble_eq_true rfl) ?_
  intro pg ev s m args below meth cd hfix hr hlocks hname hK hHs ls hl
  obtain ⟨hx, hb, hml, hown, hts⟩ := id hfix
  have hl : lv_has ls 3 [(0, .ref b), (1, .int (nI p)), (2, .int (nI w))] := hl
  have hinX5 : ∀ w ∈ wsX50, w ∈ wsX5_ju := by decide +kernel
  refine lv_aload_n hx hb dX5_ju_0 rfl (lv_at hl 0 rfl) ?_
  refine va_get (D := D) (ci := 5) (v := .ref (b + 1)) (C := RX5) (T := TX5) (N := 6) hx hb hts hinX5 hown hK hM 0 rfl rfl 2 (by decide) (hts _ (List.mem_of_getElem? (i := 1) rfl)) (fun _ h9 => h9) rfl dX5_ju_1 ?_
  refine lv_bipush (v := 10) hx hb dX5_ju_4 (by decide) ?_
  refine lv_iload_n hx hb dX5_ju_6 rfl (lv_at hl 1 rfl) ?_
  refine lv_imul hx hb dX5_ju_7 ?_
  refine z_toi (y := nI (p * 10)) ((pk_mul 10 p).trans (congrArg nI (Nat.mul_comm _ _))) ?_
  refine lv_iload_n hx hb dX5_ju_8 rfl (lv_at hl 2 rfl) ?_
  refine lv_iadd hx hb dX5_ju_9 ?_
  refine z_toi (y := nI (p * 10 + w)) (nI_add (p * 10) w) ?_
  refine z_iald (a := (b + 1)) (n := 120) (f := J) (j := (p * 10 + w)) hx hb hK hM 1 0 rfl rfl rfl (by omega) (by omega) dX5_ju_10 ?_
  exact z_iret hx hb hr hlocks dX5_ju_11
set_option maxHeartbeats 4000000 in
set_option maxRecDepth 100000 in
/-- be -/
theorem zcX5_be (l : Launch) (D : va_G) (cI : ClassId) (H : Heap) (b : Nat) (tn : Int32) (n : Nat) (J : Nat → Int32) (bf : Nat → Int32) (E : Nat → Int32) (Nm : Nat → Int32) (p : Nat) (w : Nat) (hM : va_P D vwCl (zMo cI b tn n J bf E Nm) H) (hp : p < 12) (hw : w < 10) : Met l yX5_be wsX5_be ({ frames := 0, cells := 0, slots := 0, locals := 0 } : Room) (zPc D [(cI, .int)] H [.ref b, .int (nI p), .int (nI w)]) (zQ (some (.int (bf (p * 10 + w)))) H) 0 0 (fun _ => False) := by
  refine z_enter (cc := cX5_be) (maxL := 3) (ret := (some .int)) (by decide) rfl (Nat.le_of_ble_eq_true rfl) ?_
  intro pg ev s m args below meth cd hfix hr hlocks hname hK hHs ls hl
  obtain ⟨hx, hb, hml, hown, hts⟩ := id hfix
  have hl : lv_has ls 3 [(0, .ref b), (1, .int (nI p)), (2, .int (nI w))] := hl
  have hinX5 : ∀ w ∈ wsX50, w ∈ wsX5_be := by decide +kernel
  refine lv_aload_n hx hb dX5_be_0 rfl (lv_at hl 0 rfl) ?_
  refine va_get (D := D) (ci := 5) (v := .ref (b + 2)) (C := RX5) (T := TX5) (N := 6) hx hb hts hinX5 hown hK hM 0 rfl rfl 3 (by decide) (hts _ (List.mem_of_getElem? (i := 1) rfl)) (fun _ h9 => h9) rfl dX5_be_1 ?_
  refine lv_bipush (v := 10) hx hb dX5_be_4 (by decide) ?_
  refine lv_iload_n hx hb dX5_be_6 rfl (lv_at hl 1 rfl) ?_
  refine lv_imul hx hb dX5_be_7 ?_
  refine z_toi (y := nI (p * 10)) ((pk_mul 10 p).trans (congrArg nI (Nat.mul_comm _ _))) ?_
  refine lv_iload_n hx hb dX5_be_8 rfl (lv_at hl 2 rfl) ?_
  refine lv_iadd hx hb dX5_be_9 ?_
  refine z_toi (y := nI (p * 10 + w)) (nI_add (p * 10) w) ?_
  refine z_iald (a := (b + 2)) (n := 120) (f := bf) (j := (p * 10 + w)) hx hb hK hM 2 0 rfl rfl rfl (by omega) (by omega) dX5_be_10 ?_
  exact z_iret hx hb hr hlocks dX5_be_11
set_option maxHeartbeats 4000000 in
set_option maxRecDepth 100000 in
/-- put -/
theorem zcX5_put (l : Launch) (D : va_G) (cI : ClassId) (H : Heap) (b : Nat) (tn : Int32) (n : Nat) (J : Nat → Int32) (bf : Nat → Int32) (E : Nat → Int32) (Nm : Nat → Int32) (p : Nat) (w : Nat) (x : Int32) (hM : va_P D vwCl (zMo cI b tn n J bf E Nm) H) (hp : p < 12) (hw : w < 10) : Met l yX5_put wsX5_put ({ frames := 0, cells := 0, slots := 0, locals := 0 } : Room) (zPc D [(cI, .int)] H [.ref b, .int (nI p), .int (nI w), .int x]) (zM (fun H1 => va_P D vwCl (zMo cI b tn n (upd J (p * 10 + w) x) bf E Nm) H1 ∧ H1.size = H.size) none (zF b (b + 5))) 0 0 (zF b (b + 5)) := by
  refine z_enter (cc := cX5_put) (maxL := 4) (ret := none) (by decide) rfl (Nat.le_of_ble_eq_true rfl) ?_
  intro pg ev s m args below meth cd hfix hr hlocks hname hK hHs ls hl
  obtain ⟨hx, hb, hml, hown, hts⟩ := id hfix
  have hl : lv_has ls 4 [(0, .ref b), (1, .int (nI p)), (2, .int (nI w)), (3, .int x)] := hl
  have hS : va_S (zF b (b + 5)) s.heap H [] := by rw [hHs]; exact va_S.rf
  have hz : H.size = H.size := rfl
  have hinX5 : ∀ w ∈ wsX50, w ∈ wsX5_put := by decide +kernel
  refine lv_aload_n hx hb dX5_put_0 rfl (lv_at hl 0 rfl) ?_
  refine va_get (D := D) (ci := 5) (v := .ref (b + 1)) (C := RX5) (T := TX5) (N := 6) hx hb hts hinX5 hown hK hM 0 rfl rfl 2 (by decide) (hts _ (List.mem_of_getElem? (i := 1) rfl)) (fun _ h9 => h9) rfl dX5_put_1 ?_
  refine lv_bipush (v := 10) hx hb dX5_put_4 (by decide) ?_
  refine lv_iload_n hx hb dX5_put_6 rfl (lv_at hl 1 rfl) ?_
  refine lv_imul hx hb dX5_put_7 ?_
  refine z_toi (y := nI (p * 10)) ((pk_mul 10 p).trans (congrArg nI (Nat.mul_comm _ _))) ?_
  refine lv_iload_n hx hb dX5_put_8 rfl (lv_at hl 2 rfl) ?_
  refine lv_iadd hx hb dX5_put_9 ?_
  refine z_toi (y := nI (p * 10 + w)) (nI_add (p * 10) w) ?_
  refine lv_iload_n hx hb dX5_put_10 rfl (lv_at hl 3 rfl) ?_
  refine z_iast (n := 120) (f := J) (x := x) (j := (p * 10 + w)) hx hb hK hM (by simp only [zF]; omega) hS 1 0 rfl rfl rfl (by omega) (by omega) dX5_put_11 (fun H1 lo2 hP1 hz1 hk1 hS => ?_)
  have hz : H1.size = H.size := by omega
  have hM3 : va_P D vwCl (zMo cI b tn n (upd J (p * 10 + w) x) bf E Nm) H1 := z_set zMo_c hM 1 rfl hP1 (fun q _ h => hk1 q h)
  exact z_vretM (⟨hM3, hz⟩) hx hb hr hlocks hS dX5_put_12
set_option maxHeartbeats 4000000 in
set_option maxRecDepth 100000 in
/-- thrown -/
theorem zcX5_thrown (l : Launch) (D : va_G) (cI : ClassId) (H : Heap) (b : Nat) (tn : Int32) (n : Nat) (J : Nat → Int32) (bf : Nat → Int32) (E : Nat → Int32) (Nm : Nat → Int32) (hM : va_P D vwCl (zMo cI b tn n J bf E Nm) H) : Met l yX5_thrown wsX5_thrown ({ frames := 0, cells := 0, slots := 0, locals := 0 } : Room) (zPc D [(cI, .int)] H [.ref b]) (zQ (some (.int tn)) H) 0 0 (fun _ => False) := by
  refine z_enter (cc := cX5_thrown) (maxL := 1) (ret := (some .int)) (by decide) rfl (Nat.le_of_ble_eq_true rfl) ?_
  intro pg ev s m args below meth cd hfix hr hlocks hname hK hHs ls hl
  obtain ⟨hx, hb, hml, hown, hts⟩ := id hfix
  have hl : lv_has ls 1 [(0, .ref b)] := hl
  have hinX5 : ∀ w ∈ wsX50, w ∈ wsX5_thrown := by decide +kernel
  refine lv_aload_n hx hb dX5_thrown_0 rfl (lv_at hl 0 rfl) ?_
  refine va_get (D := D) (ci := 5) (v := .int tn) (C := RX5) (T := TX5) (N := 6) hx hb hts hinX5 hown hK hM 0 rfl rfl 0 (by decide) (hts _ (List.mem_of_getElem? (i := 1) rfl)) (fun _ h9 => h9) rfl dX5_thrown_1 ?_
  exact z_iret hx hb hr hlocks dX5_thrown_4
set_option maxHeartbeats 4000000 in
set_option maxRecDepth 100000 in
/-- fail -/
theorem zcX5_fail (l : Launch) (D : va_G) (cI : ClassId) (H : Heap) (b : Nat) (tn : Int32) (n : Nat) (J : Nat → Int32) (bf : Nat → Int32) (E : Nat → Int32) (Nm : Nat → Int32) (x : Int32) (hM : va_P D vwCl (zMo cI b tn n J bf E Nm) H) : Met l yX5_fail wsX5_fail ({ frames := 0, cells := 0, slots := 0, locals := 0 } : Room) (zPc D [(cI, .int)] H [.ref b, .int x]) (zM (fun H1 => va_P D vwCl (zMo cI b x n J bf E Nm) H1 ∧ H1.size = H.size) (some (.int 0)) (zF b (b + 5))) 0 0 (zF b (b + 5)) := by
  refine z_enter (cc := cX5_fail) (maxL := 2) (ret := (some .int)) (by decide) rfl (Nat.le_of_ble_eq_true rfl) ?_
  intro pg ev s m args below meth cd hfix hr hlocks hname hK hHs ls hl
  obtain ⟨hx, hb, hml, hown, hts⟩ := id hfix
  have hl : lv_has ls 2 [(0, .ref b), (1, .int x)] := hl
  have hS : va_S (zF b (b + 5)) s.heap H [] := by rw [hHs]; exact va_S.rf
  have hz : H.size = H.size := rfl
  have hinX5 : ∀ w ∈ wsX50, w ∈ wsX5_fail := by decide +kernel
  refine lv_aload_n hx hb dX5_fail_0 rfl (lv_at hl 0 rfl) ?_
  refine lv_iload_n hx hb dX5_fail_1 rfl (lv_at hl 1 rfl) ?_
  refine z_put (D := D) (ci := 5) (v := .int x) (ty := .int) (C := RX5) (T := TX5) (N := 6) hx hb hts hinX5 tyX5 tyX5_ok nmX5 hown hK hM (by simp only [zF]; omega) hS 0 rfl rfl 0 (by decide) (hts _ (List.mem_of_getElem? (i := 1) rfl)) (fun _ h9 => h9) rfl (by decide +kernel) rfl rfl (Nat.le_of_ble_eq_true rfl) dX5_fail_2 (fun H1 lo2 hP1 hz1 hk1 hS => ?_)
  have hz : H1.size = H.size := by omega
  have hM3 : va_P D vwCl (zMo cI b x n J bf E Nm) H1 := z_set zMo_c hM 0 rfl hP1 (fun q _ h => hk1 q h)
  refine lv_iconst (v := 0) hx hb dX5_fail_5 (by decide) ?_
  exact z_iretM (⟨hM3, hz⟩) hx hb hr hlocks hS dX5_fail_6
set_option maxHeartbeats 4000000 in
set_option maxRecDepth 100000 in
/-- isIn -/
theorem zcX5_isIn (l : Launch) (D : va_G) (cI : ClassId) (H : Heap) (x : Int32) (lw : Int32) (hg : Int32)  : Met l yX5_isIn wsX5_isIn ({ frames := 0, cells := 0, slots := 0, locals := 0 } : Room) (zPc D [(cI, .int)] H [.int x, .int lw, .int hg]) (zQ (some (.int (zb (lw ≤ x ∧ x ≤ hg)))) H) 0 0 (fun _ => False) := by
  refine z_enter (cc := cX5_isIn) (maxL := 3) (ret := (some .boolean)) (by decide) rfl (Nat.le_of_ble_eq_true rfl) ?_
  intro pg ev s m args below meth cd hfix hr hlocks hname hK hHs ls hl
  obtain ⟨hx, hb, hml, hown, hts⟩ := id hfix
  have hl : lv_has ls 3 [(0, .int x), (1, .int lw), (2, .int hg)] := hl
  refine lv_iload_n hx hb dX5_isIn_0 rfl (lv_at hl 0 rfl) ?_
  refine lv_iload_n hx hb dX5_isIn_1 rfl (lv_at hl 1 rfl) ?_
  refine lv_icmp_lt (tgt := 14) hx hb dX5_isIn_2 (by decide) (fun c2 => ?_) (fun c2 => ?_)
  · refine lv_iconst (v := 0) hx hb dX5_isIn_14 (by decide) ?_
    refine z_toi (y := (zb (lw ≤ x ∧ x ≤ hg))) (by first | exact zb_t ⟨Int32.not_lt.mp c2, Int32.not_lt.mp c7⟩ | exact zb_f (fun h => absurd c2 (Int32.not_lt.mpr h.1)) | exact zb_f (fun h => absurd c7 (Int32.not_lt.mpr h.2))) ?_
    exact z_zret hx hb hr (zb_nar) hlocks dX5_isIn_15
  · refine lv_iload_n hx hb dX5_isIn_5 rfl (lv_at hl 0 rfl) ?_
    refine lv_iload_n hx hb dX5_isIn_6 rfl (lv_at hl 2 rfl) ?_
    refine lv_icmp_gt (tgt := 14) hx hb dX5_isIn_7 (by decide) (fun c7 => ?_) (fun c7 => ?_)
    · refine lv_iconst (v := 0) hx hb dX5_isIn_14 (by decide) ?_
      refine z_toi (y := (zb (lw ≤ x ∧ x ≤ hg))) (by first | exact zb_t ⟨Int32.not_lt.mp c2, Int32.not_lt.mp c7⟩ | exact zb_f (fun h => absurd c2 (Int32.not_lt.mpr h.1)) | exact zb_f (fun h => absurd c7 (Int32.not_lt.mpr h.2))) ?_
      exact z_zret hx hb hr (zb_nar) hlocks dX5_isIn_15
    · refine lv_iconst (v := 1) hx hb dX5_isIn_10 (by decide) ?_
      refine lv_goto (tgt := 15) hx hb dX5_isIn_11 (by decide) ?_
      refine z_toi (y := (zb (lw ≤ x ∧ x ≤ hg))) (by first | exact zb_t ⟨Int32.not_lt.mp c2, Int32.not_lt.mp c7⟩ | exact zb_f (fun h => absurd c2 (Int32.not_lt.mpr h.1)) | exact zb_f (fun h => absurd c7 (Int32.not_lt.mpr h.2))) ?_
      exact z_zret hx hb hr (zb_nar) hlocks dX5_isIn_15
set_option maxHeartbeats 4000000 in
set_option maxRecDepth 100000 in
/-- isParrot -/
theorem zcX5_isParrot (l : Launch) (D : va_G) (cI : ClassId) (H : Heap) (b : Nat) (tn : Int32) (n : Nat) (J : Nat → Int32) (bf : Nat → Int32) (E : Nat → Int32) (Nm : Nat → Int32) (x : Int32) (hM : va_P D vwCl (zMo cI b tn n J bf E Nm) H) : Met l yX5_isParrot wsX5_isParrot ({ frames := 1, cells := 0, slots := 0, locals := 22 } : Room) (zPc D [(cI, .int)] H [.ref b, .int x]) (zQ (some (.int (zb (0 ≤ x ∧ x ≤ nI n - 1)))) H) 0 0 (fun _ => False) := by
  refine z_enter (cc := cX5_isParrot) (maxL := 2) (ret := (some .boolean)) (by decide) rfl (Nat.le_of_ble_eq_true rfl) ?_
  intro pg ev s m args below meth cd hfix hr hlocks hname hK hHs ls hl
  obtain ⟨hx, hb, hml, hown, hts⟩ := id hfix
  have hl : lv_has ls 2 [(0, .ref b), (1, .int x)] := hl
  have hinX5 : ∀ w ∈ wsX50, w ∈ wsX5_isParrot := by decide +kernel
  refine lv_iload_n hx hb dX5_isParrot_0 rfl (lv_at hl 1 rfl) ?_
  refine lv_iconst (v := 0) hx hb dX5_isParrot_1 (by decide) ?_
  refine lv_aload_n hx hb dX5_isParrot_2 rfl (lv_at hl 0 rfl) ?_
  refine va_get (D := D) (ci := 5) (v := .int (nI n)) (C := RX5) (T := TX5) (N := 6) hx hb hts hinX5 hown hK hM 0 rfl rfl 1 (by decide) (hts _ (List.mem_of_getElem? (i := 1) rfl)) (fun _ h9 => h9) rfl dX5_isParrot_3 ?_
  refine lv_iconst (v := 1) hx hb dX5_isParrot_6 (by decide) ?_
  refine lv_isub hx hb dX5_isParrot_7 ?_
  refine z_ki (va_runS (As := [.int x, .int 0, .int ((nI n) - 1)]) (rest := []) hfix (zcX5_isIn l D cI H x 0 ((nI n) - 1) ) (va_cwS 3 hts gX5_isParrot_X5_isIn rfl rfl rfl (by decide +kernel) ⟨Nat.le_of_ble_eq_true rfl, Nat.le_of_ble_eq_true rfl⟩) (z_preS hK) rfl rfl hl.1 rfl (lv_room (Nat.le_of_ble_eq_true rfl)) dX5_isParrot_8 ⟨by omega, by omega⟩) ?_
  refine z_toi (y := (zb (0 ≤ x ∧ x ≤ nI n - 1))) (rfl) ?_
  exact z_zret hx hb hr (zb_nar) hlocks dX5_isParrot_11
set_option maxHeartbeats 4000000 in
set_option maxRecDepth 100000 in
/-- isWord -/
theorem zcX5_isWord (l : Launch) (D : va_G) (cI : ClassId) (H : Heap) (x : Int32)  : Met l yX5_isWord wsX5_isWord ({ frames := 1, cells := 0, slots := 0, locals := 22 } : Room) (zPc D [(cI, .int)] H [.int x]) (zQ (some (.int (zb (0 ≤ x ∧ x ≤ 9999)))) H) 0 0 (fun _ => False) := by
  refine z_enter (cc := cX5_isWord) (maxL := 1) (ret := (some .boolean)) (by decide) rfl (Nat.le_of_ble_eq_true rfl) ?_
  intro pg ev s m args below meth cd hfix hr hlocks hname hK hHs ls hl
  obtain ⟨hx, hb, hml, hown, hts⟩ := id hfix
  have hl : lv_has ls 1 [(0, .int x)] := hl
  refine lv_iload_n hx hb dX5_isWord_0 rfl (lv_at hl 0 rfl) ?_
  refine lv_iconst (v := 0) hx hb dX5_isWord_1 (by decide) ?_
  refine lv_sipush (v := 9999) hx hb dX5_isWord_2 (by decide) ?_
  refine z_ki (va_runS (As := [.int x, .int 0, .int 9999]) (rest := []) hfix (zcX5_isIn l D cI H x 0 9999 ) (va_cwS 3 hts gX5_isWord_X5_isIn rfl rfl rfl (by decide +kernel) ⟨Nat.le_of_ble_eq_true rfl, Nat.le_of_ble_eq_true rfl⟩) (z_preS hK) rfl rfl hl.1 rfl (lv_room (Nat.le_of_ble_eq_true rfl)) dX5_isWord_5 ⟨by omega, by omega⟩) ?_
  exact z_zret hx hb hr (zb_nar) hlocks dX5_isWord_8
set_option maxHeartbeats 4000000 in
set_option maxRecDepth 100000 in
/-- word -/
theorem zcX5_word (l : Launch) (D : va_G) (cI : ClassId) (H : Heap) (b : Nat) (tn : Int32) (n : Nat) (g : zG) (me : Nat → Int32) (lo : Nat → Int32) (c : Nat → Nat) (bf : Nat → Int32) (e : Nat → Nat) (rd : Int32) (tk : Int32) (p : Nat) (hM : va_P D vwCl (zMo cI b tn n (jf g me lo c) bf (zn e) (nm rd tk)) H) (hp : p < 12) : Met l yX5_word wsX5_word ({ frames := 1, cells := 0, slots := 0, locals := 22 } : Room) (zPc D [(cI, .int)] H [.ref b, .int (nI p)]) (zQ (some (.int (wd g p))) H) 0 0 (fun _ => False) := by
  refine z_enter (cc := cX5_word) (maxL := 2) (ret := (some .int)) (by decide) rfl (Nat.le_of_ble_eq_true rfl) ?_
  intro pg ev s m args below meth cd hfix hr hlocks hname hK hHs ls hl
  obtain ⟨hx, hb, hml, hown, hts⟩ := id hfix
  have hl : lv_has ls 2 [(0, .ref b), (1, .int (nI p))] := hl
  refine lv_bipush (v := 100) hx hb dX5_word_0 (by decide) ?_
  refine lv_aload_n hx hb dX5_word_2 rfl (lv_at hl 0 rfl) ?_
  refine lv_iload_n hx hb dX5_word_3 rfl (lv_at hl 1 rfl) ?_
  refine lv_iconst (v := 0) hx hb dX5_word_4 (by decide) ?_
  refine z_ki (va_runV (As := [.int (nI p), .int 0]) (rest := [.int 100]) hfix (zcX5_ju l D cI H b tn n (jf g me lo c) bf (zn e) (nm rd tk) p 0 hM (by omega) (by omega)) (cwV 2 hts gX5_word_X5_ju rfl rfl rfl (by decide +kernel) ⟨Nat.le_of_ble_eq_true rfl, Nat.le_of_ble_eq_true rfl⟩) (z_preV hK hK hM (ci := 5) (q0 := 0) rfl rfl rfl) rfl rfl hl.1 rfl (lv_room (Nat.le_of_ble_eq_true rfl)) dX5_word_5 ⟨by omega, by omega⟩) ?_
  refine z_toi (y := (g 0 p)) (jf_g (by omega)) ?_
  refine lv_imul hx hb dX5_word_8 ?_
  refine lv_aload_n hx hb dX5_word_9 rfl (lv_at hl 0 rfl) ?_
  refine lv_iload_n hx hb dX5_word_10 rfl (lv_at hl 1 rfl) ?_
  refine lv_iconst (v := 1) hx hb dX5_word_11 (by decide) ?_
  refine z_ki (va_runV (As := [.int (nI p), .int 1]) (rest := [.int (100 * (g 0 p))]) hfix (zcX5_ju l D cI H b tn n (jf g me lo c) bf (zn e) (nm rd tk) p 1 hM (by omega) (by omega)) (cwV 2 hts gX5_word_X5_ju rfl rfl rfl (by decide +kernel) ⟨Nat.le_of_ble_eq_true rfl, Nat.le_of_ble_eq_true rfl⟩) (z_preV hK hK hM (ci := 5) (q0 := 0) rfl rfl rfl) rfl rfl hl.1 rfl (lv_room (Nat.le_of_ble_eq_true rfl)) dX5_word_12 ⟨by omega, by omega⟩) ?_
  refine z_toi (y := (g 1 p)) (jf_g (by omega)) ?_
  refine lv_iadd hx hb dX5_word_15 ?_
  refine z_toi (y := (wd g p)) (by rw [Int32.mul_comm]; rfl) ?_
  exact z_iret hx hb hr hlocks dX5_word_16
set_option maxHeartbeats 4000000 in
set_option maxRecDepth 100000 in
/-- place -/
theorem zcX5_place (l : Launch) (D : va_G) (cI : ClassId) (H : Heap) (b : Nat) (tn : Int32) (n : Nat) (g : zG) (me : Nat → Int32) (lo : Nat → Int32) (c : Nat → Nat) (bf : Nat → Int32) (e : Nat → Nat) (rd : Int32) (tk : Int32) (p : Nat) (o : Nat) (hM : va_P D vwCl (zMo cI b tn n (jf g me lo c) bf (zn e) (nm rd tk)) H) (hI : zI n me lo c e) (hp : p < 12) (ho : o < 100000) : Met l yX5_place wsX5_place ({ frames := 1, cells := 0, slots := 0, locals := 22 } : Room) (zPc D [(cI, .int)] H [.ref b, .int (nI p), .int (nI o)]) (zQ (some (.int (zo (po e p o (c p))))) H) 0 0 (fun _ => False) := by
  refine z_enter (cc := cX5_place) (maxL := 4) (ret := (some .int)) (by decide) rfl (Nat.le_of_ble_eq_true rfl) ?_
  intro pg ev s m args below meth cd hfix hr hlocks hname hK hHs ls hl
  obtain ⟨hx, hb, hml, hown, hts⟩ := id hfix
  have hl : lv_has ls 4 [(0, .ref b), (1, .int (nI p)), (2, .int (nI o))] := hl
  have hinX5 : ∀ w ∈ wsX50, w ∈ wsX5_place := by decide +kernel
  have hn := zI_n hI
  have hc4 := zI_c hI p
  refine lv_iconst (v := 0) hx hb dX5_place_0 (by decide) ?_
  refine lv_istore_n (lv' := [(3, .int 0), (0, .ref b), (1, .int (nI p)), (2, .int (nI o))]) hx hb dX5_place_1 rfl hl (by decide) rfl (fun ls hl => ?_)
  have loop2 : ∀ (fu : Nat) (k : Nat), c p - k < fu → (k ≤ c p) → (po e p o k = none) → ∀ (x3 : Int32), x3 = (nI k) → ∀ ls : Array Slot, lv_has ls 4 [(3, .int x3), (0, .ref b), (1, .int (nI p)), (2, .int (nI o))] → W pg l ev ({ frames := 1, cells := 0, slots := 0, locals := 22 } : Room) s m args below meth cd H [] 0 0 (MQ below (zQ (some (.int (zo (po e p o (c p))))) H) args s 0 0 (fun _ => False)) (F0 m 2 ls []) := by
    intro fu
    induction fu with
    | zero => intro k hfu; exact absurd hfu (Nat.not_lt_zero _)
    | succ fu ih =>
      intro k hfu hi2_0 hi2_1 x3 ex3 ls hl
      subst ex3
      refine lv_iload_n hx hb dX5_place_2 rfl (lv_at hl 0 rfl) ?_
      refine lv_aload_n hx hb dX5_place_3 rfl (lv_at hl 1 rfl) ?_
      refine lv_iload_n hx hb dX5_place_4 rfl (lv_at hl 2 rfl) ?_
      refine lv_bipush (v := 9) hx hb dX5_place_5 (by decide) ?_
      refine z_ki (va_runV (As := [.int (nI p), .int 9]) (rest := [.int (nI k)]) hfix (zcX5_ju l D cI H b tn n (jf g me lo c) bf (zn e) (nm rd tk) p 9 hM (by omega) (by omega)) (cwV 2 hts gX5_place_X5_ju rfl rfl rfl (by decide +kernel) ⟨Nat.le_of_ble_eq_true rfl, Nat.le_of_ble_eq_true rfl⟩) (z_preV hK hK hM (ci := 5) (q0 := 0) rfl rfl rfl) rfl rfl hl.1 rfl (lv_room (Nat.le_of_ble_eq_true rfl)) dX5_place_7 ⟨by omega, by omega⟩) ?_
      refine z_toi (y := (nI (c p))) (jf_9) ?_
      refine lv_icmp_ge (tgt := 35) hx hb dX5_place_10 (by decide) (fun c10 => ?_) (fun c10 => ?_)
      · have c10 := z_le (a := c p) (b := k) c10 (by omega) (by omega)
        refine lv_iconst (v := (-1)) hx hb dX5_place_35 (by decide) ?_
        refine z_toi (y := (zo (po e p o (c p)))) (by rw [show c p = k by omega, hi2_1]; rfl) ?_
        exact z_iret hx hb hr hlocks dX5_place_36
      · have c10 := z_nle (a := c p) (b := k) c10 (by omega) (by omega)
        have hek := zI_e hI c10
        refine lv_aload_n hx hb dX5_place_13 rfl (lv_at hl 1 rfl) ?_
        refine va_get (D := D) (ci := 5) (v := .ref (b + 3)) (C := RX5) (T := TX5) (N := 6) hx hb hts hinX5 hown hK hM 0 rfl rfl 4 (by decide) (hts _ (List.mem_of_getElem? (i := 1) rfl)) (fun _ h9 => h9) rfl dX5_place_14 ?_
        refine lv_iconst (v := 4) hx hb dX5_place_17 (by decide) ?_
        refine lv_iload_n hx hb dX5_place_18 rfl (lv_at hl 2 rfl) ?_
        refine lv_imul hx hb dX5_place_19 ?_
        refine z_toi (y := nI (p * 4)) ((pk_mul 4 p).trans (congrArg nI (Nat.mul_comm _ _))) ?_
        refine lv_iload_n hx hb dX5_place_20 rfl (lv_at hl 0 rfl) ?_
        refine lv_iadd hx hb dX5_place_21 ?_
        refine z_toi (y := nI (p * 4 + k)) (nI_add (p * 4) k) ?_
        refine z_iald (a := (b + 3)) (n := 48) (f := (zn e)) (j := (p * 4 + k)) hx hb hK hM 3 0 rfl rfl rfl (by omega) (by omega) dX5_place_22 ?_
        refine lv_iload_n hx hb dX5_place_23 rfl (lv_at hl 3 rfl) ?_
        refine lv_icmp_ne (tgt := 29) hx hb dX5_place_24 (by decide) (fun c24 => ?_) (fun c24 => ?_)
        · have c24 := z_ne (a := e (p * 4 + k)) (b := o) c24 (by omega) (by omega)
          refine lv_iinc (v := (nI (k + 1))) (lv' := [(3, .int (nI (k + 1))), (0, .ref b), (1, .int (nI p)), (2, .int (nI o))]) hx hb dX5_place_29 hl (k := 0) rfl (nI_1 _) (by decide) rfl (fun ls hl => ?_)
          refine lv_goto (tgt := 2) hx hb dX5_place_32 (by decide) ?_
          exact ih (k + 1) (by omega) (by omega) (zd_poN hi2_1 c24) _ (rfl) _ (lv_sub hl [0, 1, 2, 3] rfl)
        · have c24 := z_eq (a := e (p * 4 + k)) (b := o) c24 (by omega) (by omega)
          refine lv_iload_n hx hb dX5_place_27 rfl (lv_at hl 0 rfl) ?_
          refine z_toi (y := (zo (po e p o (c p)))) (by rw [zd_po (zd_poS hi2_1 c24) (by omega)]; rfl) ?_
          exact z_iret hx hb hr hlocks dX5_place_28
  exact loop2 _ 0 (Nat.lt_succ_self _) (by omega) (rfl) _ (rfl) _ (lv_sub hl [0, 1, 2, 3] rfl)
set_option maxHeartbeats 4000000 in
set_option maxRecDepth 100000 in
/-- heard -/
theorem zcX5_heard (l : Launch) (D : va_G) (cI : ClassId) (H : Heap) (b : Nat) (tn : Int32) (n : Nat) (g : zG) (me : Nat → Int32) (lo : Nat → Int32) (c : Nat → Nat) (bf : Nat → Int32) (e : Nat → Nat) (rd : Int32) (tk : Int32) (p : Nat) (hM : va_P D vwCl (zMo cI b tn n (jf g me lo c) bf (zn e) (nm rd tk)) H) (hI : zI n me lo c e) (hp : p < 12) : Met l yX5_heard wsX5_heard ({ frames := 1, cells := 0, slots := 0, locals := 22 } : Room) (zPc D [(cI, .int)] H [.ref b, .int (nI p)]) (zQ (some (.int (zo (hd lo e p (c p))))) H) 0 0 (fun _ => False) := by
  refine z_enter (cc := cX5_heard) (maxL := 4) (ret := (some .int)) (by decide) rfl (Nat.le_of_ble_eq_true rfl) ?_
  intro pg ev s m args below meth cd hfix hr hlocks hname hK hHs ls hl
  obtain ⟨hx, hb, hml, hown, hts⟩ := id hfix
  have hl : lv_has ls 4 [(0, .ref b), (1, .int (nI p))] := hl
  have hinX5 : ∀ w ∈ wsX50, w ∈ wsX5_heard := by decide +kernel
  have hn := zI_n hI
  have hc4 := zI_c hI p
  refine lv_iconst (v := (-1)) hx hb dX5_heard_0 (by decide) ?_
  refine lv_istore_n (lv' := [(2, .int (-1)), (0, .ref b), (1, .int (nI p))]) hx hb dX5_heard_1 rfl hl (by decide) rfl (fun ls hl => ?_)
  refine lv_iconst (v := 0) hx hb dX5_heard_2 (by decide) ?_
  refine lv_istore_n (lv' := [(3, .int 0), (2, .int (-1)), (0, .ref b), (1, .int (nI p))]) hx hb dX5_heard_3 rfl hl (by decide) rfl (fun ls hl => ?_)
  have loop4 : ∀ (fu : Nat) (k : Nat), c p - k < fu → (k ≤ c p) → ∀ (x3 : Int32), x3 = (nI k) → ∀ (x2 : Int32), x2 = (zo (hd lo e p k)) → ∀ ls : Array Slot, lv_has ls 4 [(3, .int x3), (2, .int x2), (0, .ref b), (1, .int (nI p))] → W pg l ev ({ frames := 1, cells := 0, slots := 0, locals := 22 } : Room) s m args below meth cd H [] 0 0 (MQ below (zQ (some (.int (zo (hd lo e p (c p))))) H) args s 0 0 (fun _ => False)) (F0 m 4 ls []) := by
    intro fu
    induction fu with
    | zero => intro k hfu; exact absurd hfu (Nat.not_lt_zero _)
    | succ fu ih =>
      intro k hfu hi4_0 x3 ex3 x2 ex2 ls hl
      subst ex3
      subst ex2
      refine lv_iload_n hx hb dX5_heard_4 rfl (lv_at hl 0 rfl) ?_
      refine lv_aload_n hx hb dX5_heard_5 rfl (lv_at hl 2 rfl) ?_
      refine lv_iload_n hx hb dX5_heard_6 rfl (lv_at hl 3 rfl) ?_
      refine lv_bipush (v := 9) hx hb dX5_heard_7 (by decide) ?_
      refine z_ki (va_runV (As := [.int (nI p), .int 9]) (rest := [.int (nI k)]) hfix (zcX5_ju l D cI H b tn n (jf g me lo c) bf (zn e) (nm rd tk) p 9 hM (by omega) (by omega)) (cwV 2 hts gX5_heard_X5_ju rfl rfl rfl (by decide +kernel) ⟨Nat.le_of_ble_eq_true rfl, Nat.le_of_ble_eq_true rfl⟩) (z_preV hK hK hM (ci := 5) (q0 := 0) rfl rfl rfl) rfl rfl hl.1 rfl (lv_room (Nat.le_of_ble_eq_true rfl)) dX5_heard_9 ⟨by omega, by omega⟩) ?_
      refine z_toi (y := (nI (c p))) (jf_9) ?_
      refine lv_icmp_ge (tgt := 63) hx hb dX5_heard_12 (by decide) (fun c12 => ?_) (fun c12 => ?_)
      · have c12 := z_le (a := c p) (b := k) c12 (by omega) (by omega)
        refine lv_iload_n hx hb dX5_heard_63 rfl (lv_at hl 1 rfl) ?_
        refine z_toi (y := (zo (hd lo e p (c p)))) (by rw [show c p = k by omega]) ?_
        exact z_iret hx hb hr hlocks dX5_heard_64
      · have c12 := z_nle (a := c p) (b := k) c12 (by omega) (by omega)
        have hek := zI_e hI c12
        refine lv_iload_n hx hb dX5_heard_15 rfl (lv_at hl 1 rfl) ?_
        refine lv_iconst (v := (-1)) hx hb dX5_heard_16 (by decide) ?_
        refine lv_icmp_eq (tgt := 46) hx hb dX5_heard_17 (by decide) (fun c17 => ?_) (fun c17 => ?_)
        · have c17 := (zo_m1 (fun q hq => by obtain ⟨j, hj, he⟩ := hd_lt hq; have h2 := zI_e hI (p := p) (k := j) (by omega); omega)).mp c17
          refine lv_aload_n hx hb dX5_heard_46 rfl (lv_at hl 2 rfl) ?_
          refine va_get (D := D) (ci := 5) (v := .ref (b + 3)) (C := RX5) (T := TX5) (N := 6) hx hb hts hinX5 hown hK hM 0 rfl rfl 4 (by decide) (hts _ (List.mem_of_getElem? (i := 1) rfl)) (fun _ h9 => h9) rfl dX5_heard_47 ?_
          refine lv_iconst (v := 4) hx hb dX5_heard_50 (by decide) ?_
          refine lv_iload_n hx hb dX5_heard_51 rfl (lv_at hl 3 rfl) ?_
          refine lv_imul hx hb dX5_heard_52 ?_
          refine z_toi (y := nI (p * 4)) ((pk_mul 4 p).trans (congrArg nI (Nat.mul_comm _ _))) ?_
          refine lv_iload_n hx hb dX5_heard_53 rfl (lv_at hl 0 rfl) ?_
          refine lv_iadd hx hb dX5_heard_54 ?_
          refine z_toi (y := nI (p * 4 + k)) (nI_add (p * 4) k) ?_
          refine z_iald (a := (b + 3)) (n := 48) (f := (zn e)) (j := (p * 4 + k)) hx hb hK hM 3 0 rfl rfl rfl (by omega) (by omega) dX5_heard_55 ?_
          refine lv_istore_n (lv' := [(2, .int (nI (e (p * 4 + k)))), (3, .int (nI k)), (0, .ref b), (1, .int (nI p))]) hx hb dX5_heard_56 rfl hl (by decide) rfl (fun ls hl => ?_)
          refine lv_iinc (v := (nI (k + 1))) (lv' := [(3, .int (nI (k + 1))), (2, .int (nI (e (p * 4 + k)))), (0, .ref b), (1, .int (nI p))]) hx hb dX5_heard_57 hl (k := 1) rfl (nI_1 _) (by decide) rfl (fun ls hl => ?_)
          refine lv_goto (tgt := 4) hx hb dX5_heard_60 (by decide) ?_
          exact ih (k + 1) (by omega) (by omega) _ (rfl) _ (by first | (rw [hd_n c17]; rfl) | (rw [hd_le hho c43]) | (rw [hd_gt hho c43]; rfl)) _ (lv_sub hl [0, 1, 2, 3] rfl)
        · have c17 := fun h => c17 ((zo_m1 (fun q hq => by obtain ⟨j, hj, he⟩ := hd_lt hq; have h2 := zI_e hI (p := p) (k := j) (by omega); omega)).mpr h)
          obtain ⟨o, hho⟩ : ∃ o, hd lo e p k = some o := Option.ne_none_iff_exists'.mp c17
          have ho : o < n := by obtain ⟨j, hj, he⟩ := hd_lt hho; have h2 := zI_e hI (p := p) (k := j) (by omega); omega
          refine lv_aload_n hx hb dX5_heard_20 rfl (lv_at hl 2 rfl) ?_
          refine lv_aload_n hx hb dX5_heard_21 rfl (lv_at hl 2 rfl) ?_
          refine va_get (D := D) (ci := 5) (v := .ref (b + 3)) (C := RX5) (T := TX5) (N := 6) hx hb hts hinX5 hown hK hM 0 rfl rfl 4 (by decide) (hts _ (List.mem_of_getElem? (i := 1) rfl)) (fun _ h9 => h9) rfl dX5_heard_22 ?_
          refine lv_iconst (v := 4) hx hb dX5_heard_25 (by decide) ?_
          refine lv_iload_n hx hb dX5_heard_26 rfl (lv_at hl 3 rfl) ?_
          refine lv_imul hx hb dX5_heard_27 ?_
          refine z_toi (y := nI (p * 4)) ((pk_mul 4 p).trans (congrArg nI (Nat.mul_comm _ _))) ?_
          refine lv_iload_n hx hb dX5_heard_28 rfl (lv_at hl 0 rfl) ?_
          refine lv_iadd hx hb dX5_heard_29 ?_
          refine z_toi (y := nI (p * 4 + k)) (nI_add (p * 4) k) ?_
          refine z_iald (a := (b + 3)) (n := 48) (f := (zn e)) (j := (p * 4 + k)) hx hb hK hM 3 0 rfl rfl rfl (by omega) (by omega) dX5_heard_30 ?_
          refine lv_bipush (v := 8) hx hb dX5_heard_31 (by decide) ?_
          refine z_ki (va_runV (As := [.int (nI (e (p * 4 + k))), .int 8]) (rest := []) hfix (zcX5_ju l D cI H b tn n (jf g me lo c) bf (zn e) (nm rd tk) (e (p * 4 + k)) 8 hM (by omega) (by omega)) (cwV 2 hts gX5_heard_X5_ju rfl rfl rfl (by decide +kernel) ⟨Nat.le_of_ble_eq_true rfl, Nat.le_of_ble_eq_true rfl⟩) (z_preV hK hK hM (ci := 5) (q0 := 0) rfl rfl rfl) rfl rfl hl.1 rfl (lv_room (Nat.le_of_ble_eq_true rfl)) dX5_heard_33 ⟨by omega, by omega⟩) ?_
          refine z_toi (y := (lo (e (p * 4 + k)))) (jf_8) ?_
          refine lv_aload_n hx hb dX5_heard_36 rfl (lv_at hl 2 rfl) ?_
          refine lv_iload_n hx hb dX5_heard_37 rfl (lv_at hl 1 rfl) ?_
          refine z_toi (y := nI o) (by rw [hho]; rfl) ?_
          refine lv_bipush (v := 8) hx hb dX5_heard_38 (by decide) ?_
          refine z_ki (va_runV (As := [.int (nI o), .int 8]) (rest := [.int (lo (e (p * 4 + k)))]) hfix (zcX5_ju l D cI H b tn n (jf g me lo c) bf (zn e) (nm rd tk) o 8 hM (by omega) (by omega)) (cwV 2 hts gX5_heard_X5_ju rfl rfl rfl (by decide +kernel) ⟨Nat.le_of_ble_eq_true rfl, Nat.le_of_ble_eq_true rfl⟩) (z_preV hK hK hM (ci := 5) (q0 := 0) rfl rfl rfl) rfl rfl hl.1 rfl (lv_room (Nat.le_of_ble_eq_true rfl)) dX5_heard_40 ⟨by omega, by omega⟩) ?_
          refine z_toi (y := (lo o)) (jf_8) ?_
          refine lv_icmp_le (tgt := 57) hx hb dX5_heard_43 (by decide) (fun c43 => ?_) (fun c43 => ?_)
          · refine lv_iinc (v := (nI (k + 1))) (lv' := [(3, .int (nI (k + 1))), (2, .int (zo (hd lo e p k))), (0, .ref b), (1, .int (nI p))]) hx hb dX5_heard_57 hl (k := 0) rfl (nI_1 _) (by decide) rfl (fun ls hl => ?_)
            refine lv_goto (tgt := 4) hx hb dX5_heard_60 (by decide) ?_
            exact ih (k + 1) (by omega) (by omega) _ (rfl) _ (by first | (rw [hd_n c17]; rfl) | (rw [hd_le hho c43]) | (rw [hd_gt hho c43]; rfl)) _ (lv_sub hl [0, 1, 2, 3] rfl)
          · refine lv_aload_n hx hb dX5_heard_46 rfl (lv_at hl 2 rfl) ?_
            refine va_get (D := D) (ci := 5) (v := .ref (b + 3)) (C := RX5) (T := TX5) (N := 6) hx hb hts hinX5 hown hK hM 0 rfl rfl 4 (by decide) (hts _ (List.mem_of_getElem? (i := 1) rfl)) (fun _ h9 => h9) rfl dX5_heard_47 ?_
            refine lv_iconst (v := 4) hx hb dX5_heard_50 (by decide) ?_
            refine lv_iload_n hx hb dX5_heard_51 rfl (lv_at hl 3 rfl) ?_
            refine lv_imul hx hb dX5_heard_52 ?_
            refine z_toi (y := nI (p * 4)) ((pk_mul 4 p).trans (congrArg nI (Nat.mul_comm _ _))) ?_
            refine lv_iload_n hx hb dX5_heard_53 rfl (lv_at hl 0 rfl) ?_
            refine lv_iadd hx hb dX5_heard_54 ?_
            refine z_toi (y := nI (p * 4 + k)) (nI_add (p * 4) k) ?_
            refine z_iald (a := (b + 3)) (n := 48) (f := (zn e)) (j := (p * 4 + k)) hx hb hK hM 3 0 rfl rfl rfl (by omega) (by omega) dX5_heard_55 ?_
            refine lv_istore_n (lv' := [(2, .int (nI (e (p * 4 + k)))), (3, .int (nI k)), (0, .ref b), (1, .int (nI p))]) hx hb dX5_heard_56 rfl hl (by decide) rfl (fun ls hl => ?_)
            refine lv_iinc (v := (nI (k + 1))) (lv' := [(3, .int (nI (k + 1))), (2, .int (nI (e (p * 4 + k)))), (0, .ref b), (1, .int (nI p))]) hx hb dX5_heard_57 hl (k := 1) rfl (nI_1 _) (by decide) rfl (fun ls hl => ?_)
            refine lv_goto (tgt := 4) hx hb dX5_heard_60 (by decide) ?_
            exact ih (k + 1) (by omega) (by omega) _ (rfl) _ (by first | (rw [hd_n c17]; rfl) | (rw [hd_le hho c43]) | (rw [hd_gt hho c43]; rfl)) _ (lv_sub hl [0, 1, 2, 3] rfl)
  exact loop4 _ 0 (Nat.lt_succ_self _) (by omega) _ (rfl) _ (rfl) _ (lv_sub hl [0, 1, 2, 3] rfl)
set_option maxHeartbeats 4000000 in
set_option maxRecDepth 100000 in
/-- votesFor -/
theorem zcX5_votesFor (l : Launch) (D : va_G) (cI : ClassId) (H : Heap) (b : Nat) (tn : Int32) (n : Nat) (g : zG) (me : Nat → Int32) (lo : Nat → Int32) (c : Nat → Nat) (bf : Nat → Int32) (e : Nat → Nat) (rd : Int32) (tk : Int32) (w : Int32) (hM : va_P D vwCl (zMo cI b tn n (jf g me lo c) bf (zn e) (nm rd tk)) H) (hI : zI n me lo c e) : Met l yX5_votesFor wsX5_votesFor ({ frames := 2, cells := 0, slots := 0, locals := 43 } : Room) (zPc D [(cI, .int)] H [.ref b, .int w]) (zQ (some (.int (nI (vt g w n)))) H) 0 0 (fun _ => False) := by
  refine z_enter (cc := cX5_votesFor) (maxL := 4) (ret := (some .int)) (by decide) rfl (Nat.le_of_ble_eq_true rfl) ?_
  intro pg ev s m args below meth cd hfix hr hlocks hname hK hHs ls hl
  obtain ⟨hx, hb, hml, hown, hts⟩ := id hfix
  have hl : lv_has ls 4 [(0, .ref b), (1, .int w)] := hl
  have hinX5 : ∀ w ∈ wsX50, w ∈ wsX5_votesFor := by decide +kernel
  have hn := zI_n hI
  refine lv_iconst (v := 0) hx hb dX5_votesFor_0 (by decide) ?_
  refine lv_istore_n (lv' := [(2, .int 0), (0, .ref b), (1, .int w)]) hx hb dX5_votesFor_1 rfl hl (by decide) rfl (fun ls hl => ?_)
  refine lv_iconst (v := 0) hx hb dX5_votesFor_2 (by decide) ?_
  refine lv_istore_n (lv' := [(3, .int 0), (2, .int 0), (0, .ref b), (1, .int w)]) hx hb dX5_votesFor_3 rfl hl (by decide) rfl (fun ls hl => ?_)
  have loop4 : ∀ (fu : Nat) (k : Nat), n - k < fu → (k ≤ n) → ∀ (x3 : Int32), x3 = (nI k) → ∀ (x2 : Int32), x2 = (nI (vt g w k)) → ∀ ls : Array Slot, lv_has ls 4 [(3, .int x3), (2, .int x2), (0, .ref b), (1, .int w)] → W pg l ev ({ frames := 2, cells := 0, slots := 0, locals := 43 } : Room) s m args below meth cd H [] 0 0 (MQ below (zQ (some (.int (nI (vt g w n)))) H) args s 0 0 (fun _ => False)) (F0 m 4 ls []) := by
    intro fu
    induction fu with
    | zero => intro k hfu; exact absurd hfu (Nat.not_lt_zero _)
    | succ fu ih =>
      intro k hfu hi4_0 x3 ex3 x2 ex2 ls hl
      subst ex3
      subst ex2
      refine lv_iload_n hx hb dX5_votesFor_4 rfl (lv_at hl 0 rfl) ?_
      refine lv_aload_n hx hb dX5_votesFor_5 rfl (lv_at hl 2 rfl) ?_
      refine va_get (D := D) (ci := 5) (v := .int (nI n)) (C := RX5) (T := TX5) (N := 6) hx hb hts hinX5 hown hK hM 0 rfl rfl 1 (by decide) (hts _ (List.mem_of_getElem? (i := 1) rfl)) (fun _ h9 => h9) rfl dX5_votesFor_6 ?_
      refine lv_icmp_ge (tgt := 35) hx hb dX5_votesFor_9 (by decide) (fun c9 => ?_) (fun c9 => ?_)
      · have c9 := z_le (a := n) (b := k) c9 (by omega) (by omega)
        refine lv_iload_n hx hb dX5_votesFor_35 rfl (lv_at hl 1 rfl) ?_
        refine z_toi (y := (nI (vt g w n))) (by rw [show n = k by omega]) ?_
        exact z_iret hx hb hr hlocks dX5_votesFor_36
      · have c9 := z_nle (a := n) (b := k) c9 (by omega) (by omega)
        refine lv_iload_n hx hb dX5_votesFor_12 rfl (lv_at hl 1 rfl) ?_
        refine lv_aload_n hx hb dX5_votesFor_13 rfl (lv_at hl 2 rfl) ?_
        refine lv_iload_n hx hb dX5_votesFor_14 rfl (lv_at hl 0 rfl) ?_
        refine z_ki (va_runV (As := [.int (nI k)]) (rest := [.int (nI (vt g w k))]) hfix (zcX5_word l D cI H b tn n g me lo c bf e rd tk k hM (by omega)) (cwV 1 hts gX5_votesFor_X5_word rfl rfl rfl (by decide +kernel) ⟨Nat.le_of_ble_eq_true rfl, Nat.le_of_ble_eq_true rfl⟩) (z_preV hK hK hM (ci := 5) (q0 := 0) rfl rfl rfl) rfl rfl hl.1 rfl (lv_room (Nat.le_of_ble_eq_true rfl)) dX5_votesFor_15 ⟨by omega, by omega⟩) ?_
        refine lv_iload_n hx hb dX5_votesFor_18 rfl (lv_at hl 3 rfl) ?_
        refine lv_icmp_ne (tgt := 26) hx hb dX5_votesFor_19 (by decide) (fun c19 => ?_) (fun c19 => ?_)
        · refine lv_iconst (v := 0) hx hb dX5_votesFor_26 (by decide) ?_
          refine lv_iadd hx hb dX5_votesFor_27 ?_
          refine z_toi (y := nI (vt g w k + 0)) (nI_add (vt g w k) 0) ?_
          refine lv_istore_n (lv' := [(2, .int (nI (vt g w k + 0))), (3, .int (nI k)), (0, .ref b), (1, .int w)]) hx hb dX5_votesFor_28 rfl hl (by decide) rfl (fun ls hl => ?_)
          refine lv_iinc (v := (nI (k + 1))) (lv' := [(3, .int (nI (k + 1))), (2, .int (nI (vt g w k + 0))), (0, .ref b), (1, .int w)]) hx hb dX5_votesFor_29 hl (k := 1) rfl (nI_1 _) (by decide) rfl (fun ls hl => ?_)
          refine lv_goto (tgt := 4) hx hb dX5_votesFor_32 (by decide) ?_
          exact ih (k + 1) (by omega) (by omega) _ (rfl) _ (by simp only [vt]; first | (rw [if_pos c19] <;> rfl) | (rw [if_neg c19] <;> rfl)) _ (lv_sub hl [0, 1, 2, 3] rfl)
        · refine lv_iconst (v := 1) hx hb dX5_votesFor_22 (by decide) ?_
          refine lv_goto (tgt := 27) hx hb dX5_votesFor_23 (by decide) ?_
          refine lv_iadd hx hb dX5_votesFor_27 ?_
          refine z_toi (y := nI (vt g w k + 1)) (nI_add (vt g w k) 1) ?_
          refine lv_istore_n (lv' := [(2, .int (nI (vt g w k + 1))), (3, .int (nI k)), (0, .ref b), (1, .int w)]) hx hb dX5_votesFor_28 rfl hl (by decide) rfl (fun ls hl => ?_)
          refine lv_iinc (v := (nI (k + 1))) (lv' := [(3, .int (nI (k + 1))), (2, .int (nI (vt g w k + 1))), (0, .ref b), (1, .int w)]) hx hb dX5_votesFor_29 hl (k := 1) rfl (nI_1 _) (by decide) rfl (fun ls hl => ?_)
          refine lv_goto (tgt := 4) hx hb dX5_votesFor_32 (by decide) ?_
          exact ih (k + 1) (by omega) (by omega) _ (rfl) _ (by simp only [vt]; first | (rw [if_pos c19] <;> rfl) | (rw [if_neg c19] <;> rfl)) _ (lv_sub hl [0, 1, 2, 3] rfl)
  exact loop4 _ 0 (Nat.lt_succ_self _) (by omega) _ (rfl) _ (rfl) _ (lv_sub hl [0, 1, 2, 3] rfl)
set_option maxHeartbeats 4000000 in
set_option maxRecDepth 100000 in
/-- parrotTold -/
theorem zcX5_parrotTold (l : Launch) (D : va_G) (cI : ClassId) (H : Heap) (b : Nat) (tn : Int32) (n : Nat) (g : zG) (me : Nat → Int32) (lo : Nat → Int32) (c : Nat → Nat) (bf : Nat → Int32) (e : Nat → Nat) (rd : Int32) (tk : Int32) (p : Nat) (q : Nat) (hM : va_P D vwCl (zMo cI b tn n (jf g me lo c) bf (zn e) (nm rd tk)) H) (hI : zI n me lo c e) (hp : p < 12) (hq : q ≤ 6) : Met l yX5_parrotTold wsX5_parrotTold ({ frames := 2, cells := 0, slots := 0, locals := 45 } : Room) (zPc D [(cI, .int)] H [.ref b, .int (nI p), .int (nI q)]) (zQ (some (.int (tp n g me lo c e p q))) H) 0 0 (fun _ => False) := by
  refine z_enter (cc := cX5_parrotTold) (maxL := 5) (ret := (some .int)) (by decide) rfl (Nat.le_of_ble_eq_true rfl) ?_
  intro pg ev s m args below meth cd hfix hr hlocks hname hK hHs ls hl
  obtain ⟨hx, hb, hml, hown, hts⟩ := id hfix
  have hl : lv_has ls 5 [(0, .ref b), (1, .int (nI p)), (2, .int (nI q))] := hl
  have hinX5 : ∀ w ∈ wsX50, w ∈ wsX5_parrotTold := by decide +kernel
  have hn := zI_n hI
  refine lv_iconst (v := 0) hx hb dX5_parrotTold_0 (by decide) ?_
  refine lv_istore_n (lv' := [(3, .int 0), (0, .ref b), (1, .int (nI p)), (2, .int (nI q))]) hx hb dX5_parrotTold_1 rfl hl (by decide) rfl (fun ls hl => ?_)
  refine lv_iload_n hx hb dX5_parrotTold_2 rfl (lv_at hl 3 rfl) ?_
  have hsw : q = 0 ∨ q = 1 ∨ q = 2 ∨ q = 3 ∨ q = 4 ∨ q = 5 ∨ q = 6 := by omega
  rcases hsw with hsw | hsw | hsw | hsw | hsw | hsw | hsw
  · refine lv_tableIn (x := nI q) (off := 37) (tgt := 40) hx hb dX5_parrotTold_3 (by rw [hsw]; decide) (by rw [hsw]; decide) (by rw [hsw]; rfl) (by decide) ?_
    refine lv_aload_n hx hb dX5_parrotTold_40 rfl (lv_at hl 1 rfl) ?_
    refine lv_iload_n hx hb dX5_parrotTold_41 rfl (lv_at hl 2 rfl) ?_
    refine z_ki (va_runV (As := [.int (nI p)]) (rest := []) hfix (zcX5_word l D cI H b tn n g me lo c bf e rd tk p hM (by omega)) (cwV 1 hts gX5_parrotTold_X5_word rfl rfl rfl (by decide +kernel) ⟨Nat.le_of_ble_eq_true rfl, Nat.le_of_ble_eq_true rfl⟩) (z_preV hK hK hM (ci := 5) (q0 := 0) rfl rfl rfl) rfl rfl hl.1 rfl (lv_room (Nat.le_of_ble_eq_true rfl)) dX5_parrotTold_42 ⟨by omega, by omega⟩) ?_
    refine z_toi (y := (tp n g me lo c e p q)) (by rw [hsw]; rfl) ?_
    exact z_iret hx hb hr hlocks dX5_parrotTold_45
  · refine lv_tableIn (x := nI q) (off := 43) (tgt := 46) hx hb dX5_parrotTold_3 (by rw [hsw]; decide) (by rw [hsw]; decide) (by rw [hsw]; rfl) (by decide) ?_
    refine lv_aload_n hx hb dX5_parrotTold_46 rfl (lv_at hl 1 rfl) ?_
    refine lv_iload_n hx hb dX5_parrotTold_47 rfl (lv_at hl 2 rfl) ?_
    refine lv_bipush (v := 6) hx hb dX5_parrotTold_48 (by decide) ?_
    refine z_ki (va_runV (As := [.int (nI p), .int 6]) (rest := []) hfix (zcX5_ju l D cI H b tn n (jf g me lo c) bf (zn e) (nm rd tk) p 6 hM (by omega) (by omega)) (cwV 2 hts gX5_parrotTold_X5_ju rfl rfl rfl (by decide +kernel) ⟨Nat.le_of_ble_eq_true rfl, Nat.le_of_ble_eq_true rfl⟩) (z_preV hK hK hM (ci := 5) (q0 := 0) rfl rfl rfl) rfl rfl hl.1 rfl (lv_room (Nat.le_of_ble_eq_true rfl)) dX5_parrotTold_50 ⟨by omega, by omega⟩) ?_
    refine z_toi (y := (g 6 p)) (jf_g (by omega)) ?_
    refine z_toi (y := (tp n g me lo c e p q)) (by rw [hsw]; rfl) ?_
    exact z_iret hx hb hr hlocks dX5_parrotTold_53
  · refine lv_tableIn (x := nI q) (off := 51) (tgt := 54) hx hb dX5_parrotTold_3 (by rw [hsw]; decide) (by rw [hsw]; decide) (by rw [hsw]; rfl) (by decide) ?_
    refine lv_aload_n hx hb dX5_parrotTold_54 rfl (lv_at hl 1 rfl) ?_
    refine lv_iload_n hx hb dX5_parrotTold_55 rfl (lv_at hl 2 rfl) ?_
    refine lv_bipush (v := 7) hx hb dX5_parrotTold_56 (by decide) ?_
    refine z_ki (va_runV (As := [.int (nI p), .int 7]) (rest := []) hfix (zcX5_ju l D cI H b tn n (jf g me lo c) bf (zn e) (nm rd tk) p 7 hM (by omega) (by omega)) (cwV 2 hts gX5_parrotTold_X5_ju rfl rfl rfl (by decide +kernel) ⟨Nat.le_of_ble_eq_true rfl, Nat.le_of_ble_eq_true rfl⟩) (z_preV hK hK hM (ci := 5) (q0 := 0) rfl rfl rfl) rfl rfl hl.1 rfl (lv_room (Nat.le_of_ble_eq_true rfl)) dX5_parrotTold_58 ⟨by omega, by omega⟩) ?_
    refine z_toi (y := (me p)) (jf_7) ?_
    refine z_toi (y := (tp n g me lo c e p q)) (by rw [hsw]; rfl) ?_
    exact z_iret hx hb hr hlocks dX5_parrotTold_61
  · refine lv_tableIn (x := nI q) (off := 59) (tgt := 62) hx hb dX5_parrotTold_3 (by rw [hsw]; decide) (by rw [hsw]; decide) (by rw [hsw]; rfl) (by decide) ?_
    refine lv_aload_n hx hb dX5_parrotTold_62 rfl (lv_at hl 1 rfl) ?_
    refine lv_iload_n hx hb dX5_parrotTold_63 rfl (lv_at hl 2 rfl) ?_
    refine lv_bipush (v := 8) hx hb dX5_parrotTold_64 (by decide) ?_
    refine z_ki (va_runV (As := [.int (nI p), .int 8]) (rest := []) hfix (zcX5_ju l D cI H b tn n (jf g me lo c) bf (zn e) (nm rd tk) p 8 hM (by omega) (by omega)) (cwV 2 hts gX5_parrotTold_X5_ju rfl rfl rfl (by decide +kernel) ⟨Nat.le_of_ble_eq_true rfl, Nat.le_of_ble_eq_true rfl⟩) (z_preV hK hK hM (ci := 5) (q0 := 0) rfl rfl rfl) rfl rfl hl.1 rfl (lv_room (Nat.le_of_ble_eq_true rfl)) dX5_parrotTold_66 ⟨by omega, by omega⟩) ?_
    refine z_toi (y := (lo p)) (jf_8) ?_
    refine z_toi (y := (tp n g me lo c e p q)) (by rw [hsw]; rfl) ?_
    exact z_iret hx hb hr hlocks dX5_parrotTold_69
  · refine lv_tableIn (x := nI q) (off := 67) (tgt := 70) hx hb dX5_parrotTold_3 (by rw [hsw]; decide) (by rw [hsw]; decide) (by rw [hsw]; rfl) (by decide) ?_
    refine lv_aload_n hx hb dX5_parrotTold_70 rfl (lv_at hl 1 rfl) ?_
    refine lv_iload_n hx hb dX5_parrotTold_71 rfl (lv_at hl 2 rfl) ?_
    refine lv_bipush (v := 9) hx hb dX5_parrotTold_72 (by decide) ?_
    refine z_ki (va_runV (As := [.int (nI p), .int 9]) (rest := []) hfix (zcX5_ju l D cI H b tn n (jf g me lo c) bf (zn e) (nm rd tk) p 9 hM (by omega) (by omega)) (cwV 2 hts gX5_parrotTold_X5_ju rfl rfl rfl (by decide +kernel) ⟨Nat.le_of_ble_eq_true rfl, Nat.le_of_ble_eq_true rfl⟩) (z_preV hK hK hM (ci := 5) (q0 := 0) rfl rfl rfl) rfl rfl hl.1 rfl (lv_room (Nat.le_of_ble_eq_true rfl)) dX5_parrotTold_74 ⟨by omega, by omega⟩) ?_
    refine z_toi (y := (nI (c p))) (jf_9) ?_
    refine z_toi (y := (tp n g me lo c e p q)) (by rw [hsw]; rfl) ?_
    exact z_iret hx hb hr hlocks dX5_parrotTold_77
  · refine lv_tableIn (x := nI q) (off := 75) (tgt := 78) hx hb dX5_parrotTold_3 (by rw [hsw]; decide) (by rw [hsw]; decide) (by rw [hsw]; rfl) (by decide) ?_
    refine lv_iconst (v := 0) hx hb dX5_parrotTold_78 (by decide) ?_
    refine lv_istore (lv' := [(4, .int 0), (3, .int 0), (0, .ref b), (1, .int (nI p)), (2, .int (nI q))]) hx hb dX5_parrotTold_79 hl (by decide) rfl (fun ls hl => ?_)
    have loop81 : ∀ (fu : Nat) (k : Nat), n - k < fu → (k ≤ n) → ∀ (x4 : Int32), x4 = (nI k) → ∀ (x3 : Int32), x3 = (nI (ln c e p k)) → ∀ ls : Array Slot, lv_has ls 5 [(4, .int x4), (3, .int x3), (0, .ref b), (1, .int (nI p)), (2, .int (nI q))] → W pg l ev ({ frames := 2, cells := 0, slots := 0, locals := 45 } : Room) s m args below meth cd H [] 0 0 (MQ below (zQ (some (.int (tp n g me lo c e p q))) H) args s 0 0 (fun _ => False)) (F0 m 81 ls []) := by
      intro fu
      induction fu with
      | zero => intro k hfu; exact absurd hfu (Nat.not_lt_zero _)
      | succ fu ih =>
        intro k hfu hi81_0 x4 ex4 x3 ex3 ls hl
        subst ex4
        subst ex3
        refine lv_iload hx hb dX5_parrotTold_81 (lv_at hl 0 rfl) ?_
        refine lv_aload_n hx hb dX5_parrotTold_83 rfl (lv_at hl 2 rfl) ?_
        refine va_get (D := D) (ci := 5) (v := .int (nI n)) (C := RX5) (T := TX5) (N := 6) hx hb hts hinX5 hown hK hM 0 rfl rfl 1 (by decide) (hts _ (List.mem_of_getElem? (i := 1) rfl)) (fun _ h9 => h9) rfl dX5_parrotTold_84 ?_
        refine lv_icmp_ge (tgt := 115) hx hb dX5_parrotTold_87 (by decide) (fun c87 => ?_) (fun c87 => ?_)
        · have c87 := z_le (a := n) (b := k) c87 (by omega) (by omega)
          refine lv_iload_n hx hb dX5_parrotTold_115 rfl (lv_at hl 1 rfl) ?_
          refine z_toi (y := (tp n g me lo c e p q)) (by rw [hsw, show k = n by omega]; rfl) ?_
          exact z_iret hx hb hr hlocks dX5_parrotTold_116
        · have c87 := z_nle (a := n) (b := k) c87 (by omega) (by omega)
          refine lv_iload_n hx hb dX5_parrotTold_90 rfl (lv_at hl 1 rfl) ?_
          refine lv_aload_n hx hb dX5_parrotTold_91 rfl (lv_at hl 2 rfl) ?_
          refine lv_iload hx hb dX5_parrotTold_92 (lv_at hl 0 rfl) ?_
          refine lv_iload_n hx hb dX5_parrotTold_94 rfl (lv_at hl 3 rfl) ?_
          refine z_ki (va_runV (As := [.int (nI k), .int (nI p)]) (rest := [.int (nI (ln c e p k))]) hfix (zcX5_place l D cI H b tn n g me lo c bf e rd tk k p hM hI (by omega) (by omega)) (cwV 2 hts gX5_parrotTold_X5_place rfl rfl rfl (by decide +kernel) ⟨Nat.le_of_ble_eq_true rfl, Nat.le_of_ble_eq_true rfl⟩) (z_preV hK hK hM (ci := 5) (q0 := 0) rfl rfl rfl) rfl rfl hl.1 rfl (lv_room (Nat.le_of_ble_eq_true rfl)) dX5_parrotTold_95 ⟨by omega, by omega⟩) ?_
          refine lv_iconst (v := (-1)) hx hb dX5_parrotTold_98 (by decide) ?_
          refine lv_icmp_ne (tgt := 106) hx hb dX5_parrotTold_99 (by decide) (fun c99 => ?_) (fun c99 => ?_)
          · have c99 : ¬ po e k p (c k) = none := fun h => c99 ((zo_m1 (fun q hq => by have h1 := (zd_po_lt hq).1; have h2 := zI_c hI k; omega)).mpr h)
            refine lv_iconst (v := 1) hx hb dX5_parrotTold_106 (by decide) ?_
            refine lv_iadd hx hb dX5_parrotTold_107 ?_
            refine z_toi (y := nI (ln c e p k + 1)) (nI_add (ln c e p k) 1) ?_
            refine lv_istore_n (lv' := [(3, .int (nI (ln c e p k + 1))), (4, .int (nI k)), (0, .ref b), (1, .int (nI p)), (2, .int (nI q))]) hx hb dX5_parrotTold_108 rfl hl (by decide) rfl (fun ls hl => ?_)
            refine lv_iinc (v := (nI (k + 1))) (lv' := [(4, .int (nI (k + 1))), (3, .int (nI (ln c e p k + 1))), (0, .ref b), (1, .int (nI p)), (2, .int (nI q))]) hx hb dX5_parrotTold_109 hl (k := 1) rfl (nI_1 _) (by decide) rfl (fun ls hl => ?_)
            refine lv_goto (tgt := 81) hx hb dX5_parrotTold_112 (by decide) ?_
            exact ih (k + 1) (by omega) (by omega) _ (rfl) _ (by simp only [ln]; first | (rw [if_pos c99] <;> rfl) | (rw [if_neg c99] <;> rfl)) _ (lv_sub hl [0, 1, 2, 3, 4] rfl)
          · have c99 := (zo_m1 (fun q hq => by have h1 := (zd_po_lt hq).1; have h2 := zI_c hI k; omega)).mp c99
            refine lv_iconst (v := 0) hx hb dX5_parrotTold_102 (by decide) ?_
            refine lv_goto (tgt := 107) hx hb dX5_parrotTold_103 (by decide) ?_
            refine lv_iadd hx hb dX5_parrotTold_107 ?_
            refine z_toi (y := nI (ln c e p k + 0)) (nI_add (ln c e p k) 0) ?_
            refine lv_istore_n (lv' := [(3, .int (nI (ln c e p k + 0))), (4, .int (nI k)), (0, .ref b), (1, .int (nI p)), (2, .int (nI q))]) hx hb dX5_parrotTold_108 rfl hl (by decide) rfl (fun ls hl => ?_)
            refine lv_iinc (v := (nI (k + 1))) (lv' := [(4, .int (nI (k + 1))), (3, .int (nI (ln c e p k + 0))), (0, .ref b), (1, .int (nI p)), (2, .int (nI q))]) hx hb dX5_parrotTold_109 hl (k := 1) rfl (nI_1 _) (by decide) rfl (fun ls hl => ?_)
            refine lv_goto (tgt := 81) hx hb dX5_parrotTold_112 (by decide) ?_
            exact ih (k + 1) (by omega) (by omega) _ (rfl) _ (by simp only [ln]; first | (rw [if_pos c99] <;> rfl) | (rw [if_neg c99] <;> rfl)) _ (lv_sub hl [0, 1, 2, 3, 4] rfl)
    exact loop81 _ 0 (Nat.lt_succ_self _) (by omega) _ (rfl) _ (rfl) _ (lv_sub hl [0, 1, 2, 3, 4] rfl)
  · refine lv_tableOut (x := nI q) (tgt := 117) hx hb dX5_parrotTold_3 (by rw [hsw]; decide) (by decide) ?_
    refine lv_aload_n hx hb dX5_parrotTold_117 rfl (lv_at hl 1 rfl) ?_
    refine lv_iload_n hx hb dX5_parrotTold_118 rfl (lv_at hl 2 rfl) ?_
    refine z_ki (va_runV (As := [.int (nI p)]) (rest := []) hfix (zcX5_heard l D cI H b tn n g me lo c bf e rd tk p hM hI (by omega)) (cwV 1 hts gX5_parrotTold_X5_heard rfl rfl rfl (by decide +kernel) ⟨Nat.le_of_ble_eq_true rfl, Nat.le_of_ble_eq_true rfl⟩) (z_preV hK hK hM (ci := 5) (q0 := 0) rfl rfl rfl) rfl rfl hl.1 rfl (lv_room (Nat.le_of_ble_eq_true rfl)) dX5_parrotTold_119 ⟨by omega, by omega⟩) ?_
    refine z_toi (y := (tp n g me lo c e p q)) (by rw [hsw]; rfl) ?_
    exact z_iret hx hb hr hlocks dX5_parrotTold_122
set_option maxHeartbeats 4000000 in
set_option maxRecDepth 100000 in
/-- halfTold -/
theorem zcX5_halfTold (l : Launch) (D : va_G) (cI : ClassId) (H : Heap) (b : Nat) (tn : Int32) (n : Nat) (g : zG) (me : Nat → Int32) (lo : Nat → Int32) (c : Nat → Nat) (bf : Nat → Int32) (e : Nat → Nat) (rd : Int32) (tk : Int32) (p : Nat) (h : Nat) (q : Nat) (hM : va_P D vwCl (zMo cI b tn n (jf g me lo c) bf (zn e) (nm rd tk)) H) (hp : p < 12) (hh : h < 2) (hq : q ≤ 2) : Met l yX5_halfTold wsX5_halfTold ({ frames := 1, cells := 0, slots := 0, locals := 22 } : Room) (zPc D [(cI, .int)] H [.ref b, .int (nI p), .int (nI h), .int (nI q)]) (zQ (some (.int (th g p h q))) H) 0 0 (fun _ => False) := by
  refine z_enter (cc := cX5_halfTold) (maxL := 4) (ret := (some .int)) (by decide) rfl (Nat.le_of_ble_eq_true rfl) ?_
  intro pg ev s m args below meth cd hfix hr hlocks hname hK hHs ls hl
  obtain ⟨hx, hb, hml, hown, hts⟩ := id hfix
  have hl : lv_has ls 4 [(0, .ref b), (1, .int (nI p)), (2, .int (nI h)), (3, .int (nI q))] := hl
  refine lv_aload_n hx hb dX5_halfTold_0 rfl (lv_at hl 0 rfl) ?_
  refine lv_iload_n hx hb dX5_halfTold_1 rfl (lv_at hl 1 rfl) ?_
  refine lv_iload_n hx hb dX5_halfTold_2 rfl (lv_at hl 2 rfl) ?_
  refine lv_iload_n hx hb dX5_halfTold_3 rfl (lv_at hl 3 rfl) ?_
  refine lv_if_ne (tgt := 11) hx hb dX5_halfTold_4 (by decide) (fun c4 => ?_) (fun c4 => ?_)
  · have c4 := z_ne (a := q) (b := 0) c4 (by omega) (by omega)
    refine lv_iload_n hx hb dX5_halfTold_11 rfl (lv_at hl 3 rfl) ?_
    refine lv_iconst (v := 1) hx hb dX5_halfTold_12 (by decide) ?_
    refine lv_icmp_ne (tgt := 20) hx hb dX5_halfTold_13 (by decide) (fun c13 => ?_) (fun c13 => ?_)
    · have c13 := z_ne (a := q) (b := 1) c13 (by omega) (by omega)
      refine lv_iconst (v := 4) hx hb dX5_halfTold_20 (by decide) ?_
      refine lv_iadd hx hb dX5_halfTold_21 ?_
      refine z_toi (y := nI (h + 4)) (nI_add h 4) ?_
      refine z_ki (va_runV (As := [.int (nI p), .int (nI (h + 4))]) (rest := []) hfix (zcX5_ju l D cI H b tn n (jf g me lo c) bf (zn e) (nm rd tk) p (h + 4) hM (by omega) (by omega)) (cwV 2 hts gX5_halfTold_X5_ju rfl rfl rfl (by decide +kernel) ⟨Nat.le_of_ble_eq_true rfl, Nat.le_of_ble_eq_true rfl⟩) (z_preV hK hK hM (ci := 5) (q0 := 0) rfl rfl rfl) rfl rfl hl.1 rfl (lv_room (Nat.le_of_ble_eq_true rfl)) dX5_halfTold_22 ⟨by omega, by omega⟩) ?_
      refine z_toi (y := (g (h + 4) p)) (jf_g (by omega)) ?_
      refine z_toi (y := (th g p h q)) (by first | (rw [show q = 0 by omega]; rfl) | (rw [show q = 1 by omega, Nat.add_comm]; rfl) | (rw [show q = 2 by omega, Nat.add_comm]; rfl)) ?_
      exact z_iret hx hb hr hlocks dX5_halfTold_25
    · have c13 := z_eq (a := q) (b := 1) c13 (by omega) (by omega)
      refine lv_iconst (v := 2) hx hb dX5_halfTold_16 (by decide) ?_
      refine lv_goto (tgt := 21) hx hb dX5_halfTold_17 (by decide) ?_
      refine lv_iadd hx hb dX5_halfTold_21 ?_
      refine z_toi (y := nI (h + 2)) (nI_add h 2) ?_
      refine z_ki (va_runV (As := [.int (nI p), .int (nI (h + 2))]) (rest := []) hfix (zcX5_ju l D cI H b tn n (jf g me lo c) bf (zn e) (nm rd tk) p (h + 2) hM (by omega) (by omega)) (cwV 2 hts gX5_halfTold_X5_ju rfl rfl rfl (by decide +kernel) ⟨Nat.le_of_ble_eq_true rfl, Nat.le_of_ble_eq_true rfl⟩) (z_preV hK hK hM (ci := 5) (q0 := 0) rfl rfl rfl) rfl rfl hl.1 rfl (lv_room (Nat.le_of_ble_eq_true rfl)) dX5_halfTold_22 ⟨by omega, by omega⟩) ?_
      refine z_toi (y := (g (h + 2) p)) (jf_g (by omega)) ?_
      refine z_toi (y := (th g p h q)) (by first | (rw [show q = 0 by omega]; rfl) | (rw [show q = 1 by omega, Nat.add_comm]; rfl) | (rw [show q = 2 by omega, Nat.add_comm]; rfl)) ?_
      exact z_iret hx hb hr hlocks dX5_halfTold_25
  · have c4 := z_eq (a := q) (b := 0) c4 (by omega) (by omega)
    refine lv_iconst (v := 0) hx hb dX5_halfTold_7 (by decide) ?_
    refine lv_goto (tgt := 21) hx hb dX5_halfTold_8 (by decide) ?_
    refine lv_iadd hx hb dX5_halfTold_21 ?_
    refine z_toi (y := nI (h + 0)) (nI_add h 0) ?_
    refine z_ki (va_runV (As := [.int (nI p), .int (nI (h + 0))]) (rest := []) hfix (zcX5_ju l D cI H b tn n (jf g me lo c) bf (zn e) (nm rd tk) p (h + 0) hM (by omega) (by omega)) (cwV 2 hts gX5_halfTold_X5_ju rfl rfl rfl (by decide +kernel) ⟨Nat.le_of_ble_eq_true rfl, Nat.le_of_ble_eq_true rfl⟩) (z_preV hK hK hM (ci := 5) (q0 := 0) rfl rfl rfl) rfl rfl hl.1 rfl (lv_room (Nat.le_of_ble_eq_true rfl)) dX5_halfTold_22 ⟨by omega, by omega⟩) ?_
    refine z_toi (y := (g (h + 0) p)) (jf_g (by omega)) ?_
    refine z_toi (y := (th g p h q)) (by first | (rw [show q = 0 by omega]; rfl) | (rw [show q = 1 by omega, Nat.add_comm]; rfl) | (rw [show q = 2 by omega, Nat.add_comm]; rfl)) ?_
    exact z_iret hx hb hr hlocks dX5_halfTold_25
