set_option maxHeartbeats 4000000 in
set_option maxRecDepth 100000 in
/-- foresee returns -/
theorem zcX5_foresee_k (l : Launch) (D : va_G) (cI : ClassId) (cR : ClassId) (H : Heap) (b : Nat) (tn : Int32) (n : Nat) (g : zG) (me : Nat → Int32) (lo : Nat → Int32) (c : Nat → Nat) (bf : Nat → Int32) (e : Nat → Nat) (rd : Int32) (tk : Int32) (r : Nat) (p : Nat) (hM : va_P D vwCl (zMo cI b tn n (jf g me lo c) bf (zn e) (nm rd tk)) H) (hI : zI n me lo c e) (hZ : zJ n g) (hr1 : 1 ≤ r) (hr2 : r ≤ 200) (hp : p < n) : Met l yX5_foresee wsX5_foresee ({ frames := 5, cells := 3, slots := 124, locals := 111 } : Room) (zPk D [(cI, .int), (cR, .array .int)] H [.ref b, .int (nI r), .int (nI p)]) (zM (fun H1 => (∃ bf9 : Nat → Int32, va_P D vwCl (zMo cI b 0 n (jf g me lo c) bf9 (zn e) (nm rd tk)) H1) ∧ H.size ≤ H1.size) (some (.int (wd (rN n me lo c e (rd, tk, g) r).2.2 p))) (fun q => zF b (b + 5) q ∨ H.size ≤ q)) 3 124 (fun q => zF b (b + 5) q ∨ H.size ≤ q) := by
  refine z_kenter (cc := cX5_foresee) (maxL := 5) (ret := (some .int)) (by decide) rfl (Nat.le_of_ble_eq_true rfl) ?_
  intro pg ev s m args below meth cd hfix hr hlocks hname hK hHs hKw ls hl
  have hK1 : va_K D vwCl [(cI, .int)] s := hK.sub [0] rfl
  obtain ⟨hx, hb, hml, hown, hts⟩ := id hfix
  have hl : lv_has ls 5 [(0, .ref b), (1, .int (nI r)), (2, .int (nI p))] := hl
  have hS : va_S (fun q => zF b (b + 5) q ∨ H.size ≤ q) s.heap H [] := by rw [hHs]; exact va_S.rf
  have hz : H.size ≤ H.size := Nat.le_refl _
  have hinX5 : ∀ w ∈ wsX50, w ∈ wsX5_foresee := by decide +kernel
  have hn := zI_n hI
  refine lv_aload_n hx hb dX5_foresee_0 rfl (lv_at hl 0 rfl) ?_
  refine lv_iconst (v := 0) hx hb dX5_foresee_1 (by decide) ?_
  refine z_put (D := D) (ci := 5) (v := .int 0) (ty := .int) (C := RX5) (T := TX5) (N := 6) hx hb hts hinX5 tyX5 tyX5_ok nmX5 hown hK hM (by simp only [zF]; omega) hS 0 rfl rfl 0 (by decide) (hts _ (List.mem_of_getElem? (i := 1) rfl)) (fun _ h9 => h9) rfl (by decide +kernel) rfl rfl (Nat.le_of_ble_eq_true rfl) dX5_foresee_2 (fun H1 lo2 hP1 hz1 hk1 hS => ?_)
  have hz : H.size ≤ H1.size := by omega
  have hM3 : va_P D vwCl (zMo cI b 0 n (jf g me lo c) bf (zn e) (nm rd tk)) H1 := z_set zMo_c hM 0 rfl hP1 (fun q _ h => hk1 q h)
  refine lv_iload_n hx hb dX5_foresee_5 rfl (lv_at hl 1 rfl) ?_
  refine lv_iconst (v := 1) hx hb dX5_foresee_6 (by decide) ?_
  refine lv_sipush (v := 200) hx hb dX5_foresee_7 (by decide) ?_
  refine z_ki (va_runS (As := [.int (nI r), .int 1, .int 200]) (rest := []) hfix (zcX5_isIn l D cI H1 (nI r) 1 200 ) (va_cwS 3 hts gX5_foresee_X5_isIn rfl rfl rfl (by decide +kernel) ⟨Nat.le_of_ble_eq_true rfl, Nat.le_of_ble_eq_true rfl⟩) (z_preS hK1) rfl rfl hl.1 rfl (lv_room (Nat.le_of_ble_eq_true rfl)) dX5_foresee_10 ⟨by omega, by omega⟩) ?_
  refine lv_if_ne (tgt := 22) hx hb dX5_foresee_13 (by decide) (fun c13 => ?_) (fun c13 => ?_)
  · have c13 := zb_1 c13
    refine lv_aload_n hx hb dX5_foresee_22 rfl (lv_at hl 0 rfl) ?_
    refine lv_iload_n hx hb dX5_foresee_23 rfl (lv_at hl 2 rfl) ?_
    refine z_ki (va_runV (As := [.int (nI p)]) (rest := []) hfix (zcX5_isParrot l D cI H1 b 0 n (jf g me lo c) bf (zn e) (nm rd tk) (nI p) hM3) (cwV 1 hts gX5_foresee_X5_isParrot rfl rfl rfl (by decide +kernel) ⟨Nat.le_of_ble_eq_true rfl, Nat.le_of_ble_eq_true rfl⟩) (z_preV hK hK1 hM3 (ci := 5) (q0 := 0) rfl rfl rfl) rfl rfl hl.1 rfl (lv_room (Nat.le_of_ble_eq_true rfl)) dX5_foresee_24 ⟨by omega, by omega⟩) ?_
    refine lv_if_ne (tgt := 36) hx hb dX5_foresee_27 (by decide) (fun c27 => ?_) (fun c27 => ?_)
    · have c27 := zb_1 c27
      refine lv_aload_n hx hb dX5_foresee_36 rfl (lv_at hl 0 rfl) ?_
      refine z_mr (va_runV (As := []) (rest := []) hfix (zcX5_kept l D cI cR H1 b 0 n g me lo c bf e rd tk hM3) (cwV 0 hts gX5_foresee_X5_kept rfl rfl rfl (by decide +kernel) ⟨Nat.le_of_ble_eq_true rfl, Nat.le_of_ble_eq_true rfl⟩) (z_kpreV hKw hK hK hM3 (ci := 5) (q0 := 0) rfl rfl rfl) rfl rfl hl.1 rfl (lv_room (Nat.le_of_ble_eq_true rfl)) dX5_foresee_37 ⟨Nat.le_of_ble_eq_true rfl, Nat.le_of_ble_eq_true rfl⟩) hS (fun q h9 h => by have h8 : H1.size ≤ q := h; omega) (fun q h => by have h8 : H1.size ≤ q := h; simp only [zF]; omega) (fun H4 lo5 hB hz1 hk1 hS => ?_)
      have hlt : b + 4 < H1.size := vx_lt hM3 (k := 4) rfl
      have hz : H.size ≤ H4.size := by have h9 := hB.2.2; omega
      have hM6 : va_P D vwCl (zMo cI b 0 n (jf g me lo c) bf (zn e) (nm rd tk)) H4 := hB.1
      have hK97 : va_P D vwCl (zKp cI cR H1.size (jf g me lo c) (nm rd tk)) H4 := hB.2.1
      refine lv_astore_n (lv' := [(3, .ref H1.size), (0, .ref b), (1, .int (nI r)), (2, .int (nI p))]) hx hb dX5_foresee_40 rfl hl (by decide) rfl (fun ls hl => ?_)
      refine lv_aload_n hx hb dX5_foresee_41 rfl (lv_at hl 1 rfl) ?_
      refine lv_iload_n hx hb dX5_foresee_42 rfl (lv_at hl 2 rfl) ?_
      refine z_mv (va_runV (As := [.int (nI r)]) (rest := []) hfix (zcX5_roundsOn l D cI H4 b 0 n g me lo c bf e rd tk r hM6 hI hZ (by omega)) (cwV 1 hts gX5_foresee_X5_roundsOn rfl rfl rfl (by decide +kernel) ⟨Nat.le_of_ble_eq_true rfl, Nat.le_of_ble_eq_true rfl⟩) (z_preV hK hK1 hM6 (ci := 5) (q0 := 0) rfl rfl rfl) rfl rfl hl.1 rfl (lv_room (Nat.le_of_ble_eq_true rfl)) dX5_foresee_43 ⟨Nat.le_of_ble_eq_true rfl, Nat.le_of_ble_eq_true rfl⟩) hS (fun q _ h => by simp only [zF] at h ⊢; omega) (fun q h => by simp only [zF] at h ⊢; omega) (fun H8 lo9 hB hz1 hk1 hS => ?_)
      obtain ⟨⟨bf10, hB1⟩, hB2⟩ := hB
      have hz : H.size ≤ H8.size := by have h9 := hB2; omega
      have hM11 : va_P D vwCl (zMo cI b 0 n (jf ((rN n me lo c e (rd, tk, g) r).2.2) me lo c) bf10 (zn e) (nm ((rN n me lo c e (rd, tk, g) r).1) ((rN n me lo c e (rd, tk, g) r).2.1))) H8 := hB1
      have hK12 := zKp_kept hK97 (fun q h1 h2 h3 => hk1 q h1 (by simp only [zF]; omega))
      refine lv_aload_n hx hb dX5_foresee_46 rfl (lv_at hl 1 rfl) ?_
      refine lv_iload_n hx hb dX5_foresee_47 rfl (lv_at hl 3 rfl) ?_
      refine z_ki (va_runV (As := [.int (nI p)]) (rest := []) hfix (zcX5_word l D cI H8 b 0 n ((rN n me lo c e (rd, tk, g) r).2.2) me lo c bf10 e ((rN n me lo c e (rd, tk, g) r).1) ((rN n me lo c e (rd, tk, g) r).2.1) p hM11 (by omega)) (cwV 1 hts gX5_foresee_X5_word rfl rfl rfl (by decide +kernel) ⟨Nat.le_of_ble_eq_true rfl, Nat.le_of_ble_eq_true rfl⟩) (z_preV hK hK1 hM11 (ci := 5) (q0 := 0) rfl rfl rfl) rfl rfl hl.1 rfl (lv_room (Nat.le_of_ble_eq_true rfl)) dX5_foresee_48 ⟨Nat.le_of_ble_eq_true rfl, Nat.le_of_ble_eq_true rfl⟩) ?_
      refine lv_istore (lv' := [(4, .int (wd ((rN n me lo c e (rd, tk, g) r).2.2) p)), (3, .ref H1.size), (0, .ref b), (1, .int (nI r)), (2, .int (nI p))]) hx hb dX5_foresee_51 hl (by decide) rfl (fun ls hl => ?_)
      refine lv_aload_n hx hb dX5_foresee_53 rfl (lv_at hl 2 rfl) ?_
      refine lv_aload_n hx hb dX5_foresee_54 rfl (lv_at hl 1 rfl) ?_
      refine z_mv (va_runV (As := [.ref H1.size]) (rest := []) hfix (zcX5_bringBack l D cI cR H8 b 0 n (jf ((rN n me lo c e (rd, tk, g) r).2.2) me lo c) bf10 (zn e) (nm ((rN n me lo c e (rd, tk, g) r).1) ((rN n me lo c e (rd, tk, g) r).2.1)) H1.size (jf g me lo c) (nm rd tk) hM11 hK12 (by omega)) (cwV 1 hts gX5_foresee_X5_bringBack rfl rfl rfl (by decide +kernel) ⟨Nat.le_of_ble_eq_true rfl, Nat.le_of_ble_eq_true rfl⟩) (z_kpreV hKw hK hK hM11 (ci := 5) (q0 := 0) rfl rfl rfl) rfl rfl hl.1 rfl (lv_room (Nat.le_of_ble_eq_true rfl)) dX5_foresee_55 ⟨Nat.le_of_ble_eq_true rfl, Nat.le_of_ble_eq_true rfl⟩) hS (fun q _ h => by simp only [zF] at h ⊢; omega) (fun q h => by simp only [zF] at h ⊢; omega) (fun H13 lo14 hB hz1 hk1 hS => ?_)
      have hz : H.size ≤ H13.size := by have h9 := hB.2; omega
      have hM15 : va_P D vwCl (zMo cI b 0 n (jf g me lo c) bf10 (zn e) (nm rd tk)) H13 := hB.1
      have hK16 := zKp_kept hK12 (fun q h1 h2 h3 => hk1 q h1 (by simp only [zF]; omega))
      refine lv_iload hx hb dX5_foresee_58 (lv_at hl 0 rfl) ?_
      refine z_toi (y := (wd (rN n me lo c e (rd, tk, g) r).2.2 p)) (rfl) ?_
      refine W.widen (k := 3) (n := 124) (by omega) (by omega) ?_
      exact z_iretM (⟨⟨_, hM15⟩, hz⟩) hx hb hr hlocks hS dX5_foresee_60
    · have c27 := zb_0 c27
      exact absurd ((z_isP hn).mpr ⟨p, hp, rfl⟩) c27
  · have c13 := zb_0 c13
    exact absurd (z_in (a := 1) (b := 200) hr1 hr2 (by omega)) c13
set_option maxHeartbeats 4000000 in
set_option maxRecDepth 100000 in
/-- agrees returns -/
theorem zcX5_agrees_k (l : Launch) (D : va_G) (cI : ClassId) (cR : ClassId) (H : Heap) (b : Nat) (tn : Int32) (n : Nat) (g : zG) (me : Nat → Int32) (lo : Nat → Int32) (c : Nat → Nat) (bf : Nat → Int32) (e : Nat → Nat) (rd : Int32) (tk : Int32) (hM : va_P D vwCl (zMo cI b tn n (jf g me lo c) bf (zn e) (nm rd tk)) H) (hI : zI n me lo c e) (hZ : zJ n g) : Met l yX5_agrees wsX5_agrees ({ frames := 4, cells := 3, slots := 124, locals := 89 } : Room) (zPk D [(cI, .int), (cR, .array .int)] H [.ref b]) (zM (fun H1 => (∃ bf9 : Nat → Int32, va_P D vwCl (zMo cI b 0 n (jf g me lo c) bf9 (zn e) (nm rd tk)) H1) ∧ H.size ≤ H1.size) (some (.int (zo (fs (same n me lo c e (rd, tk, g)) 201)))) (fun q => zF b (b + 5) q ∨ H.size ≤ q)) 3 124 (fun q => zF b (b + 5) q ∨ H.size ≤ q) := by
  refine z_kenter (cc := cX5_agrees) (maxL := 3) (ret := (some .int)) (by decide) rfl (Nat.le_of_ble_eq_true rfl) ?_
  intro pg ev s m args below meth cd hfix hr hlocks hname hK hHs hKw ls hl
  have hK1 : va_K D vwCl [(cI, .int)] s := hK.sub [0] rfl
  obtain ⟨hx, hb, hml, hown, hts⟩ := id hfix
  have hl : lv_has ls 3 [(0, .ref b)] := hl
  have hS : va_S (fun q => zF b (b + 5) q ∨ H.size ≤ q) s.heap H [] := by rw [hHs]; exact va_S.rf
  have hz : H.size ≤ H.size := Nat.le_refl _
  have hinX5 : ∀ w ∈ wsX50, w ∈ wsX5_agrees := by decide +kernel
  have hn := zI_n hI
  refine lv_aload_n hx hb dX5_agrees_0 rfl (lv_at hl 0 rfl) ?_
  refine lv_iconst (v := 0) hx hb dX5_agrees_1 (by decide) ?_
  refine z_put (D := D) (ci := 5) (v := .int 0) (ty := .int) (C := RX5) (T := TX5) (N := 6) hx hb hts hinX5 tyX5 tyX5_ok nmX5 hown hK hM (by simp only [zF]; omega) hS 0 rfl rfl 0 (by decide) (hts _ (List.mem_of_getElem? (i := 1) rfl)) (fun _ h9 => h9) rfl (by decide +kernel) rfl rfl (Nat.le_of_ble_eq_true rfl) dX5_agrees_2 (fun H1 lo2 hP1 hz1 hk1 hS => ?_)
  have hz : H.size ≤ H1.size := by omega
  have hM3 : va_P D vwCl (zMo cI b 0 n (jf g me lo c) bf (zn e) (nm rd tk)) H1 := z_set zMo_c hM 0 rfl hP1 (fun q _ h => hk1 q h)
  refine lv_aload_n hx hb dX5_agrees_5 rfl (lv_at hl 0 rfl) ?_
  refine z_mr (va_runV (As := []) (rest := []) hfix (zcX5_kept l D cI cR H1 b 0 n g me lo c bf e rd tk hM3) (cwV 0 hts gX5_agrees_X5_kept rfl rfl rfl (by decide +kernel) ⟨Nat.le_of_ble_eq_true rfl, Nat.le_of_ble_eq_true rfl⟩) (z_kpreV hKw hK hK hM3 (ci := 5) (q0 := 0) rfl rfl rfl) rfl rfl hl.1 rfl (lv_room (Nat.le_of_ble_eq_true rfl)) dX5_agrees_6 ⟨Nat.le_of_ble_eq_true rfl, Nat.le_of_ble_eq_true rfl⟩) hS (fun q h9 h => by have h8 : H1.size ≤ q := h; omega) (fun q h => by have h8 : H1.size ≤ q := h; simp only [zF]; omega) (fun H4 lo5 hB hz1 hk1 hS => ?_)
  have hlt : b + 4 < H1.size := vx_lt hM3 (k := 4) rfl
  have hz : H.size ≤ H4.size := by have h9 := hB.2.2; omega
  have hM6 : va_P D vwCl (zMo cI b 0 n (jf g me lo c) bf (zn e) (nm rd tk)) H4 := hB.1
  have hK97 : va_P D vwCl (zKp cI cR H1.size (jf g me lo c) (nm rd tk)) H4 := hB.2.1
  refine lv_astore_n (lv' := [(1, .ref H1.size), (0, .ref b)]) hx hb dX5_agrees_9 rfl hl (by decide) rfl (fun ls hl => ?_)
  refine lv_iconst (v := 0) hx hb dX5_agrees_10 (by decide) ?_
  refine lv_istore_n (lv' := [(2, .int 0), (1, .ref H1.size), (0, .ref b)]) hx hb dX5_agrees_11 rfl hl (by decide) rfl (fun ls hl => ?_)
  have loop12 : ∀ (fu : Nat) (k : Nat) (bf0 : Nat → Int32), 200 - k < fu → (k ≤ 200) → (fs (same n me lo c e (rd, tk, g)) k = none) → ∀ (x2 : Int32), x2 = (nI k) → ∀ (H8 : Heap) (lo9 : List Loc), va_P D vwCl (zMo cI b 0 n (jf ((rN n me lo c e (rd, tk, g) k).2.2) me lo c) bf0 (zn e) (nm ((rN n me lo c e (rd, tk, g) k).1) ((rN n me lo c e (rd, tk, g) k).2.1))) H8 → va_P D vwCl (zKp cI cR H1.size (jf g me lo c) (nm rd tk)) H8 → H.size ≤ H8.size → va_S (fun q => zF b (b + 5) q ∨ H.size ≤ q) s.heap H8 lo9 → ∀ ls : Array Slot, lv_has ls 3 [(2, .int x2), (1, .ref H1.size), (0, .ref b)] → W pg l ev ({ frames := 4, cells := 3, slots := 124, locals := 89 } : Room) s m args below meth cd H8 lo9 (0 + 3) (0 + 124) (MQ below (zM (fun H1 => (∃ bf9 : Nat → Int32, va_P D vwCl (zMo cI b 0 n (jf g me lo c) bf9 (zn e) (nm rd tk)) H1) ∧ H.size ≤ H1.size) (some (.int (zo (fs (same n me lo c e (rd, tk, g)) 201)))) (fun q => zF b (b + 5) q ∨ H.size ≤ q)) args s 3 124 (fun q => zF b (b + 5) q ∨ H.size ≤ q)) (F0 m 12 ls []) := by
    intro fu
    induction fu with
    | zero => intro k bf0 hfu; exact absurd hfu (Nat.not_lt_zero _)
    | succ fu ih =>
      intro k bf0 hfu hi12_0 hi12_1 x2 ex2 H8 lo9 hM10 hK911 hz hS ls hl
      subst ex2
      refine lv_iload_n hx hb dX5_agrees_12 rfl (lv_at hl 0 rfl) ?_
      refine lv_sipush (v := 200) hx hb dX5_agrees_13 (by decide) ?_
      refine lv_icmp_ge (tgt := 38) hx hb dX5_agrees_16 (by decide) (fun c16 => ?_) (fun c16 => ?_)
      · have c16 := z_le (a := 200) (b := k) c16 (by omega) (by omega)
        refine lv_aload_n hx hb dX5_agrees_38 rfl (lv_at hl 2 rfl) ?_
        refine lv_iconst (v := 2) hx hb dX5_agrees_39 (by decide) ?_
        refine z_ki (va_runV (As := [.int 2]) (rest := []) hfix (zcX5_counted l D cI H8 b 0 n ((rN n me lo c e (rd, tk, g) k).2.2) me lo c bf0 e ((rN n me lo c e (rd, tk, g) k).1) ((rN n me lo c e (rd, tk, g) k).2.1) 2 hM10 hI (by omega)) (cwV 1 hts gX5_agrees_X5_counted rfl rfl rfl (by decide +kernel) ⟨Nat.le_of_ble_eq_true rfl, Nat.le_of_ble_eq_true rfl⟩) (z_preV hK hK1 hM10 (ci := 5) (q0 := 0) rfl rfl rfl) rfl rfl hl.1 rfl (lv_room (Nat.le_of_ble_eq_true rfl)) dX5_agrees_40 ⟨Nat.le_of_ble_eq_true rfl, Nat.le_of_ble_eq_true rfl⟩) ?_
        refine z_toi (y := nI (dw (rN n me lo c e (rd, tk, g) k).2.2 n)) (rfl) ?_
        have hdw := dw_le (rN n me lo c e (rd, tk, g) k).2.2 n
        refine lv_iconst (v := 1) hx hb dX5_agrees_43 (by decide) ?_
        refine lv_icmp_le (tgt := 49) hx hb dX5_agrees_44 (by decide) (fun c44 => ?_) (fun c44 => ?_)
        · have c44 := z_le (a := dw (rN n me lo c e (rd, tk, g) k).2.2 n) (b := 1) c44 (by omega) (by omega)
          refine lv_aload_n hx hb dX5_agrees_49 rfl (lv_at hl 2 rfl) ?_
          refine lv_aload_n hx hb dX5_agrees_50 rfl (lv_at hl 1 rfl) ?_
          refine z_mv (va_runV (As := [.ref H1.size]) (rest := []) hfix (zcX5_bringBack l D cI cR H8 b 0 n (jf ((rN n me lo c e (rd, tk, g) k).2.2) me lo c) bf0 (zn e) (nm ((rN n me lo c e (rd, tk, g) k).1) ((rN n me lo c e (rd, tk, g) k).2.1)) H1.size (jf g me lo c) (nm rd tk) hM10 hK911 (by omega)) (cwV 1 hts gX5_agrees_X5_bringBack rfl rfl rfl (by decide +kernel) ⟨Nat.le_of_ble_eq_true rfl, Nat.le_of_ble_eq_true rfl⟩) (z_kpreV hKw hK hK hM10 (ci := 5) (q0 := 0) rfl rfl rfl) rfl rfl hl.1 rfl (lv_room (Nat.le_of_ble_eq_true rfl)) dX5_agrees_51 ⟨Nat.le_of_ble_eq_true rfl, Nat.le_of_ble_eq_true rfl⟩) hS (fun q _ h => by simp only [zF] at h ⊢; omega) (fun q h => by simp only [zF] at h ⊢; omega) (fun H12 lo13 hB hz1 hk1 hS => ?_)
          have hz : H.size ≤ H12.size := by have h9 := hB.2; omega
          have hM14 : va_P D vwCl (zMo cI b 0 n (jf g me lo c) bf0 (zn e) (nm rd tk)) H12 := hB.1
          have hK15 := zKp_kept hK911 (fun q h1 h2 h3 => hk1 q h1 (by simp only [zF]; omega))
          refine lv_iload_n hx hb dX5_agrees_54 rfl (lv_at hl 0 rfl) ?_
          refine z_toi (y := (zo (fs (same n me lo c e (rd, tk, g)) 201))) (by rw [fs_mono (fs_y hi12_1 (same_y ((dw_same _ n).mp c44))) (by omega)]; rfl) ?_
          refine W.widen (k := 3) (n := 124) (by omega) (by omega) ?_
          exact z_iretM (⟨⟨_, hM14⟩, hz⟩) hx hb hr hlocks hS dX5_agrees_55
        · have c44 := z_nle (a := dw (rN n me lo c e (rd, tk, g) k).2.2 n) (b := 1) c44 (by omega) (by omega)
          refine lv_iconst (v := (-1)) hx hb dX5_agrees_47 (by decide) ?_
          refine lv_istore_n (lv' := [(2, .int (-1)), (1, .ref H1.size), (0, .ref b)]) hx hb dX5_agrees_48 rfl hl (by decide) rfl (fun ls hl => ?_)
          refine lv_aload_n hx hb dX5_agrees_49 rfl (lv_at hl 2 rfl) ?_
          refine lv_aload_n hx hb dX5_agrees_50 rfl (lv_at hl 1 rfl) ?_
          refine z_mv (va_runV (As := [.ref H1.size]) (rest := []) hfix (zcX5_bringBack l D cI cR H8 b 0 n (jf ((rN n me lo c e (rd, tk, g) k).2.2) me lo c) bf0 (zn e) (nm ((rN n me lo c e (rd, tk, g) k).1) ((rN n me lo c e (rd, tk, g) k).2.1)) H1.size (jf g me lo c) (nm rd tk) hM10 hK911 (by omega)) (cwV 1 hts gX5_agrees_X5_bringBack rfl rfl rfl (by decide +kernel) ⟨Nat.le_of_ble_eq_true rfl, Nat.le_of_ble_eq_true rfl⟩) (z_kpreV hKw hK hK hM10 (ci := 5) (q0 := 0) rfl rfl rfl) rfl rfl hl.1 rfl (lv_room (Nat.le_of_ble_eq_true rfl)) dX5_agrees_51 ⟨Nat.le_of_ble_eq_true rfl, Nat.le_of_ble_eq_true rfl⟩) hS (fun q _ h => by simp only [zF] at h ⊢; omega) (fun q h => by simp only [zF] at h ⊢; omega) (fun H16 lo17 hB hz1 hk1 hS => ?_)
          have hz : H.size ≤ H16.size := by have h9 := hB.2; omega
          have hM18 : va_P D vwCl (zMo cI b 0 n (jf g me lo c) bf0 (zn e) (nm rd tk)) H16 := hB.1
          have hK19 := zKp_kept hK911 (fun q h1 h2 h3 => hk1 q h1 (by simp only [zF]; omega))
          refine lv_iload_n hx hb dX5_agrees_54 rfl (lv_at hl 0 rfl) ?_
          refine z_toi (y := (zo (fs (same n me lo c e (rd, tk, g)) 201))) (by rw [show (201 : Nat) = k + 1 by omega, fs_n hi12_1 (same_n (fun h9 => Nat.not_le.mpr c44 ((dw_same _ n).mpr h9)))]; rfl) ?_
          refine W.widen (k := 3) (n := 124) (by omega) (by omega) ?_
          exact z_iretM (⟨⟨_, hM18⟩, hz⟩) hx hb hr hlocks hS dX5_agrees_55
      · have c16 := z_nle (a := 200) (b := k) c16 (by omega) (by omega)
        refine lv_aload_n hx hb dX5_agrees_19 rfl (lv_at hl 2 rfl) ?_
        refine lv_iconst (v := 2) hx hb dX5_agrees_20 (by decide) ?_
        refine z_ki (va_runV (As := [.int 2]) (rest := []) hfix (zcX5_counted l D cI H8 b 0 n ((rN n me lo c e (rd, tk, g) k).2.2) me lo c bf0 e ((rN n me lo c e (rd, tk, g) k).1) ((rN n me lo c e (rd, tk, g) k).2.1) 2 hM10 hI (by omega)) (cwV 1 hts gX5_agrees_X5_counted rfl rfl rfl (by decide +kernel) ⟨Nat.le_of_ble_eq_true rfl, Nat.le_of_ble_eq_true rfl⟩) (z_preV hK hK1 hM10 (ci := 5) (q0 := 0) rfl rfl rfl) rfl rfl hl.1 rfl (lv_room (Nat.le_of_ble_eq_true rfl)) dX5_agrees_21 ⟨Nat.le_of_ble_eq_true rfl, Nat.le_of_ble_eq_true rfl⟩) ?_
        refine z_toi (y := nI (dw (rN n me lo c e (rd, tk, g) k).2.2 n)) (rfl) ?_
        have hdw := dw_le (rN n me lo c e (rd, tk, g) k).2.2 n
        refine lv_iconst (v := 1) hx hb dX5_agrees_24 (by decide) ?_
        refine lv_icmp_le (tgt := 38) hx hb dX5_agrees_25 (by decide) (fun c25 => ?_) (fun c25 => ?_)
        · have c25 := z_le (a := dw (rN n me lo c e (rd, tk, g) k).2.2 n) (b := 1) c25 (by omega) (by omega)
          refine lv_aload_n hx hb dX5_agrees_38 rfl (lv_at hl 2 rfl) ?_
          refine lv_iconst (v := 2) hx hb dX5_agrees_39 (by decide) ?_
          refine z_ki (va_runV (As := [.int 2]) (rest := []) hfix (zcX5_counted l D cI H8 b 0 n ((rN n me lo c e (rd, tk, g) k).2.2) me lo c bf0 e ((rN n me lo c e (rd, tk, g) k).1) ((rN n me lo c e (rd, tk, g) k).2.1) 2 hM10 hI (by omega)) (cwV 1 hts gX5_agrees_X5_counted rfl rfl rfl (by decide +kernel) ⟨Nat.le_of_ble_eq_true rfl, Nat.le_of_ble_eq_true rfl⟩) (z_preV hK hK1 hM10 (ci := 5) (q0 := 0) rfl rfl rfl) rfl rfl hl.1 rfl (lv_room (Nat.le_of_ble_eq_true rfl)) dX5_agrees_40 ⟨Nat.le_of_ble_eq_true rfl, Nat.le_of_ble_eq_true rfl⟩) ?_
          refine z_toi (y := nI (dw (rN n me lo c e (rd, tk, g) k).2.2 n)) (rfl) ?_
          have hdw := dw_le (rN n me lo c e (rd, tk, g) k).2.2 n
          refine lv_iconst (v := 1) hx hb dX5_agrees_43 (by decide) ?_
          refine lv_icmp_le (tgt := 49) hx hb dX5_agrees_44 (by decide) (fun c44 => ?_) (fun c44 => ?_)
          · have c44 := z_le (a := dw (rN n me lo c e (rd, tk, g) k).2.2 n) (b := 1) c44 (by omega) (by omega)
            refine lv_aload_n hx hb dX5_agrees_49 rfl (lv_at hl 2 rfl) ?_
            refine lv_aload_n hx hb dX5_agrees_50 rfl (lv_at hl 1 rfl) ?_
            refine z_mv (va_runV (As := [.ref H1.size]) (rest := []) hfix (zcX5_bringBack l D cI cR H8 b 0 n (jf ((rN n me lo c e (rd, tk, g) k).2.2) me lo c) bf0 (zn e) (nm ((rN n me lo c e (rd, tk, g) k).1) ((rN n me lo c e (rd, tk, g) k).2.1)) H1.size (jf g me lo c) (nm rd tk) hM10 hK911 (by omega)) (cwV 1 hts gX5_agrees_X5_bringBack rfl rfl rfl (by decide +kernel) ⟨Nat.le_of_ble_eq_true rfl, Nat.le_of_ble_eq_true rfl⟩) (z_kpreV hKw hK hK hM10 (ci := 5) (q0 := 0) rfl rfl rfl) rfl rfl hl.1 rfl (lv_room (Nat.le_of_ble_eq_true rfl)) dX5_agrees_51 ⟨Nat.le_of_ble_eq_true rfl, Nat.le_of_ble_eq_true rfl⟩) hS (fun q _ h => by simp only [zF] at h ⊢; omega) (fun q h => by simp only [zF] at h ⊢; omega) (fun H20 lo21 hB hz1 hk1 hS => ?_)
            have hz : H.size ≤ H20.size := by have h9 := hB.2; omega
            have hM22 : va_P D vwCl (zMo cI b 0 n (jf g me lo c) bf0 (zn e) (nm rd tk)) H20 := hB.1
            have hK23 := zKp_kept hK911 (fun q h1 h2 h3 => hk1 q h1 (by simp only [zF]; omega))
            refine lv_iload_n hx hb dX5_agrees_54 rfl (lv_at hl 0 rfl) ?_
            refine z_toi (y := (zo (fs (same n me lo c e (rd, tk, g)) 201))) (by rw [fs_mono (fs_y hi12_1 (same_y ((dw_same _ n).mp c25))) (by omega)]; rfl) ?_
            refine W.widen (k := 3) (n := 124) (by omega) (by omega) ?_
            exact z_iretM (⟨⟨_, hM22⟩, hz⟩) hx hb hr hlocks hS dX5_agrees_55
          · have c44 := z_nle (a := dw (rN n me lo c e (rd, tk, g) k).2.2 n) (b := 1) c44 (by omega) (by omega)
            exact absurd c25 (Nat.not_le.mpr c44)
        · have c25 := z_nle (a := dw (rN n me lo c e (rd, tk, g) k).2.2 n) (b := 1) c25 (by omega) (by omega)
          refine lv_aload_n hx hb dX5_agrees_28 rfl (lv_at hl 2 rfl) ?_
          refine z_mv (va_runV (As := []) (rest := []) hfix (zcX5_roundOn l D cI H8 b 0 n ((rN n me lo c e (rd, tk, g) k).2.2) me lo c bf0 e ((rN n me lo c e (rd, tk, g) k).1) ((rN n me lo c e (rd, tk, g) k).2.1) hM10 hI (zJ_rN hI (t := (rd, tk, g)) hZ k)) (cwV 0 hts gX5_agrees_X5_roundOn rfl rfl rfl (by decide +kernel) ⟨Nat.le_of_ble_eq_true rfl, Nat.le_of_ble_eq_true rfl⟩) (z_preV hK hK1 hM10 (ci := 5) (q0 := 0) rfl rfl rfl) rfl rfl hl.1 rfl (lv_room (Nat.le_of_ble_eq_true rfl)) dX5_agrees_29 ⟨Nat.le_of_ble_eq_true rfl, Nat.le_of_ble_eq_true rfl⟩) hS (fun q _ h => by simp only [zF] at h ⊢; omega) (fun q h => by simp only [zF] at h ⊢; omega) (fun H24 lo25 hB hz1 hk1 hS => ?_)
          have hz : H.size ≤ H24.size := by have h9 := hB.2; omega
          have hM26 : va_P D vwCl (zMo cI b 0 n (jf ((rO n me lo c e (((rN n me lo c e (rd, tk, g) k).1), ((rN n me lo c e (rd, tk, g) k).2.1), ((rN n me lo c e (rd, tk, g) k).2.2))).2.2) me lo c) (jf ((rN n me lo c e (rd, tk, g) k).2.2) me lo c) (zn e) (nm ((rO n me lo c e (((rN n me lo c e (rd, tk, g) k).1), ((rN n me lo c e (rd, tk, g) k).2.1), ((rN n me lo c e (rd, tk, g) k).2.2))).1) ((rO n me lo c e (((rN n me lo c e (rd, tk, g) k).1), ((rN n me lo c e (rd, tk, g) k).2.1), ((rN n me lo c e (rd, tk, g) k).2.2))).2.1))) H24 := hB.1
          have hK27 := zKp_kept hK911 (fun q h1 h2 h3 => hk1 q h1 (by simp only [zF]; omega))
          refine lv_iinc (v := (nI (k + 1))) (lv' := [(2, .int (nI (k + 1))), (1, .ref H1.size), (0, .ref b)]) hx hb dX5_agrees_32 hl (k := 0) rfl (nI_1 _) (by decide) rfl (fun ls hl => ?_)
          refine lv_goto (tgt := 12) hx hb dX5_agrees_35 (by decide) ?_
          exact ih (k + 1) (jf ((rN n me lo c e (rd, tk, g) k).2.2) me lo c) (by omega) (by omega) (fs_n hi12_1 (same_n (fun h9 => Nat.not_le.mpr c25 ((dw_same _ n).mpr h9)))) _ (rfl) _ _ (hM26) (hK27) hz hS _ (lv_sub hl [0, 1, 2] rfl)
  exact loop12 _ 0 bf (Nat.lt_succ_self _) (by omega) (rfl) _ (rfl) _ _ hM6 hK97 hz hS _ (lv_sub hl [0, 1, 2] rfl)
set_option maxHeartbeats 4000000 in
set_option maxRecDepth 100000 in
/-- advise returns -/
theorem zcX5_advise_k (l : Launch) (D : va_G) (cI : ClassId) (cR : ClassId) (H : Heap) (b : Nat) (tn : Int32) (n : Nat) (g : zG) (me : Nat → Int32) (lo : Nat → Int32) (c : Nat → Nat) (bf : Nat → Int32) (e : Nat → Nat) (rd : Int32) (tk : Int32) (w : Nat) (r : Nat) (hM : va_P D vwCl (zMo cI b tn n (jf g me lo c) bf (zn e) (nm rd tk)) H) (hI : zI n me lo c e) (hZ : zJ n g) (hw : w ≤ 9999) (hr1 : 1 ≤ r) (hr2 : r ≤ 40) : Met l yX5_advise wsX5_advise ({ frames := 5, cells := 15, slots := 208, locals := 111 } : Room) (zPk D [(cI, .int), (cR, .array .int)] H [.ref b, .int (nI w), .int (nI r)]) (zM (fun H1 => (∃ bf9 : Nat → Int32, va_P D vwCl (zMo cI b 0 n (jf g me lo c) bf9 (zn e) (nm rd tk)) H1) ∧ H.size ≤ H1.size) (some (.int ((av (vw n me lo c e rd tk g (nI w) r) n).1))) (fun q => zF b (b + 5) q ∨ H.size ≤ q)) 15 208 (fun q => zF b (b + 5) q ∨ H.size ≤ q) := by
  refine z_kenter (cc := cX5_advise) (maxL := 8) (ret := (some .int)) (by decide) rfl (Nat.le_of_ble_eq_true rfl) ?_
  intro pg ev s m args below meth cd hfix hr hlocks hname hK hHs hKw ls hl
  have hK1 : va_K D vwCl [(cI, .int)] s := hK.sub [0] rfl
  obtain ⟨hx, hb, hml, hown, hts⟩ := id hfix
  have hl : lv_has ls 8 [(0, .ref b), (1, .int (nI w)), (2, .int (nI r))] := hl
  have hS : va_S (fun q => zF b (b + 5) q ∨ H.size ≤ q) s.heap H [] := by rw [hHs]; exact va_S.rf
  have hz : H.size ≤ H.size := Nat.le_refl _
  have hinX5 : ∀ w ∈ wsX50, w ∈ wsX5_advise := by decide +kernel
  have hn := zI_n hI
  refine lv_aload_n hx hb dX5_advise_0 rfl (lv_at hl 0 rfl) ?_
  refine lv_iconst (v := 0) hx hb dX5_advise_1 (by decide) ?_
  refine z_put (D := D) (ci := 5) (v := .int 0) (ty := .int) (C := RX5) (T := TX5) (N := 6) hx hb hts hinX5 tyX5 tyX5_ok nmX5 hown hK hM (by simp only [zF]; omega) hS 0 rfl rfl 0 (by decide) (hts _ (List.mem_of_getElem? (i := 1) rfl)) (fun _ h9 => h9) rfl (by decide +kernel) rfl rfl (Nat.le_of_ble_eq_true rfl) dX5_advise_2 (fun H1 lo2 hP1 hz1 hk1 hS => ?_)
  have hz : H.size ≤ H1.size := by omega
  have hM3 : va_P D vwCl (zMo cI b 0 n (jf g me lo c) bf (zn e) (nm rd tk)) H1 := z_set zMo_c hM 0 rfl hP1 (fun q _ h => hk1 q h)
  refine lv_iload_n hx hb dX5_advise_5 rfl (lv_at hl 1 rfl) ?_
  refine z_ki (va_runS (As := [.int (nI w)]) (rest := []) hfix (zcX5_isWord l D cI H1 (nI w) ) (va_cwS 1 hts gX5_advise_X5_isWord rfl rfl rfl (by decide +kernel) ⟨Nat.le_of_ble_eq_true rfl, Nat.le_of_ble_eq_true rfl⟩) (z_preS hK1) rfl rfl hl.1 rfl (lv_room (Nat.le_of_ble_eq_true rfl)) dX5_advise_6 ⟨by omega, by omega⟩) ?_
  refine lv_if_eq (tgt := 22) hx hb dX5_advise_9 (by decide) (fun c9 => ?_) (fun c9 => ?_)
  · have c9 := zb_0 c9
    exact absurd (z_in (a := 0) (b := 9999) (Nat.zero_le _) hw (by omega)) c9
  · have c9 := zb_1 c9
    refine lv_iload_n hx hb dX5_advise_12 rfl (lv_at hl 2 rfl) ?_
    refine lv_iconst (v := 1) hx hb dX5_advise_13 (by decide) ?_
    refine lv_bipush (v := 40) hx hb dX5_advise_14 (by decide) ?_
    refine z_ki (va_runS (As := [.int (nI r), .int 1, .int 40]) (rest := []) hfix (zcX5_isIn l D cI H1 (nI r) 1 40 ) (va_cwS 3 hts gX5_advise_X5_isIn rfl rfl rfl (by decide +kernel) ⟨Nat.le_of_ble_eq_true rfl, Nat.le_of_ble_eq_true rfl⟩) (z_preS hK1) rfl rfl hl.1 rfl (lv_room (Nat.le_of_ble_eq_true rfl)) dX5_advise_16 ⟨by omega, by omega⟩) ?_
    refine lv_if_ne (tgt := 28) hx hb dX5_advise_19 (by decide) (fun c19 => ?_) (fun c19 => ?_)
    · have c19 := zb_1 c19
      refine lv_aload_n hx hb dX5_advise_28 rfl (lv_at hl 0 rfl) ?_
      refine z_mr (va_runV (As := []) (rest := []) hfix (zcX5_kept l D cI cR H1 b 0 n g me lo c bf e rd tk hM3) (cwV 0 hts gX5_advise_X5_kept rfl rfl rfl (by decide +kernel) ⟨Nat.le_of_ble_eq_true rfl, Nat.le_of_ble_eq_true rfl⟩) (z_kpreV hKw hK hK hM3 (ci := 5) (q0 := 0) rfl rfl rfl) rfl rfl hl.1 rfl (lv_room (Nat.le_of_ble_eq_true rfl)) dX5_advise_29 ⟨Nat.le_of_ble_eq_true rfl, Nat.le_of_ble_eq_true rfl⟩) hS (fun q h9 h => by have h8 : H1.size ≤ q := h; omega) (fun q h => by have h8 : H1.size ≤ q := h; simp only [zF]; omega) (fun H4 lo5 hB hz1 hk1 hS => ?_)
      have hlt : b + 4 < H1.size := vx_lt hM3 (k := 4) rfl
      have hz : H.size ≤ H4.size := by have h9 := hB.2.2; omega
      have hM6 : va_P D vwCl (zMo cI b 0 n (jf g me lo c) bf (zn e) (nm rd tk)) H4 := hB.1
      have hK97 : va_P D vwCl (zKp cI cR H1.size (jf g me lo c) (nm rd tk)) H4 := hB.2.1
      refine lv_astore_n (lv' := [(3, .ref H1.size), (0, .ref b), (1, .int (nI w)), (2, .int (nI r))]) hx hb dX5_advise_32 rfl hl (by decide) rfl (fun ls hl => ?_)
      refine lv_iconst (v := (-1)) hx hb dX5_advise_33 (by decide) ?_
      refine lv_istore (lv' := [(4, .int (-1)), (3, .ref H1.size), (0, .ref b), (1, .int (nI w)), (2, .int (nI r))]) hx hb dX5_advise_34 hl (by decide) rfl (fun ls hl => ?_)
      refine lv_iconst (v := (-1)) hx hb dX5_advise_36 (by decide) ?_
      refine lv_istore (lv' := [(5, .int (-1)), (4, .int (-1)), (3, .ref H1.size), (0, .ref b), (1, .int (nI w)), (2, .int (nI r))]) hx hb dX5_advise_37 hl (by decide) rfl (fun ls hl => ?_)
      refine lv_iconst (v := 0) hx hb dX5_advise_39 (by decide) ?_
      refine lv_istore (lv' := [(6, .int 0), (5, .int (-1)), (4, .int (-1)), (3, .ref H1.size), (0, .ref b), (1, .int (nI w)), (2, .int (nI r))]) hx hb dX5_advise_40 hl (by decide) rfl (fun ls hl => ?_)
      have loop42 : ∀ (fu : Nat) (k : Nat) (bf0 : Nat → Int32), n - k < fu → (k ≤ n) → ∀ (x6 : Int32), x6 = (nI k) → ∀ (x5 : Int32), x5 = ((av (vw n me lo c e rd tk g (nI w) r) k).2) → ∀ (x4 : Int32), x4 = ((av (vw n me lo c e rd tk g (nI w) r) k).1) → ∀ (H8 : Heap) (lo9 : List Loc), va_P D vwCl (zMo cI b 0 n (jf g me lo c) bf0 (zn e) (nm rd tk)) H8 → va_P D vwCl (zKp cI cR H1.size (jf g me lo c) (nm rd tk)) H8 → H.size ≤ H8.size → va_S (fun q => zF b (b + 5) q ∨ H.size ≤ q) s.heap H8 lo9 → ∀ ls : Array Slot, lv_has ls 8 [(6, .int x6), (5, .int x5), (4, .int x4), (3, .ref H1.size), (0, .ref b), (1, .int (nI w)), (2, .int (nI r))] → W pg l ev ({ frames := 5, cells := 15, slots := 208, locals := 111 } : Room) s m args below meth cd H8 lo9 (3 + k) (124 + 7 * k) (MQ below (zM (fun H1 => (∃ bf9 : Nat → Int32, va_P D vwCl (zMo cI b 0 n (jf g me lo c) bf9 (zn e) (nm rd tk)) H1) ∧ H.size ≤ H1.size) (some (.int ((av (vw n me lo c e rd tk g (nI w) r) n).1))) (fun q => zF b (b + 5) q ∨ H.size ≤ q)) args s 15 208 (fun q => zF b (b + 5) q ∨ H.size ≤ q)) (F0 m 42 ls []) := by
        intro fu
        induction fu with
        | zero => intro k bf0 hfu; exact absurd hfu (Nat.not_lt_zero _)
        | succ fu ih =>
          intro k bf0 hfu hi42_0 x6 ex6 x5 ex5 x4 ex4 H8 lo9 hM10 hK911 hz hS ls hl
          subst ex6
          subst ex5
          subst ex4
          refine lv_iload hx hb dX5_advise_42 (lv_at hl 0 rfl) ?_
          refine lv_aload_n hx hb dX5_advise_44 rfl (lv_at hl 4 rfl) ?_
          refine va_get (D := D) (ci := 5) (v := .int (nI n)) (C := RX5) (T := TX5) (N := 6) hx hb hts hinX5 hown hK hM10 0 rfl rfl 1 (by decide) (hts _ (List.mem_of_getElem? (i := 2) rfl)) (fun _ h9 => h9) rfl dX5_advise_45 ?_
          refine lv_icmp_ge (tgt := 101) hx hb dX5_advise_48 (by decide) (fun c48 => ?_) (fun c48 => ?_)
          · have c48 := z_le (a := n) (b := k) c48 (by omega) (by omega)
            refine lv_iload hx hb dX5_advise_101 (lv_at hl 2 rfl) ?_
            refine z_toi (y := ((av (vw n me lo c e rd tk g (nI w) r) n).1)) (by rw [show n = k by omega]) ?_
            refine W.widen (k := 15) (n := 208) (by omega) (by omega) ?_
            exact z_iretM (⟨⟨_, hM10⟩, hz⟩) hx hb hr hlocks hS dX5_advise_103
          · have c48 := z_nle (a := n) (b := k) c48 (by omega) (by omega)
            refine lv_aload_n hx hb dX5_advise_51 rfl (lv_at hl 4 rfl) ?_
            refine lv_iload hx hb dX5_advise_52 (lv_at hl 0 rfl) ?_
            refine lv_iload_n hx hb dX5_advise_54 rfl (lv_at hl 5 rfl) ?_
            refine lv_bipush (v := 9) hx hb dX5_advise_55 (by decide) ?_
            refine z_mv (va_runV (As := [.int (nI k), .int (nI w), .int 9]) (rest := []) hfix (zcX5_say l D cI H8 b 0 n g me lo c bf0 e rd tk k (nI w) 9 hM10 (by omega)) (cwV 3 hts gX5_advise_X5_say rfl rfl rfl (by decide +kernel) ⟨Nat.le_of_ble_eq_true rfl, Nat.le_of_ble_eq_true rfl⟩) (z_preV hK hK1 hM10 (ci := 5) (q0 := 0) rfl rfl rfl) rfl rfl hl.1 rfl (lv_room (Nat.le_of_ble_eq_true rfl)) dX5_advise_57 ⟨by show 3 + k + 1 ≤ 15; omega, by show 124 + 7 * k + 7 ≤ 208; omega⟩) hS (fun q _ h => by simp only [zF] at h ⊢; omega) (fun q h => by simp only [zF] at h ⊢; omega) (fun H12 lo13 hB hz1 hk1 hS => ?_)
            have hz : H.size ≤ H12.size := by have h9 := hB.2; omega
            have hM14 : va_P D vwCl (zMo cI b 0 n (jf (wh g k (nI w) 9) me lo c) bf0 (zn e) (nm rd tk)) H12 := hB.1
            have hK15 := zKp_kept hK911 (fun q h1 h2 h3 => hk1 q h1 (by simp only [zF]; omega))
            refine lv_aload_n hx hb dX5_advise_60 rfl (lv_at hl 4 rfl) ?_
            refine lv_iload_n hx hb dX5_advise_61 rfl (lv_at hl 6 rfl) ?_
            refine z_mv (va_runV (As := [.int (nI r)]) (rest := []) hfix (zcX5_roundsOn l D cI H12 b 0 n (wh g k (nI w) 9) me lo c bf0 e rd tk r hM14 hI (zJ_wh hZ hw (s := 9) (by omega)) (by omega)) (cwV 1 hts gX5_advise_X5_roundsOn rfl rfl rfl (by decide +kernel) ⟨Nat.le_of_ble_eq_true rfl, Nat.le_of_ble_eq_true rfl⟩) (z_preV hK hK1 hM14 (ci := 5) (q0 := 0) rfl rfl rfl) rfl rfl hl.1 rfl (lv_room (Nat.le_of_ble_eq_true rfl)) dX5_advise_62 ⟨by show 3 + k + 1 + 0 ≤ 15; omega, by show 124 + 7 * k + 7 + 0 ≤ 208; omega⟩) hS (fun q _ h => by simp only [zF] at h ⊢; omega) (fun q h => by simp only [zF] at h ⊢; omega) (fun H16 lo17 hB hz1 hk1 hS => ?_)
            obtain ⟨⟨bf18, hB1⟩, hB2⟩ := hB
            have hz : H.size ≤ H16.size := by have h9 := hB2; omega
            have hM19 : va_P D vwCl (zMo cI b 0 n (jf ((rN n me lo c e (rd, tk, (wh g k (nI w) 9)) r).2.2) me lo c) bf18 (zn e) (nm ((rN n me lo c e (rd, tk, (wh g k (nI w) 9)) r).1) ((rN n me lo c e (rd, tk, (wh g k (nI w) 9)) r).2.1))) H16 := hB1
            have hK20 := zKp_kept hK15 (fun q h1 h2 h3 => hk1 q h1 (by simp only [zF]; omega))
            refine lv_aload_n hx hb dX5_advise_65 rfl (lv_at hl 4 rfl) ?_
            refine lv_iload_n hx hb dX5_advise_66 rfl (lv_at hl 5 rfl) ?_
            refine z_ki (va_runV (As := [.int (nI w)]) (rest := []) hfix (zcX5_votesFor l D cI H16 b 0 n ((rN n me lo c e (rd, tk, (wh g k (nI w) 9)) r).2.2) me lo c bf18 e ((rN n me lo c e (rd, tk, (wh g k (nI w) 9)) r).1) ((rN n me lo c e (rd, tk, (wh g k (nI w) 9)) r).2.1) (nI w) hM19 hI) (cwV 1 hts gX5_advise_X5_votesFor rfl rfl rfl (by decide +kernel) ⟨Nat.le_of_ble_eq_true rfl, Nat.le_of_ble_eq_true rfl⟩) (z_preV hK hK1 hM19 (ci := 5) (q0 := 0) rfl rfl rfl) rfl rfl hl.1 rfl (lv_room (Nat.le_of_ble_eq_true rfl)) dX5_advise_67 ⟨by show 3 + k + 1 + 0 ≤ 15; omega, by show 124 + 7 * k + 7 + 0 ≤ 208; omega⟩) ?_
            refine z_toi (y := nI (vw n me lo c e rd tk g (nI w) r k)) (rfl) ?_
            refine lv_istore (lv' := [(7, .int (nI (vw n me lo c e rd tk g (nI w) r k))), (6, .int (nI k)), (5, .int ((av (vw n me lo c e rd tk g (nI w) r) k).2)), (4, .int ((av (vw n me lo c e rd tk g (nI w) r) k).1)), (3, .ref H1.size), (0, .ref b), (1, .int (nI w)), (2, .int (nI r))]) hx hb dX5_advise_70 hl (by decide) rfl (fun ls hl => ?_)
            refine lv_aload_n hx hb dX5_advise_72 rfl (lv_at hl 5 rfl) ?_
            refine lv_aload_n hx hb dX5_advise_73 rfl (lv_at hl 4 rfl) ?_
            refine z_mv (va_runV (As := [.ref H1.size]) (rest := []) hfix (zcX5_bringBack l D cI cR H16 b 0 n (jf ((rN n me lo c e (rd, tk, (wh g k (nI w) 9)) r).2.2) me lo c) bf18 (zn e) (nm ((rN n me lo c e (rd, tk, (wh g k (nI w) 9)) r).1) ((rN n me lo c e (rd, tk, (wh g k (nI w) 9)) r).2.1)) H1.size (jf g me lo c) (nm rd tk) hM19 hK20 (by omega)) (cwV 1 hts gX5_advise_X5_bringBack rfl rfl rfl (by decide +kernel) ⟨Nat.le_of_ble_eq_true rfl, Nat.le_of_ble_eq_true rfl⟩) (z_kpreV hKw hK hK hM19 (ci := 5) (q0 := 0) rfl rfl rfl) rfl rfl hl.1 rfl (lv_room (Nat.le_of_ble_eq_true rfl)) dX5_advise_74 ⟨by show 3 + k + 1 + 0 ≤ 15; omega, by show 124 + 7 * k + 7 + 0 ≤ 208; omega⟩) hS (fun q _ h => by simp only [zF] at h ⊢; omega) (fun q h => by simp only [zF] at h ⊢; omega) (fun H21 lo22 hB hz1 hk1 hS => ?_)
            have hz : H.size ≤ H21.size := by have h9 := hB.2; omega
            have hM23 : va_P D vwCl (zMo cI b 0 n (jf g me lo c) bf18 (zn e) (nm rd tk)) H21 := hB.1
            have hK24 := zKp_kept hK20 (fun q h1 h2 h3 => hk1 q h1 (by simp only [zF]; omega))
            refine lv_iload hx hb dX5_advise_77 (lv_at hl 0 rfl) ?_
            refine lv_iload hx hb dX5_advise_79 (lv_at hl 2 rfl) ?_
            refine lv_icmp_gt (tgt := 87) hx hb dX5_advise_81 (by decide) (fun c81 => ?_) (fun c81 => ?_)
            · refine lv_iload hx hb dX5_advise_87 (lv_at hl 1 rfl) ?_
              refine lv_istore (lv' := [(4, .int (nI k)), (7, .int (nI (vw n me lo c e rd tk g (nI w) r k))), (6, .int (nI k)), (5, .int ((av (vw n me lo c e rd tk g (nI w) r) k).2)), (3, .ref H1.size), (0, .ref b), (1, .int (nI w)), (2, .int (nI r))]) hx hb dX5_advise_89 hl (by decide) rfl (fun ls hl => ?_)
              refine lv_iload hx hb dX5_advise_91 (lv_at hl 1 rfl) ?_
              refine lv_istore (lv' := [(5, .int (nI (vw n me lo c e rd tk g (nI w) r k))), (4, .int (nI k)), (7, .int (nI (vw n me lo c e rd tk g (nI w) r k))), (6, .int (nI k)), (3, .ref H1.size), (0, .ref b), (1, .int (nI w)), (2, .int (nI r))]) hx hb dX5_advise_93 hl (by decide) rfl (fun ls hl => ?_)
              refine lv_iinc (v := (nI (k + 1))) (lv' := [(6, .int (nI (k + 1))), (5, .int (nI (vw n me lo c e rd tk g (nI w) r k))), (4, .int (nI k)), (7, .int (nI (vw n me lo c e rd tk g (nI w) r k))), (3, .ref H1.size), (0, .ref b), (1, .int (nI w)), (2, .int (nI r))]) hx hb dX5_advise_95 hl (k := 3) rfl (nI_1 _) (by decide) rfl (fun ls hl => ?_)
              refine lv_goto (tgt := 42) hx hb dX5_advise_98 (by decide) ?_
              refine W.widen (k := 3 + (k + 1)) (n := 124 + 7 * (k + 1)) (by omega) (by omega) ?_
              exact ih (k + 1) bf18 (by omega) (by omega) _ (rfl) _ (by rw [av_gt (Int32.not_le.mpr c81)]) _ (by rw [av_gt (Int32.not_le.mpr c81)]) _ _ (hM23) (hK24) hz hS _ (lv_sub hl [0, 1, 2, 4, 5, 6, 7] rfl)
            · refine lv_goto (tgt := 95) hx hb dX5_advise_84 (by decide) ?_
              refine lv_iinc (v := (nI (k + 1))) (lv' := [(6, .int (nI (k + 1))), (7, .int (nI (vw n me lo c e rd tk g (nI w) r k))), (5, .int ((av (vw n me lo c e rd tk g (nI w) r) k).2)), (4, .int ((av (vw n me lo c e rd tk g (nI w) r) k).1)), (3, .ref H1.size), (0, .ref b), (1, .int (nI w)), (2, .int (nI r))]) hx hb dX5_advise_95 hl (k := 1) rfl (nI_1 _) (by decide) rfl (fun ls hl => ?_)
              refine lv_goto (tgt := 42) hx hb dX5_advise_98 (by decide) ?_
              refine W.widen (k := 3 + (k + 1)) (n := 124 + 7 * (k + 1)) (by omega) (by omega) ?_
              exact ih (k + 1) bf18 (by omega) (by omega) _ (rfl) _ (by rw [av_le (Int32.not_lt.mp c81)]) _ (by rw [av_le (Int32.not_lt.mp c81)]) _ _ (hM23) (hK24) hz hS _ (lv_sub hl [0, 2, 3, 4, 5, 6, 7] rfl)
      exact loop42 _ 0 bf (Nat.lt_succ_self _) (by omega) _ (rfl) _ (rfl) _ (rfl) _ _ hM6 hK97 hz hS _ (lv_sub hl [0, 1, 2, 3, 4, 5, 6] rfl)
    · have c19 := zb_0 c19
      exact absurd (z_in (a := 1) (b := 40) hr1 hr2 (by omega)) c19
set_option maxHeartbeats 4000000 in
set_option maxRecDepth 100000 in
/-- mean returns -/
theorem zcX5_mean_k (l : Launch) (D : va_G) (cI : ClassId) (H : Heap) (b : Nat) (tn : Int32) (n : Nat) (g : zG) (me : Nat → Int32) (lo : Nat → Int32) (c : Nat → Nat) (bf : Nat → Int32) (e : Nat → Nat) (rd : Int32) (tk : Int32) (hM : va_P D vwCl (zMo cI b tn n (jf g me lo c) bf (zn e) (nm rd tk)) H) (hI : zI n me lo c e) (hZ : zJ n g) : Met l yX5_mean wsX5_mean ({ frames := 3, cells := 0, slots := 0, locals := 68 } : Room) (zPc D [(cI, .int)] H [.ref b]) (zM (fun H1 => va_P D vwCl (zMo cI b 0 n (jf g me lo c) bf (zn e) (nm rd tk)) H1 ∧ H1.size = H.size) (some (.double (zmean n g))) (zF b (b + 5))) 0 0 (zF b (b + 5)) := by
  refine z_enter (cc := cX5_mean) (maxL := 1) (ret := (some .double)) (by decide) rfl (Nat.le_of_ble_eq_true rfl) ?_
  intro pg ev s m args below meth cd hfix hr hlocks hname hK hHs ls hl
  obtain ⟨hx, hb, hml, hown, hts⟩ := id hfix
  have hl : lv_has ls 1 [(0, .ref b)] := hl
  have hS : va_S (zF b (b + 5)) s.heap H [] := by rw [hHs]; exact va_S.rf
  have hz : H.size = H.size := rfl
  have hinX5 : ∀ w ∈ wsX50, w ∈ wsX5_mean := by decide +kernel
  have hn := zI_n hI
  refine lv_aload_n hx hb dX5_mean_0 rfl (lv_at hl 0 rfl) ?_
  refine lv_iconst (v := 0) hx hb dX5_mean_1 (by decide) ?_
  refine z_put (D := D) (ci := 5) (v := .int 0) (ty := .int) (C := RX5) (T := TX5) (N := 6) hx hb hts hinX5 tyX5 tyX5_ok nmX5 hown hK hM (by simp only [zF]; omega) hS 0 rfl rfl 0 (by decide) (hts _ (List.mem_of_getElem? (i := 1) rfl)) (fun _ h9 => h9) rfl (by decide +kernel) rfl rfl (Nat.le_of_ble_eq_true rfl) dX5_mean_2 (fun H1 lo2 hP1 hz1 hk1 hS => ?_)
  have hz : H1.size = H.size := by omega
  have hM3 : va_P D vwCl (zMo cI b 0 n (jf g me lo c) bf (zn e) (nm rd tk)) H1 := z_set zMo_c hM 0 rfl hP1 (fun q _ h => hk1 q h)
  refine lv_aload_n hx hb dX5_mean_5 rfl (lv_at hl 0 rfl) ?_
  refine va_get (D := D) (ci := 5) (v := .int (nI n)) (C := RX5) (T := TX5) (N := 6) hx hb hts hinX5 hown hK hM3 0 rfl rfl 1 (by decide) (hts _ (List.mem_of_getElem? (i := 2) rfl)) (fun _ h9 => h9) rfl dX5_mean_6 ?_
  refine lv_if_ne (tgt := 16) hx hb dX5_mean_9 (by decide) (fun c9 => ?_) (fun c9 => ?_)
  · have c9 := z_ne (a := n) (b := 0) c9 (by omega) (by omega)
    refine lv_aload_n hx hb dX5_mean_16 rfl (lv_at hl 0 rfl) ?_
    refine lv_iconst (v := 4) hx hb dX5_mean_17 (by decide) ?_
    refine z_ki (va_runV (As := [.int 4]) (rest := []) hfix (zcX5_counted l D cI H1 b 0 n g me lo c bf e rd tk 4 hM3 hI (by omega)) (cwV 1 hts gX5_mean_X5_counted rfl rfl rfl (by decide +kernel) ⟨Nat.le_of_ble_eq_true rfl, Nat.le_of_ble_eq_true rfl⟩) (z_preV hK hK hM3 (ci := 5) (q0 := 0) rfl rfl rfl) rfl rfl hl.1 rfl (lv_room (Nat.le_of_ble_eq_true rfl)) dX5_mean_18 ⟨by omega, by omega⟩) ?_
    refine lv_i2d hx hb dX5_mean_21 ?_
    refine lv_aload_n hx hb dX5_mean_22 rfl (lv_at hl 0 rfl) ?_
    refine va_get (D := D) (ci := 5) (v := .int (nI n)) (C := RX5) (T := TX5) (N := 6) hx hb hts hinX5 hown hK hM3 0 rfl rfl 1 (by decide) (hts _ (List.mem_of_getElem? (i := 2) rfl)) (fun _ h9 => h9) rfl dX5_mean_23 ?_
    refine lv_i2d hx hb dX5_mean_26 ?_
    refine lv_ddiv hx hb dX5_mean_27 (zd_nan2 hn (by omega) hZ) ?_
    refine z_tod (y := zmean n g) (by simp only [zmean]; rw [if_neg (by omega)]; rfl) ?_
    exact z_dretM (⟨hM3, hz⟩) hx hb hr hlocks hS dX5_mean_28
  · have c9 := z_eq (a := n) (b := 0) c9 (by omega) (by omega)
    refine lv_dconst0 hx hb dX5_mean_12 ?_
    refine lv_goto (tgt := 28) hx hb dX5_mean_13 (by decide) ?_
    refine z_tod (y := zmean n g) (by simp only [zmean]; rw [if_pos (by omega)]) ?_
    exact z_dretM (⟨hM3, hz⟩) hx hb hr hlocks hS dX5_mean_28
set_option maxHeartbeats 4000000 in
set_option maxRecDepth 100000 in
/-- verdict returns -/
theorem zcX5_verdict_k (l : Launch) (D : va_G) (cI : ClassId) (H : Heap) (b : Nat) (tn : Int32) (n : Nat) (g : zG) (me : Nat → Int32) (lo : Nat → Int32) (c : Nat → Nat) (bf : Nat → Int32) (e : Nat → Nat) (rd : Int32) (tk : Int32) (hM : va_P D vwCl (zMo cI b tn n (jf g me lo c) bf (zn e) (nm rd tk)) H) (hI : zI n me lo c e) (hZ : zJ n g) : Met l yX5_verdict wsX5_verdict ({ frames := 3, cells := 0, slots := 0, locals := 66 } : Room) (zPc D [(cI, .int)] H [.ref b]) (zM (fun H1 => va_P D vwCl (zMo cI b 0 n (jf g me lo c) bf (zn e) (nm rd tk)) H1 ∧ H1.size = H.size) (some (.int (zw (vd g n n)))) (zF b (b + 5))) 0 0 (zF b (b + 5)) := by
  refine z_enter (cc := cX5_verdict) (maxL := 3) (ret := (some .int)) (by decide) rfl (Nat.le_of_ble_eq_true rfl) ?_
  intro pg ev s m args below meth cd hfix hr hlocks hname hK hHs ls hl
  obtain ⟨hx, hb, hml, hown, hts⟩ := id hfix
  have hl : lv_has ls 3 [(0, .ref b)] := hl
  have hS : va_S (zF b (b + 5)) s.heap H [] := by rw [hHs]; exact va_S.rf
  have hz : H.size = H.size := rfl
  have hinX5 : ∀ w ∈ wsX50, w ∈ wsX5_verdict := by decide +kernel
  have hn := zI_n hI
  refine lv_aload_n hx hb dX5_verdict_0 rfl (lv_at hl 0 rfl) ?_
  refine lv_iconst (v := 0) hx hb dX5_verdict_1 (by decide) ?_
  refine z_put (D := D) (ci := 5) (v := .int 0) (ty := .int) (C := RX5) (T := TX5) (N := 6) hx hb hts hinX5 tyX5 tyX5_ok nmX5 hown hK hM (by simp only [zF]; omega) hS 0 rfl rfl 0 (by decide) (hts _ (List.mem_of_getElem? (i := 1) rfl)) (fun _ h9 => h9) rfl (by decide +kernel) rfl rfl (Nat.le_of_ble_eq_true rfl) dX5_verdict_2 (fun H1 lo2 hP1 hz1 hk1 hS => ?_)
  have hz : H1.size = H.size := by omega
  have hM3 : va_P D vwCl (zMo cI b 0 n (jf g me lo c) bf (zn e) (nm rd tk)) H1 := z_set zMo_c hM 0 rfl hP1 (fun q _ h => hk1 q h)
  refine lv_iconst (v := (-1)) hx hb dX5_verdict_5 (by decide) ?_
  refine lv_istore_n (lv' := [(1, .int (-1)), (0, .ref b)]) hx hb dX5_verdict_6 rfl hl (by decide) rfl (fun ls hl => ?_)
  refine lv_iconst (v := 0) hx hb dX5_verdict_7 (by decide) ?_
  refine lv_istore_n (lv' := [(2, .int 0), (1, .int (-1)), (0, .ref b)]) hx hb dX5_verdict_8 rfl hl (by decide) rfl (fun ls hl => ?_)
  have loop9 : ∀ (fu : Nat) (k : Nat), n - k < fu → (k ≤ n) → ∀ (x2 : Int32), x2 = (nI k) → ∀ (x1 : Int32), x1 = (zw (vd g n k)) → ∀ ls : Array Slot, lv_has ls 3 [(2, .int x2), (1, .int x1), (0, .ref b)] → W pg l ev ({ frames := 3, cells := 0, slots := 0, locals := 66 } : Room) s m args below meth cd H1 lo2 0 0 (MQ below (zM (fun H1 => va_P D vwCl (zMo cI b 0 n (jf g me lo c) bf (zn e) (nm rd tk)) H1 ∧ H1.size = H.size) (some (.int (zw (vd g n n)))) (zF b (b + 5))) args s 0 0 (zF b (b + 5))) (F0 m 9 ls []) := by
    intro fu
    induction fu with
    | zero => intro k hfu; exact absurd hfu (Nat.not_lt_zero _)
    | succ fu ih =>
      intro k hfu hi9_0 x2 ex2 x1 ex1 ls hl
      subst ex2
      subst ex1
      have hv1 := vt_le g (wd g k) n
      refine lv_iload_n hx hb dX5_verdict_9 rfl (lv_at hl 0 rfl) ?_
      refine lv_aload_n hx hb dX5_verdict_10 rfl (lv_at hl 2 rfl) ?_
      refine va_get (D := D) (ci := 5) (v := .int (nI n)) (C := RX5) (T := TX5) (N := 6) hx hb hts hinX5 hown hK hM3 0 rfl rfl 1 (by decide) (hts _ (List.mem_of_getElem? (i := 2) rfl)) (fun _ h9 => h9) rfl dX5_verdict_11 ?_
      refine lv_icmp_ge (tgt := 51) hx hb dX5_verdict_14 (by decide) (fun c14 => ?_) (fun c14 => ?_)
      · have c14 := z_le (a := n) (b := k) c14 (by omega) (by omega)
        refine lv_iload_n hx hb dX5_verdict_51 rfl (lv_at hl 1 rfl) ?_
        refine z_toi (y := (zw (vd g n n))) (by rw [show vd g n k = vd g n n by rw [show k = n by omega]]) ?_
        exact z_iretM (⟨hM3, hz⟩) hx hb hr hlocks hS dX5_verdict_52
      · have c14 := z_nle (a := n) (b := k) c14 (by omega) (by omega)
        refine lv_iload_n hx hb dX5_verdict_17 rfl (lv_at hl 1 rfl) ?_
        refine lv_iconst (v := (-1)) hx hb dX5_verdict_18 (by decide) ?_
        refine lv_icmp_eq (tgt := 39) hx hb dX5_verdict_19 (by decide) (fun c19 => ?_) (fun c19 => ?_)
        · have c19 := (zw_m1 hZ (by omega)).mp c19
          refine lv_aload_n hx hb dX5_verdict_39 rfl (lv_at hl 2 rfl) ?_
          refine lv_iload_n hx hb dX5_verdict_40 rfl (lv_at hl 0 rfl) ?_
          refine z_ki (va_runV (As := [.int (nI k)]) (rest := []) hfix (zcX5_word l D cI H1 b 0 n g me lo c bf e rd tk k hM3 (by omega)) (cwV 1 hts gX5_verdict_X5_word rfl rfl rfl (by decide +kernel) ⟨Nat.le_of_ble_eq_true rfl, Nat.le_of_ble_eq_true rfl⟩) (z_preV hK hK hM3 (ci := 5) (q0 := 0) rfl rfl rfl) rfl rfl hl.1 rfl (lv_room (Nat.le_of_ble_eq_true rfl)) dX5_verdict_41 ⟨by omega, by omega⟩) ?_
          refine lv_istore_n (lv' := [(1, .int (wd g k)), (2, .int (nI k)), (0, .ref b)]) hx hb dX5_verdict_44 rfl hl (by decide) rfl (fun ls hl => ?_)
          refine lv_iinc (v := (nI (k + 1))) (lv' := [(2, .int (nI (k + 1))), (1, .int (wd g k)), (0, .ref b)]) hx hb dX5_verdict_45 hl (k := 1) rfl (nI_1 _) (by decide) rfl (fun ls hl => ?_)
          refine lv_goto (tgt := 9) hx hb dX5_verdict_48 (by decide) ?_
          exact ih (k + 1) (by omega) (by omega) _ (rfl) _ (by rw [vdr_n c19]; rfl) _ (lv_sub hl [0, 1, 2] rfl)
        · obtain ⟨b9, hvb⟩ : ∃ b9, vd g n k = some b9 := Option.ne_none_iff_exists'.mp (fun h => c19 ((zw_m1 hZ (by omega)).mpr h))
          have hv2 := vt_le g b9 n
          have hl : lv_has ls 3 [(2, .int (nI k)), (1, .int b9), (0, .ref b)] := by rw [hvb] at hl; exact hl
          refine lv_aload_n hx hb dX5_verdict_22 rfl (lv_at hl 2 rfl) ?_
          refine lv_aload_n hx hb dX5_verdict_23 rfl (lv_at hl 2 rfl) ?_
          refine lv_iload_n hx hb dX5_verdict_24 rfl (lv_at hl 0 rfl) ?_
          refine z_ki (va_runV (As := [.int (nI k)]) (rest := [.ref b]) hfix (zcX5_word l D cI H1 b 0 n g me lo c bf e rd tk k hM3 (by omega)) (cwV 1 hts gX5_verdict_X5_word rfl rfl rfl (by decide +kernel) ⟨Nat.le_of_ble_eq_true rfl, Nat.le_of_ble_eq_true rfl⟩) (z_preV hK hK hM3 (ci := 5) (q0 := 0) rfl rfl rfl) rfl rfl hl.1 rfl (lv_room (Nat.le_of_ble_eq_true rfl)) dX5_verdict_25 ⟨by omega, by omega⟩) ?_
          refine z_ki (va_runV (As := [.int (wd g k)]) (rest := []) hfix (zcX5_votesFor l D cI H1 b 0 n g me lo c bf e rd tk (wd g k) hM3 hI) (cwV 1 hts gX5_verdict_X5_votesFor rfl rfl rfl (by decide +kernel) ⟨Nat.le_of_ble_eq_true rfl, Nat.le_of_ble_eq_true rfl⟩) (z_preV hK hK hM3 (ci := 5) (q0 := 0) rfl rfl rfl) rfl rfl hl.1 rfl (lv_room (Nat.le_of_ble_eq_true rfl)) dX5_verdict_28 ⟨by omega, by omega⟩) ?_
          refine lv_aload_n hx hb dX5_verdict_31 rfl (lv_at hl 2 rfl) ?_
          refine lv_iload_n hx hb dX5_verdict_32 rfl (lv_at hl 1 rfl) ?_
          refine z_ki (va_runV (As := [.int b9]) (rest := [.int (nI (vt g (wd g k) n))]) hfix (zcX5_votesFor l D cI H1 b 0 n g me lo c bf e rd tk b9 hM3 hI) (cwV 1 hts gX5_verdict_X5_votesFor rfl rfl rfl (by decide +kernel) ⟨Nat.le_of_ble_eq_true rfl, Nat.le_of_ble_eq_true rfl⟩) (z_preV hK hK hM3 (ci := 5) (q0 := 0) rfl rfl rfl) rfl rfl hl.1 rfl (lv_room (Nat.le_of_ble_eq_true rfl)) dX5_verdict_33 ⟨by omega, by omega⟩) ?_
          refine lv_icmp_le (tgt := 45) hx hb dX5_verdict_36 (by decide) (fun c36 => ?_) (fun c36 => ?_)
          · have c36 := z_le (a := vt g (wd g k) n) (b := vt g b9 n) c36 (by omega) (by omega)
            refine lv_iinc (v := (nI (k + 1))) (lv' := [(2, .int (nI (k + 1))), (1, .int b9), (0, .ref b)]) hx hb dX5_verdict_45 hl (k := 0) rfl (nI_1 _) (by decide) rfl (fun ls hl => ?_)
            refine lv_goto (tgt := 9) hx hb dX5_verdict_48 (by decide) ?_
            exact ih (k + 1) (by omega) (by omega) _ (rfl) _ (by rw [vdr_le hvb c36, hvb]; rfl) _ (lv_sub hl [0, 1, 2] rfl)
          · have c36 := z_nle (a := vt g (wd g k) n) (b := vt g b9 n) c36 (by omega) (by omega)
            refine lv_aload_n hx hb dX5_verdict_39 rfl (lv_at hl 2 rfl) ?_
            refine lv_iload_n hx hb dX5_verdict_40 rfl (lv_at hl 0 rfl) ?_
            refine z_ki (va_runV (As := [.int (nI k)]) (rest := []) hfix (zcX5_word l D cI H1 b 0 n g me lo c bf e rd tk k hM3 (by omega)) (cwV 1 hts gX5_verdict_X5_word rfl rfl rfl (by decide +kernel) ⟨Nat.le_of_ble_eq_true rfl, Nat.le_of_ble_eq_true rfl⟩) (z_preV hK hK hM3 (ci := 5) (q0 := 0) rfl rfl rfl) rfl rfl hl.1 rfl (lv_room (Nat.le_of_ble_eq_true rfl)) dX5_verdict_41 ⟨by omega, by omega⟩) ?_
            refine lv_istore_n (lv' := [(1, .int (wd g k)), (2, .int (nI k)), (0, .ref b)]) hx hb dX5_verdict_44 rfl hl (by decide) rfl (fun ls hl => ?_)
            refine lv_iinc (v := (nI (k + 1))) (lv' := [(2, .int (nI (k + 1))), (1, .int (wd g k)), (0, .ref b)]) hx hb dX5_verdict_45 hl (k := 1) rfl (nI_1 _) (by decide) rfl (fun ls hl => ?_)
            refine lv_goto (tgt := 9) hx hb dX5_verdict_48 (by decide) ?_
            exact ih (k + 1) (by omega) (by omega) _ (rfl) _ (by rw [vdr_gt hvb (Nat.not_le.mpr c36)]; rfl) _ (lv_sub hl [0, 1, 2] rfl)
  exact loop9 _ 0 (Nat.lt_succ_self _) (by omega) _ (rfl) _ (rfl) _ (lv_sub hl [0, 1, 2] rfl)
set_option maxHeartbeats 4000000 in
set_option maxRecDepth 100000 in
/-- digest returns -/
theorem zcX5_digest_k (l : Launch) (D : va_G) (cI : ClassId) (H : Heap) (b : Nat) (tn : Int32) (n : Nat) (g : zG) (me : Nat → Int32) (lo : Nat → Int32) (c : Nat → Nat) (bf : Nat → Int32) (e : Nat → Nat) (rd : Int32) (tk : Int32) (hM : va_P D vwCl (zMo cI b tn n (jf g me lo c) bf (zn e) (nm rd tk)) H) (hI : zI n me lo c e) (hZ : zJ n g) : Met l yX5_digest wsX5_digest ({ frames := 3, cells := 0, slots := 0, locals := 69 } : Room) (zPc D [(cI, .int)] H [.ref b]) (zM (fun H1 => va_P D vwCl (zMo cI b 0 n (jf g me lo c) bf (zn e) (nm rd tk)) H1 ∧ H1.size = H.size) (some (.long (dg n (rd, tk, g) me lo c e))) (zF b (b + 5))) 0 0 (zF b (b + 5)) := by
  refine z_enter (cc := cX5_digest) (maxL := 6) (ret := (some .long)) (by decide) rfl (Nat.le_of_ble_eq_true rfl) ?_
  intro pg ev s m args below meth cd hfix hr hlocks hname hK hHs ls hl
  obtain ⟨hx, hb, hml, hown, hts⟩ := id hfix
  have hl : lv_has ls 6 [(0, .ref b)] := hl
  have hS : va_S (zF b (b + 5)) s.heap H [] := by rw [hHs]; exact va_S.rf
  have hz : H.size = H.size := rfl
  have hinX5 : ∀ w ∈ wsX50, w ∈ wsX5_digest := by decide +kernel
  have hn := zI_n hI
  refine lv_aload_n hx hb dX5_digest_0 rfl (lv_at hl 0 rfl) ?_
  refine lv_iconst (v := 0) hx hb dX5_digest_1 (by decide) ?_
  refine z_put (D := D) (ci := 5) (v := .int 0) (ty := .int) (C := RX5) (T := TX5) (N := 6) hx hb hts hinX5 tyX5 tyX5_ok nmX5 hown hK hM (by simp only [zF]; omega) hS 0 rfl rfl 0 (by decide) (hts _ (List.mem_of_getElem? (i := 1) rfl)) (fun _ h9 => h9) rfl (by decide +kernel) rfl rfl (Nat.le_of_ble_eq_true rfl) dX5_digest_2 (fun H1 lo2 hP1 hz1 hk1 hS => ?_)
  have hz : H1.size = H.size := by omega
  have hM3 : va_P D vwCl (zMo cI b 0 n (jf g me lo c) bf (zn e) (nm rd tk)) H1 := z_set zMo_c hM 0 rfl hP1 (fun q _ h => hk1 q h)
  refine lv_ldc2 hx hb hown (hts _ (List.mem_of_getElem? (i := 2) rfl)) dX5_digest_5 ?_
  refine lv_lstore_n (lv' := [(1, .long 911), (0, .ref b)]) hx hb dX5_digest_8 rfl hl (by decide) rfl (fun ls hl => ?_)
  refine lv_iconst (v := 0) hx hb dX5_digest_9 (by decide) ?_
  refine lv_istore_n (lv' := [(3, .int 0), (1, .long 911), (0, .ref b)]) hx hb dX5_digest_10 rfl hl (by decide) rfl (fun ls hl => ?_)
  have loop11 : ∀ (fu : Nat) (k1 : Nat), 6 - k1 < fu → (k1 ≤ 6) → ∀ (x3 : Int32), x3 = (nI k1) → ∀ (x1 : Int64), x1 = mx (tj n (rd, tk, g)) 911 k1 → ∀ ls : Array Slot, lv_has ls 6 [(3, .int x3), (1, .long x1), (0, .ref b)] → W pg l ev ({ frames := 3, cells := 0, slots := 0, locals := 69 } : Room) s m args below meth cd H1 lo2 0 0 (MQ below (zM (fun H1 => va_P D vwCl (zMo cI b 0 n (jf g me lo c) bf (zn e) (nm rd tk)) H1 ∧ H1.size = H.size) (some (.long (dg n (rd, tk, g) me lo c e))) (zF b (b + 5))) args s 0 0 (zF b (b + 5))) (F0 m 11 ls []) := by
    intro fu
    induction fu with
    | zero => intro k1 hfu; exact absurd hfu (Nat.not_lt_zero _)
    | succ fu ih =>
      intro k1 hfu hi11_0 x3 ex3 x1 ex1 ls hl
      subst ex3
      subst ex1
      refine lv_iload_n hx hb dX5_digest_11 rfl (lv_at hl 0 rfl) ?_
      refine lv_bipush (v := 6) hx hb dX5_digest_12 (by decide) ?_
      refine lv_icmp_ge (tgt := 36) hx hb dX5_digest_14 (by decide) (fun c14 => ?_) (fun c14 => ?_)
      · have c14 := z_le (a := 6) (b := k1) c14 (by omega) (by omega)
        refine lv_iconst (v := 0) hx hb dX5_digest_36 (by decide) ?_
        refine lv_istore_n (lv' := [(3, .int 0), (1, .long (mx (tj n (rd, tk, g)) 911 k1)), (0, .ref b)]) hx hb dX5_digest_37 rfl hl (by decide) rfl (fun ls hl => ?_)
        have loop38 : ∀ (fu : Nat) (k2 : Nat), n - k2 < fu → (k2 ≤ n) → ∀ (x3 : Int32), x3 = (nI k2) → ∀ (x1 : Int64), x1 = dA n g me lo c e (mx (tj n (rd, tk, g)) 911 6) k2 → ∀ ls : Array Slot, lv_has ls 6 [(3, .int x3), (1, .long x1), (0, .ref b)] → W pg l ev ({ frames := 3, cells := 0, slots := 0, locals := 69 } : Room) s m args below meth cd H1 lo2 0 0 (MQ below (zM (fun H1 => va_P D vwCl (zMo cI b 0 n (jf g me lo c) bf (zn e) (nm rd tk)) H1 ∧ H1.size = H.size) (some (.long (dg n (rd, tk, g) me lo c e))) (zF b (b + 5))) args s 0 0 (zF b (b + 5))) (F0 m 38 ls []) := by
          intro fu
          induction fu with
          | zero => intro k2 hfu; exact absurd hfu (Nat.not_lt_zero _)
          | succ fu ih38 =>
            intro k2 hfu hi38_0 x3 ex3 x1 ex1 ls hl
            subst ex3
            subst ex1
            refine lv_iload_n hx hb dX5_digest_38 rfl (lv_at hl 0 rfl) ?_
            refine lv_aload_n hx hb dX5_digest_39 rfl (lv_at hl 2 rfl) ?_
            refine va_get (D := D) (ci := 5) (v := .int (nI n)) (C := RX5) (T := TX5) (N := 6) hx hb hts hinX5 hown hK hM3 0 rfl rfl 1 (by decide) (hts _ (List.mem_of_getElem? (i := 4) rfl)) (fun _ h9 => h9) rfl dX5_digest_40 ?_
            refine lv_icmp_ge (tgt := 170) hx hb dX5_digest_43 (by decide) (fun c43 => ?_) (fun c43 => ?_)
            · have c43 := z_le (a := n) (b := k2) c43 (by omega) (by omega)
              refine lv_lload_n hx hb dX5_digest_170 rfl (lv_at hl 1 rfl) ?_
              refine z_tol (y := dg n (rd, tk, g) me lo c e) (by simp only [dg]; rw [show dA n g me lo c e (mx (tj n (rd, tk, g)) 911 6) k2 = dA n g me lo c e (mx (tj n (rd, tk, g)) 911 6) n by rw [show k2 = n by omega]]) ?_
              exact z_lretM (⟨hM3, hz⟩) hx hb hr hlocks hS dX5_digest_171
            · have c43 := z_nle (a := n) (b := k2) c43 (by omega) (by omega)
              refine lv_iconst (v := 0) hx hb dX5_digest_46 (by decide) ?_
              refine lv_istore (lv' := [(4, .int 0), (3, .int (nI k2)), (1, .long (dA n g me lo c e (mx (tj n (rd, tk, g)) 911 6) k2)), (0, .ref b)]) hx hb dX5_digest_47 hl (by decide) rfl (fun ls hl => ?_)
              have loop49 : ∀ (fu : Nat) (m1 : Nat), 7 - m1 < fu → (m1 ≤ 7) → ∀ (x4 : Int32), x4 = (nI m1) → ∀ (x1 : Int64), x1 = mx (tp n g me lo c e k2) (dA n g me lo c e (mx (tj n (rd, tk, g)) 911 6) k2) m1 → ∀ ls : Array Slot, lv_has ls 6 [(4, .int x4), (3, .int (nI k2)), (1, .long x1), (0, .ref b)] → W pg l ev ({ frames := 3, cells := 0, slots := 0, locals := 69 } : Room) s m args below meth cd H1 lo2 0 0 (MQ below (zM (fun H1 => va_P D vwCl (zMo cI b 0 n (jf g me lo c) bf (zn e) (nm rd tk)) H1 ∧ H1.size = H.size) (some (.long (dg n (rd, tk, g) me lo c e))) (zF b (b + 5))) args s 0 0 (zF b (b + 5))) (F0 m 49 ls []) := by
                intro fu
                induction fu with
                | zero => intro m1 hfu; exact absurd hfu (Nat.not_lt_zero _)
                | succ fu ih49 =>
                  intro m1 hfu hi49_0 x4 ex4 x1 ex1 ls hl
                  subst ex4
                  subst ex1
                  refine lv_iload hx hb dX5_digest_49 (lv_at hl 0 rfl) ?_
                  refine lv_bipush (v := 7) hx hb dX5_digest_51 (by decide) ?_
                  refine lv_icmp_ge (tgt := 77) hx hb dX5_digest_53 (by decide) (fun c53 => ?_) (fun c53 => ?_)
                  · have c53 := z_le (a := 7) (b := m1) c53 (by omega) (by omega)
                    refine lv_iconst (v := 0) hx hb dX5_digest_77 (by decide) ?_
                    refine lv_istore (lv' := [(4, .int 0), (3, .int (nI k2)), (1, .long (mx (tp n g me lo c e k2) (dA n g me lo c e (mx (tj n (rd, tk, g)) 911 6) k2) m1)), (0, .ref b)]) hx hb dX5_digest_78 hl (by decide) rfl (fun ls hl => ?_)
                    have loop80 : ∀ (fu : Nat) (w2 : Nat), 2 - w2 < fu → (w2 ≤ 2) → ∀ (x4 : Int32), x4 = (nI w2) → ∀ (x1 : Int64), x1 = zdh g k2 (mx (tp n g me lo c e k2) (dA n g me lo c e (mx (tj n (rd, tk, g)) 911 6) k2) 7) w2 → ∀ ls : Array Slot, lv_has ls 6 [(4, .int x4), (3, .int (nI k2)), (1, .long x1), (0, .ref b)] → W pg l ev ({ frames := 3, cells := 0, slots := 0, locals := 69 } : Room) s m args below meth cd H1 lo2 0 0 (MQ below (zM (fun H1 => va_P D vwCl (zMo cI b 0 n (jf g me lo c) bf (zn e) (nm rd tk)) H1 ∧ H1.size = H.size) (some (.long (dg n (rd, tk, g) me lo c e))) (zF b (b + 5))) args s 0 0 (zF b (b + 5))) (F0 m 80 ls []) := by
                      intro fu
                      induction fu with
                      | zero => intro w2 hfu; exact absurd hfu (Nat.not_lt_zero _)
                      | succ fu ih80 =>
                        intro w2 hfu hi80_0 x4 ex4 x1 ex1 ls hl
                        subst ex4
                        subst ex1
                        refine lv_iload hx hb dX5_digest_80 (lv_at hl 0 rfl) ?_
                        refine lv_iconst (v := 1) hx hb dX5_digest_82 (by decide) ?_
                        refine lv_icmp_gt (tgt := 124) hx hb dX5_digest_83 (by decide) (fun c83 => ?_) (fun c83 => ?_)
                        · have c83 := z_lt (a := 1) (b := w2) c83 (by omega) (by omega)
                          refine lv_iconst (v := 0) hx hb dX5_digest_124 (by decide) ?_
                          refine lv_istore (lv' := [(4, .int 0), (3, .int (nI k2)), (1, .long (zdh g k2 (mx (tp n g me lo c e k2) (dA n g me lo c e (mx (tj n (rd, tk, g)) 911 6) k2) 7) w2)), (0, .ref b)]) hx hb dX5_digest_125 hl (by decide) rfl (fun ls hl => ?_)
                          have loop127 : ∀ (fu : Nat) (k4 : Nat), c k2 - k4 < fu → (k4 ≤ c k2) → ∀ (x4 : Int32), x4 = (nI k4) → ∀ (x1 : Int64), x1 = mx (fun k => nI (e (k2 * 4 + k))) (zdh g k2 (mx (tp n g me lo c e k2) (dA n g me lo c e (mx (tj n (rd, tk, g)) 911 6) k2) 7) 2) k4 → ∀ ls : Array Slot, lv_has ls 6 [(4, .int x4), (3, .int (nI k2)), (1, .long x1), (0, .ref b)] → W pg l ev ({ frames := 3, cells := 0, slots := 0, locals := 69 } : Room) s m args below meth cd H1 lo2 0 0 (MQ below (zM (fun H1 => va_P D vwCl (zMo cI b 0 n (jf g me lo c) bf (zn e) (nm rd tk)) H1 ∧ H1.size = H.size) (some (.long (dg n (rd, tk, g) me lo c e))) (zF b (b + 5))) args s 0 0 (zF b (b + 5))) (F0 m 127 ls []) := by
                            intro fu
                            induction fu with
                            | zero => intro k4 hfu; exact absurd hfu (Nat.not_lt_zero _)
                            | succ fu ih127 =>
                              intro k4 hfu hi127_0 x4 ex4 x1 ex1 ls hl
                              subst ex4
                              subst ex1
                              have hc5 := zI_c hI k2
                              refine lv_iload hx hb dX5_digest_127 (lv_at hl 0 rfl) ?_
                              refine lv_aload_n hx hb dX5_digest_129 rfl (lv_at hl 3 rfl) ?_
                              refine lv_iload_n hx hb dX5_digest_130 rfl (lv_at hl 1 rfl) ?_
                              refine lv_bipush (v := 9) hx hb dX5_digest_131 (by decide) ?_
                              refine z_ki (va_runV (As := [.int (nI k2), .int 9]) (rest := [.int (nI k4)]) hfix (zcX5_ju l D cI H1 b 0 n (jf g me lo c) bf (zn e) (nm rd tk) k2 9 hM3 (by omega) (by omega)) (cwV 2 hts gX5_digest_X5_ju rfl rfl rfl (by decide +kernel) ⟨Nat.le_of_ble_eq_true rfl, Nat.le_of_ble_eq_true rfl⟩) (z_preV hK hK hM3 (ci := 5) (q0 := 0) rfl rfl rfl) rfl rfl hl.1 rfl (lv_room (Nat.le_of_ble_eq_true rfl)) dX5_digest_133 ⟨by omega, by omega⟩) ?_
                              refine z_toi (y := (nI (c k2))) (jf_9) ?_
                              refine lv_icmp_ge (tgt := 164) hx hb dX5_digest_136 (by decide) (fun c136 => ?_) (fun c136 => ?_)
                              · have c136 := z_le (a := c k2) (b := k4) c136 (by omega) (by omega)
                                refine lv_iinc (v := (nI (k2 + 1))) (lv' := [(3, .int (nI (k2 + 1))), (4, .int (nI k4)), (1, .long (mx (fun k => nI (e (k2 * 4 + k))) (zdh g k2 (mx (tp n g me lo c e k2) (dA n g me lo c e (mx (tj n (rd, tk, g)) 911 6) k2) 7) 2) k4)), (0, .ref b)]) hx hb dX5_digest_164 hl (k := 1) rfl (nI_1 _) (by decide) rfl (fun ls hl => ?_)
                                refine lv_goto (tgt := 38) hx hb dX5_digest_167 (by decide) ?_
                                exact ih38 (k2 + 1) (by omega) (by omega) _ (rfl) _ (by rw [show k4 = c k2 by omega]; rfl) _ (lv_sub hl [0, 2, 3] rfl)
                              · have c136 := z_nle (a := c k2) (b := k4) c136 (by omega) (by omega)
                                refine lv_lload_n hx hb dX5_digest_139 rfl (lv_at hl 2 rfl) ?_
                                refine lv_ldc2 hx hb hown (hts _ (List.mem_of_getElem? (i := 3) rfl)) dX5_digest_140 ?_
                                refine lv_lmul hx hb dX5_digest_143 ?_
                                refine lv_aload_n hx hb dX5_digest_144 rfl (lv_at hl 3 rfl) ?_
                                refine va_get (D := D) (ci := 5) (v := .ref (b + 3)) (C := RX5) (T := TX5) (N := 6) hx hb hts hinX5 hown hK hM3 0 rfl rfl 4 (by decide) (hts _ (List.mem_of_getElem? (i := 5) rfl)) (fun _ h9 => h9) rfl dX5_digest_145 ?_
                                refine lv_iconst (v := 4) hx hb dX5_digest_148 (by decide) ?_
                                refine lv_iload_n hx hb dX5_digest_149 rfl (lv_at hl 1 rfl) ?_
                                refine lv_imul hx hb dX5_digest_150 ?_
                                refine z_toi (y := nI (k2 * 4)) ((pk_mul 4 k2).trans (congrArg nI (Nat.mul_comm _ _))) ?_
                                refine lv_iload hx hb dX5_digest_151 (lv_at hl 0 rfl) ?_
                                refine lv_iadd hx hb dX5_digest_153 ?_
                                refine z_toi (y := nI (k2 * 4 + k4)) (nI_add (k2 * 4) k4) ?_
                                refine z_iald (a := (b + 3)) (n := 48) (f := (zn e)) (j := (k2 * 4 + k4)) hx hb hK hM3 3 0 rfl rfl rfl (by omega) (by omega) dX5_digest_154 ?_
                                refine lv_i2l (v := (nI (e (k2 * 4 + k4))).toInt64) hx hb dX5_digest_155 rfl ?_
                                refine lv_ladd hx hb dX5_digest_156 ?_
                                refine lv_lstore_n (lv' := [(1, .long (((mx (fun k => nI (e (k2 * 4 + k))) (zdh g k2 (mx (tp n g me lo c e k2) (dA n g me lo c e (mx (tj n (rd, tk, g)) 911 6) k2) 7) 2) k4) * 31) + ((nI (e (k2 * 4 + k4))).toInt64))), (4, .int (nI k4)), (3, .int (nI k2)), (0, .ref b)]) hx hb dX5_digest_157 rfl hl (by decide) rfl (fun ls hl => ?_)
                                refine lv_iinc (v := (nI (k4 + 1))) (lv' := [(4, .int (nI (k4 + 1))), (1, .long (((mx (fun k => nI (e (k2 * 4 + k))) (zdh g k2 (mx (tp n g me lo c e k2) (dA n g me lo c e (mx (tj n (rd, tk, g)) 911 6) k2) 7) 2) k4) * 31) + ((nI (e (k2 * 4 + k4))).toInt64))), (3, .int (nI k2)), (0, .ref b)]) hx hb dX5_digest_158 hl (k := 1) rfl (nI_1 _) (by decide) rfl (fun ls hl => ?_)
                                refine lv_goto (tgt := 127) hx hb dX5_digest_161 (by decide) ?_
                                exact ih127 (k4 + 1) (by omega) (by omega) _ (rfl) _ (rfl) _ (lv_sub hl [0, 2, 1, 3] rfl)
                          exact loop127 _ 0 (Nat.lt_succ_self _) (by omega) _ (rfl) _ (by rw [show w2 = 2 by omega]; rfl) _ (lv_sub hl [0, 1, 2, 3] rfl)
                        · have c83 := z_nlt (a := 1) (b := w2) c83 (by omega) (by omega)
                          refine lv_iconst (v := 0) hx hb dX5_digest_86 (by decide) ?_
                          refine lv_istore (lv' := [(5, .int 0), (4, .int (nI w2)), (3, .int (nI k2)), (1, .long (zdh g k2 (mx (tp n g me lo c e k2) (dA n g me lo c e (mx (tj n (rd, tk, g)) 911 6) k2) 7) w2)), (0, .ref b)]) hx hb dX5_digest_87 hl (by decide) rfl (fun ls hl => ?_)
                          have loop89 : ∀ (fu : Nat) (q3 : Nat), 3 - q3 < fu → (q3 ≤ 3) → ∀ (x5 : Int32), x5 = (nI q3) → ∀ (x1 : Int64), x1 = mx (th g k2 w2) (zdh g k2 (mx (tp n g me lo c e k2) (dA n g me lo c e (mx (tj n (rd, tk, g)) 911 6) k2) 7) w2) q3 → ∀ ls : Array Slot, lv_has ls 6 [(5, .int x5), (4, .int (nI w2)), (3, .int (nI k2)), (1, .long x1), (0, .ref b)] → W pg l ev ({ frames := 3, cells := 0, slots := 0, locals := 69 } : Room) s m args below meth cd H1 lo2 0 0 (MQ below (zM (fun H1 => va_P D vwCl (zMo cI b 0 n (jf g me lo c) bf (zn e) (nm rd tk)) H1 ∧ H1.size = H.size) (some (.long (dg n (rd, tk, g) me lo c e))) (zF b (b + 5))) args s 0 0 (zF b (b + 5))) (F0 m 89 ls []) := by
                            intro fu
                            induction fu with
                            | zero => intro q3 hfu; exact absurd hfu (Nat.not_lt_zero _)
                            | succ fu ih89 =>
                              intro q3 hfu hi89_0 x5 ex5 x1 ex1 ls hl
                              subst ex5
                              subst ex1
                              refine lv_iload hx hb dX5_digest_89 (lv_at hl 0 rfl) ?_
                              refine lv_iconst (v := 3) hx hb dX5_digest_91 (by decide) ?_
                              refine lv_icmp_ge (tgt := 118) hx hb dX5_digest_92 (by decide) (fun c92 => ?_) (fun c92 => ?_)
                              · have c92 := z_le (a := 3) (b := q3) c92 (by omega) (by omega)
                                refine lv_iinc (v := (nI (w2 + 1))) (lv' := [(4, .int (nI (w2 + 1))), (5, .int (nI q3)), (3, .int (nI k2)), (1, .long (mx (th g k2 w2) (zdh g k2 (mx (tp n g me lo c e k2) (dA n g me lo c e (mx (tj n (rd, tk, g)) 911 6) k2) 7) w2) q3)), (0, .ref b)]) hx hb dX5_digest_118 hl (k := 1) rfl (nI_1 _) (by decide) rfl (fun ls hl => ?_)
                                refine lv_goto (tgt := 80) hx hb dX5_digest_121 (by decide) ?_
                                exact ih80 (w2 + 1) (by omega) (by omega) _ (rfl) _ (by rw [show q3 = 3 by omega]; rfl) _ (lv_sub hl [0, 2, 3, 4] rfl)
                              · have c92 := z_nle (a := 3) (b := q3) c92 (by omega) (by omega)
                                refine lv_lload_n hx hb dX5_digest_95 rfl (lv_at hl 3 rfl) ?_
                                refine lv_ldc2 hx hb hown (hts _ (List.mem_of_getElem? (i := 3) rfl)) dX5_digest_96 ?_
                                refine lv_lmul hx hb dX5_digest_99 ?_
                                refine lv_aload_n hx hb dX5_digest_100 rfl (lv_at hl 4 rfl) ?_
                                refine lv_iload_n hx hb dX5_digest_101 rfl (lv_at hl 2 rfl) ?_
                                refine lv_iload hx hb dX5_digest_102 (lv_at hl 1 rfl) ?_
                                refine lv_iload hx hb dX5_digest_104 (lv_at hl 0 rfl) ?_
                                refine z_ki (va_runV (As := [.int (nI k2), .int (nI w2), .int (nI q3)]) (rest := [.long ((mx (th g k2 w2) (zdh g k2 (mx (tp n g me lo c e k2) (dA n g me lo c e (mx (tj n (rd, tk, g)) 911 6) k2) 7) w2) q3) * 31)]) hfix (zcX5_halfTold l D cI H1 b 0 n g me lo c bf e rd tk k2 w2 q3 hM3 (by omega) (by omega) (by omega)) (cwV 3 hts gX5_digest_X5_halfTold rfl rfl rfl (by decide +kernel) ⟨Nat.le_of_ble_eq_true rfl, Nat.le_of_ble_eq_true rfl⟩) (z_preV hK hK hM3 (ci := 5) (q0 := 0) rfl rfl rfl) rfl rfl hl.1 rfl (lv_room (Nat.le_of_ble_eq_true rfl)) dX5_digest_106 ⟨by omega, by omega⟩) ?_
                                refine lv_i2l (v := (th g k2 w2 q3).toInt64) hx hb dX5_digest_109 rfl ?_
                                refine lv_ladd hx hb dX5_digest_110 ?_
                                refine lv_lstore_n (lv' := [(1, .long (((mx (th g k2 w2) (zdh g k2 (mx (tp n g me lo c e k2) (dA n g me lo c e (mx (tj n (rd, tk, g)) 911 6) k2) 7) w2) q3) * 31) + ((th g k2 w2 q3).toInt64))), (5, .int (nI q3)), (4, .int (nI w2)), (3, .int (nI k2)), (0, .ref b)]) hx hb dX5_digest_111 rfl hl (by decide) rfl (fun ls hl => ?_)
                                refine lv_iinc (v := (nI (q3 + 1))) (lv' := [(5, .int (nI (q3 + 1))), (1, .long (((mx (th g k2 w2) (zdh g k2 (mx (tp n g me lo c e k2) (dA n g me lo c e (mx (tj n (rd, tk, g)) 911 6) k2) 7) w2) q3) * 31) + ((th g k2 w2 q3).toInt64))), (4, .int (nI w2)), (3, .int (nI k2)), (0, .ref b)]) hx hb dX5_digest_112 hl (k := 1) rfl (nI_1 _) (by decide) rfl (fun ls hl => ?_)
                                refine lv_goto (tgt := 89) hx hb dX5_digest_115 (by decide) ?_
                                exact ih89 (q3 + 1) (by omega) (by omega) _ (rfl) _ (rfl) _ (lv_sub hl [0, 2, 3, 1, 4] rfl)
                          exact loop89 _ 0 (Nat.lt_succ_self _) (by omega) _ (rfl) _ (rfl) _ (lv_sub hl [0, 1, 2, 3, 4] rfl)
                    exact loop80 _ 0 (Nat.lt_succ_self _) (by omega) _ (rfl) _ (by rw [show m1 = 7 by omega]; rfl) _ (lv_sub hl [0, 1, 2, 3] rfl)
                  · have c53 := z_nle (a := 7) (b := m1) c53 (by omega) (by omega)
                    refine lv_lload_n hx hb dX5_digest_56 rfl (lv_at hl 2 rfl) ?_
                    refine lv_ldc2 hx hb hown (hts _ (List.mem_of_getElem? (i := 3) rfl)) dX5_digest_57 ?_
                    refine lv_lmul hx hb dX5_digest_60 ?_
                    refine lv_aload_n hx hb dX5_digest_61 rfl (lv_at hl 3 rfl) ?_
                    refine lv_iload_n hx hb dX5_digest_62 rfl (lv_at hl 1 rfl) ?_
                    refine lv_iload hx hb dX5_digest_63 (lv_at hl 0 rfl) ?_
                    refine z_ki (va_runV (As := [.int (nI k2), .int (nI m1)]) (rest := [.long ((mx (tp n g me lo c e k2) (dA n g me lo c e (mx (tj n (rd, tk, g)) 911 6) k2) m1) * 31)]) hfix (zcX5_parrotTold l D cI H1 b 0 n g me lo c bf e rd tk k2 m1 hM3 hI (by omega) (by omega)) (cwV 2 hts gX5_digest_X5_parrotTold rfl rfl rfl (by decide +kernel) ⟨Nat.le_of_ble_eq_true rfl, Nat.le_of_ble_eq_true rfl⟩) (z_preV hK hK hM3 (ci := 5) (q0 := 0) rfl rfl rfl) rfl rfl hl.1 rfl (lv_room (Nat.le_of_ble_eq_true rfl)) dX5_digest_65 ⟨by omega, by omega⟩) ?_
                    refine lv_i2l (v := (tp n g me lo c e k2 m1).toInt64) hx hb dX5_digest_68 rfl ?_
                    refine lv_ladd hx hb dX5_digest_69 ?_
                    refine lv_lstore_n (lv' := [(1, .long (((mx (tp n g me lo c e k2) (dA n g me lo c e (mx (tj n (rd, tk, g)) 911 6) k2) m1) * 31) + ((tp n g me lo c e k2 m1).toInt64))), (4, .int (nI m1)), (3, .int (nI k2)), (0, .ref b)]) hx hb dX5_digest_70 rfl hl (by decide) rfl (fun ls hl => ?_)
                    refine lv_iinc (v := (nI (m1 + 1))) (lv' := [(4, .int (nI (m1 + 1))), (1, .long (((mx (tp n g me lo c e k2) (dA n g me lo c e (mx (tj n (rd, tk, g)) 911 6) k2) m1) * 31) + ((tp n g me lo c e k2 m1).toInt64))), (3, .int (nI k2)), (0, .ref b)]) hx hb dX5_digest_71 hl (k := 1) rfl (nI_1 _) (by decide) rfl (fun ls hl => ?_)
                    refine lv_goto (tgt := 49) hx hb dX5_digest_74 (by decide) ?_
                    exact ih49 (m1 + 1) (by omega) (by omega) _ (rfl) _ (rfl) _ (lv_sub hl [0, 2, 1, 3] rfl)
              exact loop49 _ 0 (Nat.lt_succ_self _) (by omega) _ (rfl) _ (rfl) _ (lv_sub hl [0, 1, 2, 3] rfl)
        exact loop38 _ 0 (Nat.lt_succ_self _) (by omega) _ (rfl) _ (by rw [show (6 : Nat) = k1 by omega]; rfl) _ (lv_sub hl [0, 1, 2] rfl)
      · have c14 := z_nle (a := 6) (b := k1) c14 (by omega) (by omega)
        refine lv_lload_n hx hb dX5_digest_17 rfl (lv_at hl 1 rfl) ?_
        refine lv_ldc2 hx hb hown (hts _ (List.mem_of_getElem? (i := 3) rfl)) dX5_digest_18 ?_
        refine lv_lmul hx hb dX5_digest_21 ?_
        refine lv_aload_n hx hb dX5_digest_22 rfl (lv_at hl 2 rfl) ?_
        refine lv_iload_n hx hb dX5_digest_23 rfl (lv_at hl 0 rfl) ?_
        refine z_ki (va_runV (As := [.int (nI k1)]) (rest := [.long ((mx (tj n (rd, tk, g)) 911 k1) * 31)]) hfix (zcX5_counted l D cI H1 b 0 n g me lo c bf e rd tk k1 hM3 hI (by omega)) (cwV 1 hts gX5_digest_X5_counted rfl rfl rfl (by decide +kernel) ⟨Nat.le_of_ble_eq_true rfl, Nat.le_of_ble_eq_true rfl⟩) (z_preV hK hK hM3 (ci := 5) (q0 := 0) rfl rfl rfl) rfl rfl hl.1 rfl (lv_room (Nat.le_of_ble_eq_true rfl)) dX5_digest_24 ⟨by omega, by omega⟩) ?_
        refine lv_i2l (v := (tj n (rd, tk, g) k1).toInt64) hx hb dX5_digest_27 rfl ?_
        refine lv_ladd hx hb dX5_digest_28 ?_
        refine lv_lstore_n (lv' := [(1, .long (((mx (tj n (rd, tk, g)) 911 k1) * 31) + ((tj n (rd, tk, g) k1).toInt64))), (3, .int (nI k1)), (0, .ref b)]) hx hb dX5_digest_29 rfl hl (by decide) rfl (fun ls hl => ?_)
        refine lv_iinc (v := (nI (k1 + 1))) (lv' := [(3, .int (nI (k1 + 1))), (1, .long (((mx (tj n (rd, tk, g)) 911 k1) * 31) + ((tj n (rd, tk, g) k1).toInt64))), (0, .ref b)]) hx hb dX5_digest_30 hl (k := 1) rfl (nI_1 _) (by decide) rfl (fun ls hl => ?_)
        refine lv_goto (tgt := 11) hx hb dX5_digest_33 (by decide) ?_
        exact ih (k1 + 1) (by omega) (by omega) _ (rfl) _ (rfl) _ (lv_sub hl [0, 1, 2] rfl)
  exact loop11 _ 0 (Nat.lt_succ_self _) (by omega) _ (rfl) _ (rfl) _ (lv_sub hl [0, 1, 2] rfl)
set_option maxHeartbeats 4000000 in
set_option maxRecDepth 100000 in
/-- source returns -/
theorem zcX5_source_k (l : Launch) (D : va_G) (cI : ClassId) (H : Heap) (b : Nat) (tn : Int32) (n : Nat) (g : zG) (me : Nat → Int32) (lo : Nat → Int32) (c : Nat → Nat) (bf : Nat → Int32) (e : Nat → Nat) (rd : Int32) (tk : Int32) (p : Nat) (hM : va_P D vwCl (zMo cI b tn n (jf g me lo c) bf (zn e) (nm rd tk)) H) (hI : zI n me lo c e) (hp : p < n) : Met l yX5_source wsX5_source ({ frames := 2, cells := 0, slots := 0, locals := 43 } : Room) (zPc D [(cI, .int)] H [.ref b, .int (nI p)]) (zM (fun H1 => va_P D vwCl (zMo cI b 0 n (jf g me lo c) bf (zn e) (nm rd tk)) H1 ∧ H1.size = H.size) (some (.int (fd n c e (os e p (c p)) 12))) (zF b (b + 5))) 0 0 (zF b (b + 5)) := by
  refine z_enter (cc := cX5_source) (maxL := 6) (ret := (some .int)) (by decide) rfl (Nat.le_of_ble_eq_true rfl) ?_
  intro pg ev s m args below meth cd hfix hr hlocks hname hK hHs ls hl
  obtain ⟨hx, hb, hml, hown, hts⟩ := id hfix
  have hl : lv_has ls 6 [(0, .ref b), (1, .int (nI p))] := hl
  have hS : va_S (zF b (b + 5)) s.heap H [] := by rw [hHs]; exact va_S.rf
  have hz : H.size = H.size := rfl
  have hinX5 : ∀ w ∈ wsX50, w ∈ wsX5_source := by decide +kernel
  have hn := zI_n hI
  have hc4 := zI_c hI p
  refine lv_aload_n hx hb dX5_source_0 rfl (lv_at hl 0 rfl) ?_
  refine lv_iconst (v := 0) hx hb dX5_source_1 (by decide) ?_
  refine z_put (D := D) (ci := 5) (v := .int 0) (ty := .int) (C := RX5) (T := TX5) (N := 6) hx hb hts hinX5 tyX5 tyX5_ok nmX5 hown hK hM (by simp only [zF]; omega) hS 0 rfl rfl 0 (by decide) (hts _ (List.mem_of_getElem? (i := 1) rfl)) (fun _ h9 => h9) rfl (by decide +kernel) rfl rfl (Nat.le_of_ble_eq_true rfl) dX5_source_2 (fun H1 lo2 hP1 hz1 hk1 hS => ?_)
  have hz : H1.size = H.size := by omega
  have hM3 : va_P D vwCl (zMo cI b 0 n (jf g me lo c) bf (zn e) (nm rd tk)) H1 := z_set zMo_c hM 0 rfl hP1 (fun q _ h => hk1 q h)
  refine lv_aload_n hx hb dX5_source_5 rfl (lv_at hl 0 rfl) ?_
  refine lv_iload_n hx hb dX5_source_6 rfl (lv_at hl 1 rfl) ?_
  refine z_ki (va_runV (As := [.int (nI p)]) (rest := []) hfix (zcX5_isParrot l D cI H1 b 0 n (jf g me lo c) bf (zn e) (nm rd tk) (nI p) hM3) (cwV 1 hts gX5_source_X5_isParrot rfl rfl rfl (by decide +kernel) ⟨Nat.le_of_ble_eq_true rfl, Nat.le_of_ble_eq_true rfl⟩) (z_preV hK hK hM3 (ci := 5) (q0 := 0) rfl rfl rfl) rfl rfl hl.1 rfl (lv_room (Nat.le_of_ble_eq_true rfl)) dX5_source_7 ⟨by omega, by omega⟩) ?_
  refine lv_if_ne (tgt := 19) hx hb dX5_source_10 (by decide) (fun c10 => ?_) (fun c10 => ?_)
  · have c10 := zb_1 c10
    refine lv_iconst (v := 0) hx hb dX5_source_19 (by decide) ?_
    refine lv_istore_n (lv' := [(2, .int 0), (0, .ref b), (1, .int (nI p))]) hx hb dX5_source_20 rfl hl (by decide) rfl (fun ls hl => ?_)
    refine lv_iconst (v := 0) hx hb dX5_source_21 (by decide) ?_
    refine lv_istore_n (lv' := [(3, .int 0), (2, .int 0), (0, .ref b), (1, .int (nI p))]) hx hb dX5_source_22 rfl hl (by decide) rfl (fun ls hl => ?_)
    have loop23 : ∀ (fu : Nat) (k : Nat), c p - k < fu → (k ≤ c p) → ∀ (x3 : Int32), x3 = (nI k) → ∀ (x2 : Int32), x2 = (os e p k) → ∀ ls : Array Slot, lv_has ls 6 [(3, .int x3), (2, .int x2), (0, .ref b), (1, .int (nI p))] → W pg l ev ({ frames := 2, cells := 0, slots := 0, locals := 43 } : Room) s m args below meth cd H1 lo2 0 0 (MQ below (zM (fun H1 => va_P D vwCl (zMo cI b 0 n (jf g me lo c) bf (zn e) (nm rd tk)) H1 ∧ H1.size = H.size) (some (.int (fd n c e (os e p (c p)) 12))) (zF b (b + 5))) args s 0 0 (zF b (b + 5))) (F0 m 23 ls []) := by
      intro fu
      induction fu with
      | zero => intro k hfu; exact absurd hfu (Nat.not_lt_zero _)
      | succ fu ih =>
        intro k hfu hi23_0 x3 ex3 x2 ex2 ls hl
        subst ex3
        subst ex2
        have hek : e (p * 4 + k) = e (p * 4 + k) := rfl
        refine lv_iload_n hx hb dX5_source_23 rfl (lv_at hl 0 rfl) ?_
        refine lv_aload_n hx hb dX5_source_24 rfl (lv_at hl 2 rfl) ?_
        refine lv_iload_n hx hb dX5_source_25 rfl (lv_at hl 3 rfl) ?_
        refine lv_bipush (v := 9) hx hb dX5_source_26 (by decide) ?_
        refine z_ki (va_runV (As := [.int (nI p), .int 9]) (rest := [.int (nI k)]) hfix (zcX5_ju l D cI H1 b 0 n (jf g me lo c) bf (zn e) (nm rd tk) p 9 hM3 (by omega) (by omega)) (cwV 2 hts gX5_source_X5_ju rfl rfl rfl (by decide +kernel) ⟨Nat.le_of_ble_eq_true rfl, Nat.le_of_ble_eq_true rfl⟩) (z_preV hK hK hM3 (ci := 5) (q0 := 0) rfl rfl rfl) rfl rfl hl.1 rfl (lv_room (Nat.le_of_ble_eq_true rfl)) dX5_source_28 ⟨by omega, by omega⟩) ?_
        refine z_toi (y := (nI (c p))) (jf_9) ?_
        refine lv_icmp_ge (tgt := 55) hx hb dX5_source_31 (by decide) (fun c31 => ?_) (fun c31 => ?_)
        · have c31 := z_le (a := c p) (b := k) c31 (by omega) (by omega)
          refine lv_iconst (v := 0) hx hb dX5_source_55 (by decide) ?_
          refine lv_istore_n (lv' := [(3, .int 0), (2, .int (os e p k)), (0, .ref b), (1, .int (nI p))]) hx hb dX5_source_56 rfl hl (by decide) rfl (fun ls hl => ?_)
          have loop57 : ∀ (fu : Nat) (t : Nat), n - t < fu → (t ≤ n) → ∀ (x3 : Int32), x3 = (nI t) → ∀ (x2 : Int32), x2 = (fm n c e (os e p (c p)) t) → ∀ ls : Array Slot, lv_has ls 6 [(3, .int x3), (2, .int x2), (0, .ref b), (1, .int (nI p))] → W pg l ev ({ frames := 2, cells := 0, slots := 0, locals := 43 } : Room) s m args below meth cd H1 lo2 0 0 (MQ below (zM (fun H1 => va_P D vwCl (zMo cI b 0 n (jf g me lo c) bf (zn e) (nm rd tk)) H1 ∧ H1.size = H.size) (some (.int (fd n c e (os e p (c p)) 12))) (zF b (b + 5))) args s 0 0 (zF b (b + 5))) (F0 m 57 ls []) := by
            intro fu
            induction fu with
            | zero => intro t hfu; exact absurd hfu (Nat.not_lt_zero _)
            | succ fu ih57 =>
              intro t hfu hi57_0 x3 ex3 x2 ex2 ls hl
              subst ex3
              subst ex2
              refine lv_iload_n hx hb dX5_source_57 rfl (lv_at hl 0 rfl) ?_
              refine lv_aload_n hx hb dX5_source_58 rfl (lv_at hl 2 rfl) ?_
              refine va_get (D := D) (ci := 5) (v := .int (nI n)) (C := RX5) (T := TX5) (N := 6) hx hb hts hinX5 hown hK hM3 0 rfl rfl 1 (by decide) (hts _ (List.mem_of_getElem? (i := 3) rfl)) (fun _ h9 => h9) rfl dX5_source_59 ?_
              refine lv_icmp_ge (tgt := 138) hx hb dX5_source_62 (by decide) (fun c62 => ?_) (fun c62 => ?_)
              · have c62 := z_le (a := n) (b := t) c62 (by omega) (by omega)
                refine lv_iload_n hx hb dX5_source_138 rfl (lv_at hl 1 rfl) ?_
                refine z_toi (y := (fd n c e (os e p (c p)) 12)) (by rw [show t = n by omega]; exact fm_fd hI _) ?_
                exact z_iretM (⟨hM3, hz⟩) hx hb hr hlocks hS dX5_source_139
              · have c62 := z_nle (a := n) (b := t) c62 (by omega) (by omega)
                refine lv_iconst (v := 0) hx hb dX5_source_65 (by decide) ?_
                refine lv_istore (lv' := [(4, .int 0), (3, .int (nI t)), (2, .int (fm n c e (os e p (c p)) t)), (0, .ref b), (1, .int (nI p))]) hx hb dX5_source_66 hl (by decide) rfl (fun ls hl => ?_)
                have loop68 : ∀ (fu : Nat) (q2 : Nat), n - q2 < fu → (q2 ≤ n) → ∀ (x4 : Int32), x4 = (nI q2) → ∀ (x2 : Int32), x2 = (fp c e (fm n c e (os e p (c p)) t) q2) → ∀ ls : Array Slot, lv_has ls 6 [(4, .int x4), (3, .int (nI t)), (2, .int x2), (0, .ref b), (1, .int (nI p))] → W pg l ev ({ frames := 2, cells := 0, slots := 0, locals := 43 } : Room) s m args below meth cd H1 lo2 0 0 (MQ below (zM (fun H1 => va_P D vwCl (zMo cI b 0 n (jf g me lo c) bf (zn e) (nm rd tk)) H1 ∧ H1.size = H.size) (some (.int (fd n c e (os e p (c p)) 12))) (zF b (b + 5))) args s 0 0 (zF b (b + 5))) (F0 m 68 ls []) := by
                  intro fu
                  induction fu with
                  | zero => intro q2 hfu; exact absurd hfu (Nat.not_lt_zero _)
                  | succ fu ih68 =>
                    intro q2 hfu hi68_0 x4 ex4 x2 ex2 ls hl
                    subst ex4
                    subst ex2
                    refine lv_iload hx hb dX5_source_68 (lv_at hl 0 rfl) ?_
                    refine lv_aload_n hx hb dX5_source_70 rfl (lv_at hl 3 rfl) ?_
                    refine va_get (D := D) (ci := 5) (v := .int (nI n)) (C := RX5) (T := TX5) (N := 6) hx hb hts hinX5 hown hK hM3 0 rfl rfl 1 (by decide) (hts _ (List.mem_of_getElem? (i := 3) rfl)) (fun _ h9 => h9) rfl dX5_source_71 ?_
                    refine lv_icmp_ge (tgt := 132) hx hb dX5_source_74 (by decide) (fun c74 => ?_) (fun c74 => ?_)
                    · have c74 := z_le (a := n) (b := q2) c74 (by omega) (by omega)
                      refine lv_iinc (v := (nI (t + 1))) (lv' := [(3, .int (nI (t + 1))), (4, .int (nI q2)), (2, .int (fp c e (fm n c e (os e p (c p)) t) q2)), (0, .ref b), (1, .int (nI p))]) hx hb dX5_source_132 hl (k := 1) rfl (nI_1 _) (by decide) rfl (fun ls hl => ?_)
                      refine lv_goto (tgt := 57) hx hb dX5_source_135 (by decide) ?_
                      exact ih57 (t + 1) (by omega) (by omega) _ (rfl) _ (by rw [show q2 = n by omega]; rfl) _ (lv_sub hl [0, 2, 3, 4] rfl)
                    · have c74 := z_nle (a := n) (b := q2) c74 (by omega) (by omega)
                      refine lv_iconst (v := 0) hx hb dX5_source_77 (by decide) ?_
                      refine lv_istore (lv' := [(5, .int 0), (4, .int (nI q2)), (3, .int (nI t)), (2, .int (fp c e (fm n c e (os e p (c p)) t) q2)), (0, .ref b), (1, .int (nI p))]) hx hb dX5_source_78 hl (by decide) rfl (fun ls hl => ?_)
                      have loop80 : ∀ (fu : Nat) (j : Nat), c q2 - j < fu → (j ≤ c q2) → (j = 0 ∨ bt (fp c e (fm n c e (os e p (c p)) t) q2) q2 = true) → ∀ (x5 : Int32), x5 = (nI j) → ∀ (x2 : Int32), x2 = (fp c e (fm n c e (os e p (c p)) t) q2 ||| os e q2 j) → ∀ ls : Array Slot, lv_has ls 6 [(5, .int x5), (4, .int (nI q2)), (3, .int (nI t)), (2, .int x2), (0, .ref b), (1, .int (nI p))] → W pg l ev ({ frames := 2, cells := 0, slots := 0, locals := 43 } : Room) s m args below meth cd H1 lo2 0 0 (MQ below (zM (fun H1 => va_P D vwCl (zMo cI b 0 n (jf g me lo c) bf (zn e) (nm rd tk)) H1 ∧ H1.size = H.size) (some (.int (fd n c e (os e p (c p)) 12))) (zF b (b + 5))) args s 0 0 (zF b (b + 5))) (F0 m 80 ls []) := by
                        intro fu
                        induction fu with
                        | zero => intro j hfu; exact absurd hfu (Nat.not_lt_zero _)
                        | succ fu ih80 =>
                          intro j hfu hi80_0 hi80_1 x5 ex5 x2 ex2 ls hl
                          subst ex5
                          subst ex2
                          have hc5 := zI_c hI q2
                          refine lv_iload hx hb dX5_source_80 (lv_at hl 0 rfl) ?_
                          refine lv_aload_n hx hb dX5_source_82 rfl (lv_at hl 4 rfl) ?_
                          refine lv_iload hx hb dX5_source_83 (lv_at hl 1 rfl) ?_
                          refine lv_bipush (v := 9) hx hb dX5_source_85 (by decide) ?_
                          refine z_ki (va_runV (As := [.int (nI q2), .int 9]) (rest := [.int (nI j)]) hfix (zcX5_ju l D cI H1 b 0 n (jf g me lo c) bf (zn e) (nm rd tk) q2 9 hM3 (by omega) (by omega)) (cwV 2 hts gX5_source_X5_ju rfl rfl rfl (by decide +kernel) ⟨Nat.le_of_ble_eq_true rfl, Nat.le_of_ble_eq_true rfl⟩) (z_preV hK hK hM3 (ci := 5) (q0 := 0) rfl rfl rfl) rfl rfl hl.1 rfl (lv_room (Nat.le_of_ble_eq_true rfl)) dX5_source_87 ⟨by omega, by omega⟩) ?_
                          refine z_toi (y := (nI (c q2))) (jf_9) ?_
                          refine lv_icmp_ge (tgt := 126) hx hb dX5_source_90 (by decide) (fun c90 => ?_) (fun c90 => ?_)
                          · have c90 := z_le (a := c q2) (b := j) c90 (by omega) (by omega)
                            refine lv_iinc (v := (nI (q2 + 1))) (lv' := [(4, .int (nI (q2 + 1))), (5, .int (nI j)), (3, .int (nI t)), (2, .int (fp c e (fm n c e (os e p (c p)) t) q2 ||| os e q2 j)), (0, .ref b), (1, .int (nI p))]) hx hb dX5_source_126 hl (k := 1) rfl (nI_1 _) (by decide) rfl (fun ls hl => ?_)
                            refine lv_goto (tgt := 68) hx hb dX5_source_129 (by decide) ?_
                            exact ih68 (q2 + 1) (by omega) (by omega) _ (rfl) _ (fp_A (by omega) hi80_1 (by omega)) _ (lv_sub hl [0, 2, 3, 4, 5] rfl)
                          · have c90 := z_nle (a := c q2) (b := j) c90 (by omega) (by omega)
                            refine lv_iload_n hx hb dX5_source_93 rfl (lv_at hl 3 rfl) ?_
                            refine lv_iload hx hb dX5_source_94 (lv_at hl 1 rfl) ?_
                            refine lv_ishr hx hb dX5_source_96 ?_
                            refine lv_iconst (v := 1) hx hb dX5_source_97 (by decide) ?_
                            refine lv_iand hx hb dX5_source_98 ?_
                            refine lv_iconst (v := 1) hx hb dX5_source_99 (by decide) ?_
                            refine lv_icmp_ne (tgt := 126) hx hb dX5_source_100 (by decide) (fun c100 => ?_) (fun c100 => ?_)
                            · refine lv_iinc (v := (nI (q2 + 1))) (lv' := [(4, .int (nI (q2 + 1))), (5, .int (nI j)), (3, .int (nI t)), (2, .int (fp c e (fm n c e (os e p (c p)) t) q2 ||| os e q2 j)), (0, .ref b), (1, .int (nI p))]) hx hb dX5_source_126 hl (k := 1) rfl (nI_1 _) (by decide) rfl (fun ls hl => ?_)
                              refine lv_goto (tgt := 68) hx hb dX5_source_129 (by decide) ?_
                              exact ih68 (q2 + 1) (by omega) (by omega) _ (rfl) _ (fp_B (by omega) hi80_1 c100) _ (lv_sub hl [0, 2, 3, 4, 5] rfl)
                            · refine lv_iload_n hx hb dX5_source_103 rfl (lv_at hl 3 rfl) ?_
                              refine lv_iconst (v := 1) hx hb dX5_source_104 (by decide) ?_
                              refine lv_aload_n hx hb dX5_source_105 rfl (lv_at hl 4 rfl) ?_
                              refine va_get (D := D) (ci := 5) (v := .ref (b + 3)) (C := RX5) (T := TX5) (N := 6) hx hb hts hinX5 hown hK hM3 0 rfl rfl 4 (by decide) (hts _ (List.mem_of_getElem? (i := 2) rfl)) (fun _ h9 => h9) rfl dX5_source_106 ?_
                              refine lv_iconst (v := 4) hx hb dX5_source_109 (by decide) ?_
                              refine lv_iload hx hb dX5_source_110 (lv_at hl 1 rfl) ?_
                              refine lv_imul hx hb dX5_source_112 ?_
                              refine z_toi (y := nI (q2 * 4)) ((pk_mul 4 q2).trans (congrArg nI (Nat.mul_comm _ _))) ?_
                              refine lv_iload hx hb dX5_source_113 (lv_at hl 0 rfl) ?_
                              refine lv_iadd hx hb dX5_source_115 ?_
                              refine z_toi (y := nI (q2 * 4 + j)) (nI_add (q2 * 4) j) ?_
                              refine z_iald (a := (b + 3)) (n := 48) (f := (zn e)) (j := (q2 * 4 + j)) hx hb hK hM3 3 0 rfl rfl rfl (by omega) (by omega) dX5_source_116 ?_
                              refine lv_ishl hx hb dX5_source_117 ?_
                              refine lv_ior hx hb dX5_source_118 ?_
                              refine lv_istore_n (lv' := [(2, .int ((fp c e (fm n c e (os e p (c p)) t) q2 ||| os e q2 j) ||| ((1 : Int32) <<< ((nI (e (q2 * 4 + j))) &&& 31)))), (5, .int (nI j)), (4, .int (nI q2)), (3, .int (nI t)), (0, .ref b), (1, .int (nI p))]) hx hb dX5_source_119 rfl hl (by decide) rfl (fun ls hl => ?_)
                              refine lv_iinc (v := (nI (j + 1))) (lv' := [(5, .int (nI (j + 1))), (2, .int ((fp c e (fm n c e (os e p (c p)) t) q2 ||| os e q2 j) ||| ((1 : Int32) <<< ((nI (e (q2 * 4 + j))) &&& 31)))), (4, .int (nI q2)), (3, .int (nI t)), (0, .ref b), (1, .int (nI p))]) hx hb dX5_source_120 hl (k := 1) rfl (nI_1 _) (by decide) rfl (fun ls hl => ?_)
                              refine lv_goto (tgt := 80) hx hb dX5_source_123 (by decide) ?_
                              exact ih80 (j + 1) (by omega) (by omega) (Or.inr (fp_in hi80_1 ((bt_at (by omega)).mp c100))) _ (rfl) _ (os_s) _ (lv_sub hl [0, 2, 3, 1, 4, 5] rfl)
                      exact loop80 _ 0 (Nat.lt_succ_self _) (by omega) (Or.inl rfl) _ (rfl) _ (os_0.symm) _ (lv_sub hl [0, 1, 2, 3, 4, 5] rfl)
                exact loop68 _ 0 (Nat.lt_succ_self _) (by omega) _ (rfl) _ (rfl) _ (lv_sub hl [0, 1, 2, 3, 4] rfl)
          exact loop57 _ 0 (Nat.lt_succ_self _) (by omega) _ (rfl) _ (by rw [show c p = k by omega]; rfl) _ (lv_sub hl [0, 1, 2, 3] rfl)
        · have c31 := z_nle (a := c p) (b := k) c31 (by omega) (by omega)
          refine lv_iload_n hx hb dX5_source_34 rfl (lv_at hl 1 rfl) ?_
          refine lv_iconst (v := 1) hx hb dX5_source_35 (by decide) ?_
          refine lv_aload_n hx hb dX5_source_36 rfl (lv_at hl 2 rfl) ?_
          refine va_get (D := D) (ci := 5) (v := .ref (b + 3)) (C := RX5) (T := TX5) (N := 6) hx hb hts hinX5 hown hK hM3 0 rfl rfl 4 (by decide) (hts _ (List.mem_of_getElem? (i := 2) rfl)) (fun _ h9 => h9) rfl dX5_source_37 ?_
          refine lv_iconst (v := 4) hx hb dX5_source_40 (by decide) ?_
          refine lv_iload_n hx hb dX5_source_41 rfl (lv_at hl 3 rfl) ?_
          refine lv_imul hx hb dX5_source_42 ?_
          refine z_toi (y := nI (p * 4)) ((pk_mul 4 p).trans (congrArg nI (Nat.mul_comm _ _))) ?_
          refine lv_iload_n hx hb dX5_source_43 rfl (lv_at hl 0 rfl) ?_
          refine lv_iadd hx hb dX5_source_44 ?_
          refine z_toi (y := nI (p * 4 + k)) (nI_add (p * 4) k) ?_
          refine z_iald (a := (b + 3)) (n := 48) (f := (zn e)) (j := (p * 4 + k)) hx hb hK hM3 3 0 rfl rfl rfl (by omega) (by omega) dX5_source_45 ?_
          refine lv_ishl hx hb dX5_source_46 ?_
          refine lv_ior hx hb dX5_source_47 ?_
          refine lv_istore_n (lv' := [(2, .int ((os e p k) ||| ((1 : Int32) <<< ((nI (e (p * 4 + k))) &&& 31)))), (3, .int (nI k)), (0, .ref b), (1, .int (nI p))]) hx hb dX5_source_48 rfl hl (by decide) rfl (fun ls hl => ?_)
          refine lv_iinc (v := (nI (k + 1))) (lv' := [(3, .int (nI (k + 1))), (2, .int ((os e p k) ||| ((1 : Int32) <<< ((nI (e (p * 4 + k))) &&& 31)))), (0, .ref b), (1, .int (nI p))]) hx hb dX5_source_49 hl (k := 1) rfl (nI_1 _) (by decide) rfl (fun ls hl => ?_)
          refine lv_goto (tgt := 23) hx hb dX5_source_52 (by decide) ?_
          exact ih (k + 1) (by omega) (by omega) _ (rfl) _ (rfl) _ (lv_sub hl [0, 1, 2, 3] rfl)
    exact loop23 _ 0 (Nat.lt_succ_self _) (by omega) _ (rfl) _ (rfl) _ (lv_sub hl [0, 1, 2, 3] rfl)
  · have c10 := zb_0 c10
    exact absurd ((z_isP hn).mpr ⟨p, hp, rfl⟩) c10
