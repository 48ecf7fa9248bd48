set_option maxHeartbeats 4000000 in
set_option maxRecDepth 100000 in
/-- a new Bird -/
theorem zcX5_init (l : Launch) (D : va_G) (cI : ClassId) (H : Heap) (a : Nat) (hO : va_P D vwCl [(a, .inr (5, [.null, .null, .null, .int 0, .int 0, .int 0, .null]))] H) (hsz : H.size = a + 1) : Met l yX5_init wsX5_init ({ frames := 1, cells := 4, slots := 6, locals := 12 } : Room) (zPc D [(cI, .int)] H [.ref a]) (zM (fun H1 => va_P D vwCl (zBw cI a (a + 4) (fun _ => 0) (fun _ => -1) (fun _ => 0) 0 0 0) H1 ∧ va_P D vwCl (zAr cI (a + 4) 0 (fun _ => 0)) H1 ∧ H1.size = a + 5) none (fun q => a ≤ q)) 4 6 (fun q => a ≤ q) := by
  refine z_enter (cc := cX5_init) (maxL := 1) (ret := none) (by decide) rfl (Nat.le_of_ble_eq_true rfl) ?_
  intro pg ev s m args below meth cd hfix hr hlocks hname hK hHs ls hl
  obtain ⟨hx, hb, hml, hown, hts⟩ := id hfix
  have hl : lv_has ls 1 [(0, .ref a)] := hl
  have hS : va_S (fun q => a ≤ q) s.heap H [] := by rw [hHs]; exact va_S.rf
  have hz : H.size ≤ H.size := Nat.le_refl _
  have hin : meth.name = "<init>" := hname
  have hinX5 : ∀ w ∈ wsX50, w ∈ wsX5_init := by decide +kernel
  refine lv_aload_n hx hb dX5_init_0 rfl (lv_at hl 0 rfl) ?_
  refine W.objInit hx hb hown (hts _ (List.mem_of_getElem? (i := 1) rfl)) (hts _ (List.mem_of_getElem? (i := 2) rfl)) (hts _ (List.mem_of_getElem? (i := 3) rfl)) rfl (by rw [hml]; exact hl.1) rfl dX5_init_1 (Nat.le_of_ble_eq_true rfl) (Nat.le_of_ble_eq_true rfl) ?_
  refine W.eq (g2 := F0 m 4 ls []) rfl ?_
  refine lv_aload_n hx hb dX5_init_4 rfl (lv_at hl 0 rfl) ?_
  refine lv_iconst (v := 2) hx hb dX5_init_5 (by decide) ?_
  refine z_newi hx hb (hts _ (List.mem_of_getElem? (i := 4) rfl)) hK 0 rfl (N := 2) rfl (by omega) (Nat.le_of_ble_eq_true rfl) (Nat.le_of_ble_eq_true rfl) dX5_init_6 (h := a + 1) hsz (fun H1 hAr2 hz1 hk1 => ?_)
  have hS := z_Sgrow hS (by omega) (fun q h => hk1 q (by omega))
  have hsz : H1.size = a + 2 := by omega
  have hz : H.size ≤ H1.size := by omega
  have hO3 := zOb_kept hO (fun q h1 h2 h3 => (fun q (h9 : q < H.size) (_ : True) => hk1 q (by omega)) q h1 (trivial))
  refine z_put (D := D) (ci := 5) (v := .ref (a + 1)) (ty := (.array .int)) (C := RX5) (T := TX5) (N := 7) hx hb hts hinX5 tyX5 tyX5_ok nmX5 hown hK hO3 (by show a ≤ _; omega) hS 0 rfl rfl 0 (by decide) (hts _ (List.mem_of_getElem? (i := 5) rfl)) (fun _ h9 => h9) rfl (by decide +kernel) rfl rfl (Nat.le_of_ble_eq_true rfl) dX5_init_8 (fun H4 lo5 hP1 hz1 hk1 hS => ?_)
  have hsz : H4.size = a + 2 := by omega
  have hz : H.size ≤ H4.size := by omega
  have hO6 : va_P D vwCl [(a, .inr (5, [.ref (a + 1), .null, .null, .int 0, .int 0, .int 0, .null]))] H4 := z_set zOb_c hO3 0 rfl hP1 (fun q _ h => hk1 q h)
  have hAr7 := zAr_kept hAr2 (fun q h1 h2 h3 => (fun q _ h => hk1 q h) q h1 (by omega))
  refine lv_aload_n hx hb dX5_init_11 rfl (lv_at hl 0 rfl) ?_
  refine lv_iconst (v := 2) hx hb dX5_init_12 (by decide) ?_
  refine z_newi hx hb (hts _ (List.mem_of_getElem? (i := 4) rfl)) hK 0 rfl (N := 2) rfl (by omega) (Nat.le_of_ble_eq_true rfl) (Nat.le_of_ble_eq_true rfl) dX5_init_13 (h := a + 2) hsz (fun H8 hAr9 hz1 hk1 => ?_)
  have hS := z_Sgrow hS (by omega) (fun q h => hk1 q (by omega))
  have hsz : H8.size = a + 3 := by omega
  have hz : H.size ≤ H8.size := by omega
  have hO10 := zOb_kept hO6 (fun q h1 h2 h3 => (fun q (h9 : q < H4.size) (_ : True) => hk1 q (by omega)) q h1 (trivial))
  have hAr11 := zAr_kept hAr7 (fun q h1 h2 h3 => (fun q (h9 : q < H4.size) (_ : True) => hk1 q (by omega)) q h1 (trivial))
  refine lv_dup hx hb dX5_init_15 rfl ?_
  refine lv_iconst (v := 0) hx hb dX5_init_16 (by decide) ?_
  refine lv_iconst (v := (-1)) hx hb dX5_init_17 (by decide) ?_
  refine z_iast (n := 2) (f := (fun _ => 0)) (x := (-1)) (j := 0) hx hb hK hAr9 (by show a ≤ _; omega) hS 0 0 rfl rfl rfl (by omega) (by omega) dX5_init_18 (fun H12 lo13 hP1 hz1 hk1 hS => ?_)
  have hsz : H12.size = a + 3 := by omega
  have hz : H.size ≤ H12.size := by omega
  have hO14 := zOb_kept hO10 (fun q h1 h2 h3 => (fun q _ h => hk1 q h) q h1 (by omega))
  have hAr15 := zAr_kept hAr11 (fun q h1 h2 h3 => (fun q _ h => hk1 q h) q h1 (by omega))
  have hAr16 : va_P D vwCl (zAr cI (a + 2) 2 (upd (fun _ => 0) 0 (-1))) H12 := z_set zAr_c hAr9 0 rfl hP1 (fun q _ h => hk1 q h)
  refine lv_dup hx hb dX5_init_19 rfl ?_
  refine lv_iconst (v := 1) hx hb dX5_init_20 (by decide) ?_
  refine lv_iconst (v := (-1)) hx hb dX5_init_21 (by decide) ?_
  refine z_iast (n := 2) (f := (upd (fun _ => 0) 0 (-1))) (x := (-1)) (j := 1) hx hb hK hAr16 (by show a ≤ _; omega) hS 0 0 rfl rfl rfl (by omega) (by omega) dX5_init_22 (fun H17 lo18 hP1 hz1 hk1 hS => ?_)
  have hsz : H17.size = a + 3 := by omega
  have hz : H.size ≤ H17.size := by omega
  have hO19 := zOb_kept hO14 (fun q h1 h2 h3 => (fun q _ h => hk1 q h) q h1 (by omega))
  have hAr20 := zAr_kept hAr15 (fun q h1 h2 h3 => (fun q _ h => hk1 q h) q h1 (by omega))
  have hAr21 : va_P D vwCl (zAr cI (a + 2) 2 (upd (upd (fun _ => 0) 0 (-1)) 1 (-1))) H17 := z_set zAr_c hAr16 0 rfl hP1 (fun q _ h => hk1 q h)
  have hAr22 : va_P D vwCl (zAr cI (a + 2) 2 (fun _ => -1)) H17 := z_arr_ext hAr21 (fun j hj => by rcases (show j = 0 ∨ j = 1 by omega) with rfl | rfl <;> simp [upd])
  refine z_put (D := D) (ci := 5) (v := .ref (a + 2)) (ty := (.array .int)) (C := RX5) (T := TX5) (N := 7) hx hb hts hinX5 tyX5 tyX5_ok nmX5 hown hK hO19 (by show a ≤ _; omega) hS 0 rfl rfl 1 (by decide) (hts _ (List.mem_of_getElem? (i := 6) rfl)) (fun _ h9 => h9) rfl (by decide +kernel) rfl rfl (Nat.le_of_ble_eq_true rfl) dX5_init_23 (fun H23 lo24 hP1 hz1 hk1 hS => ?_)
  have hsz : H23.size = a + 3 := by omega
  have hz : H.size ≤ H23.size := by omega
  have hO25 : va_P D vwCl [(a, .inr (5, [.ref (a + 1), .ref (a + 2), .null, .int 0, .int 0, .int 0, .null]))] H23 := z_set zOb_c hO19 0 rfl hP1 (fun q _ h => hk1 q h)
  have hAr26 := zAr_kept hAr20 (fun q h1 h2 h3 => (fun q _ h => hk1 q h) q h1 (by omega))
  have hAr27 := zAr_kept hAr22 (fun q h1 h2 h3 => (fun q _ h => hk1 q h) q h1 (by omega))
  refine lv_aload_n hx hb dX5_init_26 rfl (lv_at hl 0 rfl) ?_
  refine lv_iconst (v := 2) hx hb dX5_init_27 (by decide) ?_
  refine z_newi hx hb (hts _ (List.mem_of_getElem? (i := 4) rfl)) hK 0 rfl (N := 2) rfl (by omega) (Nat.le_of_ble_eq_true rfl) (Nat.le_of_ble_eq_true rfl) dX5_init_28 (h := a + 3) hsz (fun H28 hAr29 hz1 hk1 => ?_)
  have hS := z_Sgrow hS (by omega) (fun q h => hk1 q (by omega))
  have hsz : H28.size = a + 4 := by omega
  have hz : H.size ≤ H28.size := by omega
  have hO30 := zOb_kept hO25 (fun q h1 h2 h3 => (fun q (h9 : q < H23.size) (_ : True) => hk1 q (by omega)) q h1 (trivial))
  have hAr31 := zAr_kept hAr26 (fun q h1 h2 h3 => (fun q (h9 : q < H23.size) (_ : True) => hk1 q (by omega)) q h1 (trivial))
  have hAr32 := zAr_kept hAr27 (fun q h1 h2 h3 => (fun q (h9 : q < H23.size) (_ : True) => hk1 q (by omega)) q h1 (trivial))
  refine z_put (D := D) (ci := 5) (v := .ref (a + 3)) (ty := (.array .int)) (C := RX5) (T := TX5) (N := 7) hx hb hts hinX5 tyX5 tyX5_ok nmX5 hown hK hO30 (by show a ≤ _; omega) hS 0 rfl rfl 2 (by decide) (hts _ (List.mem_of_getElem? (i := 7) rfl)) (fun _ h9 => h9) rfl (by decide +kernel) rfl rfl (Nat.le_of_ble_eq_true rfl) dX5_init_30 (fun H33 lo34 hP1 hz1 hk1 hS => ?_)
  have hsz : H33.size = a + 4 := by omega
  have hz : H.size ≤ H33.size := by omega
  have hO35 : va_P D vwCl [(a, .inr (5, [.ref (a + 1), .ref (a + 2), .ref (a + 3), .int 0, .int 0, .int 0, .null]))] H33 := z_set zOb_c hO30 0 rfl hP1 (fun q _ h => hk1 q h)
  have hAr36 := zAr_kept hAr31 (fun q h1 h2 h3 => (fun q _ h => hk1 q h) q h1 (by omega))
  have hAr37 := zAr_kept hAr32 (fun q h1 h2 h3 => (fun q _ h => hk1 q h) q h1 (by omega))
  have hAr38 := zAr_kept hAr29 (fun q h1 h2 h3 => (fun q _ h => hk1 q h) q h1 (by omega))
  refine lv_aload_n hx hb dX5_init_33 rfl (lv_at hl 0 rfl) ?_
  refine lv_iconst (v := 0) hx hb dX5_init_34 (by decide) ?_
  refine z_newi hx hb (hts _ (List.mem_of_getElem? (i := 4) rfl)) hK 0 rfl (N := 0) rfl (by omega) (Nat.le_of_ble_eq_true rfl) (Nat.le_of_ble_eq_true rfl) dX5_init_35 (h := a + 4) hsz (fun H39 hAr40 hz1 hk1 => ?_)
  have hS := z_Sgrow hS (by omega) (fun q h => hk1 q (by omega))
  have hsz : H39.size = a + 5 := by omega
  have hz : H.size ≤ H39.size := by omega
  have hO41 := zOb_kept hO35 (fun q h1 h2 h3 => (fun q (h9 : q < H33.size) (_ : True) => hk1 q (by omega)) q h1 (trivial))
  have hAr42 := zAr_kept hAr36 (fun q h1 h2 h3 => (fun q (h9 : q < H33.size) (_ : True) => hk1 q (by omega)) q h1 (trivial))
  have hAr43 := zAr_kept hAr37 (fun q h1 h2 h3 => (fun q (h9 : q < H33.size) (_ : True) => hk1 q (by omega)) q h1 (trivial))
  have hAr44 := zAr_kept hAr38 (fun q h1 h2 h3 => (fun q (h9 : q < H33.size) (_ : True) => hk1 q (by omega)) q h1 (trivial))
  refine z_put (D := D) (ci := 5) (v := .ref (a + 4)) (ty := (.array .int)) (C := RX5) (T := TX5) (N := 7) hx hb hts hinX5 tyX5 tyX5_ok nmX5 hown hK hO41 (by show a ≤ _; omega) hS 0 rfl rfl 6 (by decide) (hts _ (List.mem_of_getElem? (i := 8) rfl)) (fun _ h9 => h9) rfl (by decide +kernel) rfl rfl (Nat.le_of_ble_eq_true rfl) dX5_init_37 (fun H45 lo46 hP1 hz1 hk1 hS => ?_)
  have hsz : H45.size = a + 5 := by omega
  have hz : H.size ≤ H45.size := by omega
  have hO47 : va_P D vwCl [(a, .inr (5, [.ref (a + 1), .ref (a + 2), .ref (a + 3), .int 0, .int 0, .int 0, .ref (a + 4)]))] H45 := z_set zOb_c hO41 0 rfl hP1 (fun q _ h => hk1 q h)
  have hAr48 := zAr_kept hAr42 (fun q h1 h2 h3 => (fun q _ h => hk1 q h) q h1 (by omega))
  have hAr49 := zAr_kept hAr43 (fun q h1 h2 h3 => (fun q _ h => hk1 q h) q h1 (by omega))
  have hAr50 := zAr_kept hAr44 (fun q h1 h2 h3 => (fun q _ h => hk1 q h) q h1 (by omega))
  have hAr51 := zAr_kept hAr40 (fun q h1 h2 h3 => (fun q _ h => hk1 q h) q h1 (by omega))
  refine W.widen (k := 4) (n := 6) (by omega) (by omega) ?_
  exact z_vretM (⟨(va_P.app hO47 (va_P.app hAr48 (va_P.app hAr49 hAr50))), hAr51, hsz⟩) hx hb hr hlocks hS dX5_init_40
set_option maxHeartbeats 4000000 in
set_option maxRecDepth 100000 in
/-- Bird.word -/
theorem zcX5_word (l : Launch) (D : va_G) (cI : ClassId) (H : Heap) (a : Nat) (ea : Nat) (hv : Nat → Int32) (fv : Nat → Int32) (ov : Nat → Int32) (sr : Int32) (mr : Int32) (lr : Int32) (hB : va_P D vwCl (zBw cI a ea hv fv ov sr mr lr) H) : Met l yX5_word wsX5_word ({ frames := 0, cells := 0, slots := 0, locals := 0 } : Room) (zPc D [(cI, .int)] H [.ref a]) (zQ (some (.int (100 * hv 0 + hv 1))) H) 0 0 (fun _ => False) := by
  refine z_enter (cc := cX5_word) (maxL := 1) (ret := (some .int)) (by decide) rfl (Nat.le_of_ble_eq_true rfl) ?_
  intro pg ev s m args below meth cd hfix hr hlocks hname hK hHs ls hl
  obtain ⟨hx, hb, hml, hown, hts⟩ := id hfix
  have hl : lv_has ls 1 [(0, .ref a)] := hl
  have hinX5 : ∀ w ∈ wsX50, w ∈ wsX5_word := by decide +kernel
  refine lv_bipush (v := 100) hx hb dX5_word_0 (by decide) ?_
  refine lv_aload_n hx hb dX5_word_2 rfl (lv_at hl 0 rfl) ?_
  refine va_get (D := D) (ci := 5) (v := .ref (a + 1)) (C := RX5) (T := TX5) (N := 7) hx hb hts hinX5 hown hK hB 0 rfl rfl 0 (by decide) (hts _ (List.mem_of_getElem? (i := 1) rfl)) (fun _ h9 => h9) rfl dX5_word_3 ?_
  refine lv_iconst (v := 0) hx hb dX5_word_6 (by decide) ?_
  refine z_iald (a := (a + 1)) (n := 2) (f := hv) (j := 0) hx hb hK hB 1 0 rfl rfl rfl (by omega) (by omega) dX5_word_7 ?_
  refine lv_imul hx hb dX5_word_8 ?_
  refine lv_aload_n hx hb dX5_word_9 rfl (lv_at hl 0 rfl) ?_
  refine va_get (D := D) (ci := 5) (v := .ref (a + 1)) (C := RX5) (T := TX5) (N := 7) hx hb hts hinX5 hown hK hB 0 rfl rfl 0 (by decide) (hts _ (List.mem_of_getElem? (i := 1) rfl)) (fun _ h9 => h9) rfl dX5_word_10 ?_
  refine lv_iconst (v := 1) hx hb dX5_word_13 (by decide) ?_
  refine z_iald (a := (a + 1)) (n := 2) (f := hv) (j := 1) hx hb hK hB 1 0 rfl rfl rfl (by omega) (by omega) dX5_word_14 ?_
  refine lv_iadd hx hb dX5_word_15 ?_
  refine z_toi (y := (100 * hv 0 + hv 1)) (rfl) ?_
  exact z_iret hx hb hr hlocks dX5_word_16
set_option maxHeartbeats 4000000 in
set_option maxRecDepth 100000 in
/-- Bird.place -/
theorem zcX5_place (l : Launch) (D : va_G) (cI : ClassId) (H : Heap) (a : Nat) (ea : Nat) (hv : Nat → Int32) (fv : Nat → Int32) (ov : Nat → Int32) (sr : Int32) (mr : Int32) (lr : Int32) (k : Nat) (e : Nat → Nat) (p : Nat) (x : Nat) (hB : va_P D vwCl (zBw cI a ea hv fv ov sr mr lr) H) (hE : va_P D vwCl (zAr cI ea k (zer e p)) H) (hk4 : k ≤ 4) (he9 : ∀ j, j < k → e (p * 4 + j) < 100000) (hx9 : x < 100000) : Met l yX5_place wsX5_place ({ frames := 0, cells := 0, slots := 0, locals := 0 } : Room) (zPc D [(cI, .int)] H [.ref a, .int (nI x)]) (zQ (some (.int (zo (po e p x k)))) H) 0 0 (fun _ => False) := by
  refine z_enter (cc := cX5_place) (maxL := 3) (ret := (some .int)) (by decide) rfl (Nat.le_of_ble_eq_true rfl) ?_
  intro pg ev s m args below meth cd hfix hr hlocks hname hK hHs ls hl
  obtain ⟨hx, hb, hml, hown, hts⟩ := id hfix
  have hl : lv_has ls 3 [(0, .ref a), (1, .int (nI x))] := hl
  have hinX5 : ∀ w ∈ wsX50, w ∈ wsX5_place := by decide +kernel
  refine lv_iconst (v := 0) hx hb dX5_place_0 (by decide) ?_
  refine lv_istore_n (lv' := [(2, .int 0), (0, .ref a), (1, .int (nI x))]) hx hb dX5_place_1 rfl hl (by decide) rfl (fun ls hl => ?_)
  have loop2 : ∀ (fu : Nat) (j : Nat), k - j < fu → (j ≤ k) → (po e p x j = none) → ∀ (x2 : Int32), x2 = (nI j) → ∀ ls : Array Slot, lv_has ls 3 [(2, .int x2), (0, .ref a), (1, .int (nI x))] → W pg l ev ({ frames := 0, cells := 0, slots := 0, locals := 0 } : Room) s m args below meth cd H [] 0 0 (MQ below (zQ (some (.int (zo (po e p x k)))) H) args s 0 0 (fun _ => False)) (F0 m 2 ls []) := by
    intro fu
    induction fu with
    | zero => intro j hfu; exact absurd hfu (Nat.not_lt_zero _)
    | succ fu ih =>
      intro j hfu hi2_0 hi2_1 x2 ex2 ls hl
      subst ex2
      refine lv_iload_n hx hb dX5_place_2 rfl (lv_at hl 0 rfl) ?_
      refine lv_aload_n hx hb dX5_place_3 rfl (lv_at hl 1 rfl) ?_
      refine va_get (D := D) (ci := 5) (v := .ref ea) (C := RX5) (T := TX5) (N := 7) hx hb hts hinX5 hown hK hB 0 rfl rfl 6 (by decide) (hts _ (List.mem_of_getElem? (i := 1) rfl)) (fun _ h9 => h9) rfl dX5_place_4 ?_
      refine z_alen (n := k) (f := (zer e p)) hx hb hK hE 0 0 rfl rfl dX5_place_7 ?_
      refine lv_icmp_ge (tgt := 29) hx hb dX5_place_8 (by decide) (fun c8 => ?_) (fun c8 => ?_)
      · have c8 := z_le (a := k) (b := j) c8 (by omega) (by omega)
        refine lv_iconst (v := (-1)) hx hb dX5_place_29 (by decide) ?_
        refine z_toi (y := (zo (po e p x k))) (by rw [show k = j by omega, hi2_1]; rfl) ?_
        exact z_iret hx hb hr hlocks dX5_place_30
      · have c8 := z_nle (a := k) (b := j) c8 (by omega) (by omega)
        refine lv_aload_n hx hb dX5_place_11 rfl (lv_at hl 1 rfl) ?_
        refine va_get (D := D) (ci := 5) (v := .ref ea) (C := RX5) (T := TX5) (N := 7) hx hb hts hinX5 hown hK hB 0 rfl rfl 6 (by decide) (hts _ (List.mem_of_getElem? (i := 1) rfl)) (fun _ h9 => h9) rfl dX5_place_12 ?_
        refine lv_iload_n hx hb dX5_place_15 rfl (lv_at hl 0 rfl) ?_
        refine z_iald (a := ea) (n := k) (f := (zer e p)) (j := j) hx hb hK hE 0 0 rfl rfl rfl (by omega) (by omega) dX5_place_16 ?_
        have he8 := he9 j (by omega)
        refine lv_iload_n hx hb dX5_place_17 rfl (lv_at hl 2 rfl) ?_
        refine lv_icmp_ne (tgt := 23) hx hb dX5_place_18 (by decide) (fun c18 => ?_) (fun c18 => ?_)
        · have c18 := z_ne (a := e (p * 4 + j)) (b := x) c18 (by omega) (by omega)
          refine lv_iinc (v := (nI (j + 1))) (lv' := [(2, .int (nI (j + 1))), (0, .ref a), (1, .int (nI x))]) hx hb dX5_place_23 hl (k := 0) rfl (nI_1 _) (by decide) rfl (fun ls hl => ?_)
          refine lv_goto (tgt := 2) hx hb dX5_place_26 (by decide) ?_
          exact ih (j + 1) (by omega) (by omega) (zd_poN hi2_1 c18) _ (rfl) _ (lv_sub hl [0, 1, 2] rfl)
        · have c18 := z_eq (a := e (p * 4 + j)) (b := x) c18 (by omega) (by omega)
          refine lv_iload_n hx hb dX5_place_21 rfl (lv_at hl 0 rfl) ?_
          refine z_toi (y := (zo (po e p x k))) (by rw [zd_po (zd_poS hi2_1 c18) (show j + 1 ≤ k by omega)]; rfl) ?_
          exact z_iret hx hb hr hlocks dX5_place_22
  exact loop2 _ 0 (Nat.lt_succ_self _) (by omega) (rfl) _ (rfl) _ (lv_sub hl [0, 1, 2] rfl)
set_option maxHeartbeats 4000000 in
set_option maxRecDepth 100000 in
/-- Bird.say -/
theorem zcX5_say (l : Launch) (D : va_G) (cI : ClassId) (H : Heap) (a : Nat) (ea : Nat) (hv : Nat → Int32) (fv : Nat → Int32) (ov : Nat → Int32) (sr : Int32) (mr : Int32) (lr : Int32) (x : Int32) (y : Int32) (hB : va_P D vwCl (zBw cI a ea hv fv ov sr mr lr) H) : Met l yX5_say wsX5_say ({ frames := 0, cells := 0, slots := 0, locals := 0 } : Room) (zPc D [(cI, .int)] H [.ref a, .int x, .int y]) (zM (fun H1 => va_P D vwCl (zBw cI a ea (zs1 x hv 2) (zs2 (-1) fv 2) (zs2 0 ov 2) y mr lr) H1 ∧ H1.size = H.size) none (zF a (a + 4))) 0 0 (zF a (a + 4)) := by
  refine z_enter (cc := cX5_say) (maxL := 4) (ret := none) (by decide) rfl (Nat.le_of_ble_eq_true rfl) ?_
  intro pg ev s m args below meth cd hfix hr hlocks hname hK hHs ls hl
  obtain ⟨hx, hb, hml, hown, hts⟩ := id hfix
  have hl : lv_has ls 4 [(0, .ref a), (1, .int x), (2, .int y)] := hl
  have hS : va_S (zF a (a + 4)) s.heap H [] := by rw [hHs]; exact va_S.rf
  have hz : H.size = H.size := rfl
  have hinX5 : ∀ w ∈ wsX50, w ∈ wsX5_say := by decide +kernel
  refine lv_iconst (v := 0) hx hb dX5_say_0 (by decide) ?_
  refine lv_istore_n (lv' := [(3, .int 0), (0, .ref a), (1, .int x), (2, .int y)]) hx hb dX5_say_1 rfl hl (by decide) rfl (fun ls hl => ?_)
  have loop2 : ∀ (fu : Nat) (i : Nat), 2 - i < fu → (i ≤ 2) → ∀ (x3 : Int32), x3 = (nI i) → ∀ (H1 : Heap) (lo2 : List Loc), va_P D vwCl (zBw cI a ea (zs1 x hv i) (zs2 (-1) fv i) (zs2 0 ov i) sr mr lr) H1 → H1.size = H.size → va_S (zF a (a + 4)) s.heap H1 lo2 → ∀ ls : Array Slot, lv_has ls 4 [(3, .int x3), (0, .ref a), (1, .int x), (2, .int y)] → W pg l ev ({ frames := 0, cells := 0, slots := 0, locals := 0 } : Room) s m args below meth cd H1 lo2 0 0 (MQ below (zM (fun H1 => va_P D vwCl (zBw cI a ea (zs1 x hv 2) (zs2 (-1) fv 2) (zs2 0 ov 2) y mr lr) H1 ∧ H1.size = H.size) none (zF a (a + 4))) args s 0 0 (zF a (a + 4))) (F0 m 2 ls []) := by
    intro fu
    induction fu with
    | zero => intro i hfu; exact absurd hfu (Nat.not_lt_zero _)
    | succ fu ih =>
      intro i hfu hi2_0 x3 ex3 H1 lo2 hB3 hz hS ls hl
      subst ex3
      refine lv_iload_n hx hb dX5_say_2 rfl (lv_at hl 0 rfl) ?_
      refine lv_iconst (v := 2) hx hb dX5_say_3 (by decide) ?_
      refine lv_icmp_ge (tgt := 48) hx hb dX5_say_4 (by decide) (fun c4 => ?_) (fun c4 => ?_)
      · have c4 := z_le (a := 2) (b := i) c4 (by omega) (by omega)
        have hi9 : i = 2 := by omega
        refine lv_aload_n hx hb dX5_say_48 rfl (lv_at hl 1 rfl) ?_
        refine lv_iload_n hx hb dX5_say_49 rfl (lv_at hl 3 rfl) ?_
        refine z_put (D := D) (ci := 5) (v := .int y) (ty := .int) (C := RX5) (T := TX5) (N := 7) hx hb hts hinX5 tyX5 tyX5_ok nmX5 hown hK hB3 (by simp only [zF]; omega) hS 0 rfl rfl 3 (by decide) (hts _ (List.mem_of_getElem? (i := 4) rfl)) (fun _ h9 => h9) rfl (by decide +kernel) rfl rfl (Nat.le_of_ble_eq_true rfl) dX5_say_50 (fun H4 lo5 hP1 hz1 hk1 hS => ?_)
        have hz : H4.size = H.size := by omega
        have hB6 : va_P D vwCl (zBw cI a ea (zs1 x hv i) (zs2 (-1) fv i) (zs2 0 ov i) y mr lr) H4 := z_set zBw_c hB3 0 rfl hP1 (fun q _ h => hk1 q h)
        exact z_vretM (⟨by subst hi9; exact hB6, hz⟩) hx hb hr hlocks hS dX5_say_53
      · have c4 := z_nle (a := 2) (b := i) c4 (by omega) (by omega)
        refine lv_aload_n hx hb dX5_say_7 rfl (lv_at hl 1 rfl) ?_
        refine va_get (D := D) (ci := 5) (v := .ref (a + 1)) (C := RX5) (T := TX5) (N := 7) hx hb hts hinX5 hown hK hB3 0 rfl rfl 0 (by decide) (hts _ (List.mem_of_getElem? (i := 1) rfl)) (fun _ h9 => h9) rfl dX5_say_8 ?_
        refine lv_iload_n hx hb dX5_say_11 rfl (lv_at hl 0 rfl) ?_
        refine lv_iload_n hx hb dX5_say_12 rfl (lv_at hl 0 rfl) ?_
        refine lv_if_ne (tgt := 23) hx hb dX5_say_13 (by decide) (fun c13 => ?_) (fun c13 => ?_)
        · have c13 := z_ne (a := i) (b := 0) c13 (by omega) (by omega)
          refine lv_iload_n hx hb dX5_say_23 rfl (lv_at hl 2 rfl) ?_
          refine lv_bipush (v := 100) hx hb dX5_say_24 (by decide) ?_
          refine lv_irem hx hb dX5_say_26 (by decide) ?_
          refine z_toi (y := zrem x 100) rfl ?_
          refine z_iast (n := 2) (f := (zs1 x hv i)) (x := (zrem x 100)) (j := i) hx hb hK hB3 (by simp only [zF]; omega) hS 1 0 rfl rfl rfl (by omega) (by omega) dX5_say_27 (fun H7 lo8 hP1 hz1 hk1 hS => ?_)
          have hz : H7.size = H.size := by omega
          have hB9 : va_P D vwCl (zBw cI a ea (upd (zs1 x hv i) i (zrem x 100)) (zs2 (-1) fv i) (zs2 0 ov i) sr mr lr) H7 := z_set zBw_c hB3 1 rfl hP1 (fun q _ h => hk1 q h)
          refine lv_aload_n hx hb dX5_say_28 rfl (lv_at hl 1 rfl) ?_
          refine va_get (D := D) (ci := 5) (v := .ref (a + 2)) (C := RX5) (T := TX5) (N := 7) hx hb hts hinX5 hown hK hB9 0 rfl rfl 1 (by decide) (hts _ (List.mem_of_getElem? (i := 2) rfl)) (fun _ h9 => h9) rfl dX5_say_29 ?_
          refine lv_iload_n hx hb dX5_say_32 rfl (lv_at hl 0 rfl) ?_
          refine lv_iconst (v := (-1)) hx hb dX5_say_33 (by decide) ?_
          refine z_iast (n := 2) (f := (zs2 (-1) fv i)) (x := (-1)) (j := i) hx hb hK hB9 (by simp only [zF]; omega) hS 2 0 rfl rfl rfl (by omega) (by omega) dX5_say_34 (fun H10 lo11 hP1 hz1 hk1 hS => ?_)
          have hz : H10.size = H.size := by omega
          have hB12 : va_P D vwCl (zBw cI a ea (upd (zs1 x hv i) i (zrem x 100)) (upd (zs2 (-1) fv i) i (-1)) (zs2 0 ov i) sr mr lr) H10 := z_set zBw_c hB9 2 rfl hP1 (fun q _ h => hk1 q h)
          refine lv_aload_n hx hb dX5_say_35 rfl (lv_at hl 1 rfl) ?_
          refine va_get (D := D) (ci := 5) (v := .ref (a + 3)) (C := RX5) (T := TX5) (N := 7) hx hb hts hinX5 hown hK hB12 0 rfl rfl 2 (by decide) (hts _ (List.mem_of_getElem? (i := 3) rfl)) (fun _ h9 => h9) rfl dX5_say_36 ?_
          refine lv_iload_n hx hb dX5_say_39 rfl (lv_at hl 0 rfl) ?_
          refine lv_iconst (v := 0) hx hb dX5_say_40 (by decide) ?_
          refine z_iast (n := 2) (f := (zs2 0 ov i)) (x := 0) (j := i) hx hb hK hB12 (by simp only [zF]; omega) hS 3 0 rfl rfl rfl (by omega) (by omega) dX5_say_41 (fun H13 lo14 hP1 hz1 hk1 hS => ?_)
          have hz : H13.size = H.size := by omega
          have hB15 : va_P D vwCl (zBw cI a ea (upd (zs1 x hv i) i (zrem x 100)) (upd (zs2 (-1) fv i) i (-1)) (upd (zs2 0 ov i) i 0) sr mr lr) H13 := z_set zBw_c hB12 3 rfl hP1 (fun q _ h => hk1 q h)
          refine lv_iinc (v := (nI (i + 1))) (lv' := [(3, .int (nI (i + 1))), (0, .ref a), (1, .int x), (2, .int y)]) hx hb dX5_say_42 hl (k := 0) rfl (nI_1 _) (by decide) rfl (fun ls hl => ?_)
          refine lv_goto (tgt := 2) hx hb dX5_say_45 (by decide) ?_
          exact ih (i + 1) (by omega) (by omega) _ (rfl) _ _ (zBw_to hB15 (fun j _ => by first | exact zs1_0 c13 j | exact zs1_1 c13 j) (fun j _ => zs2_s j) (fun j _ => zs2_s j) rfl rfl rfl) hz hS _ (lv_sub hl [0, 1, 2, 3] rfl)
        · have c13 := z_eq (a := i) (b := 0) c13 (by omega) (by omega)
          refine lv_iload_n hx hb dX5_say_16 rfl (lv_at hl 2 rfl) ?_
          refine lv_bipush (v := 100) hx hb dX5_say_17 (by decide) ?_
          refine lv_idiv hx hb dX5_say_19 (by decide) ?_
          refine lv_goto (tgt := 27) hx hb dX5_say_20 (by decide) ?_
          refine z_iast (n := 2) (f := (zs1 x hv i)) (x := (x / 100)) (j := i) hx hb hK hB3 (by simp only [zF]; omega) hS 1 0 rfl rfl rfl (by omega) (by omega) dX5_say_27 (fun H16 lo17 hP1 hz1 hk1 hS => ?_)
          have hz : H16.size = H.size := by omega
          have hB18 : va_P D vwCl (zBw cI a ea (upd (zs1 x hv i) i (x / 100)) (zs2 (-1) fv i) (zs2 0 ov i) sr mr lr) H16 := z_set zBw_c hB3 1 rfl hP1 (fun q _ h => hk1 q h)
          refine lv_aload_n hx hb dX5_say_28 rfl (lv_at hl 1 rfl) ?_
          refine va_get (D := D) (ci := 5) (v := .ref (a + 2)) (C := RX5) (T := TX5) (N := 7) hx hb hts hinX5 hown hK hB18 0 rfl rfl 1 (by decide) (hts _ (List.mem_of_getElem? (i := 2) rfl)) (fun _ h9 => h9) rfl dX5_say_29 ?_
          refine lv_iload_n hx hb dX5_say_32 rfl (lv_at hl 0 rfl) ?_
          refine lv_iconst (v := (-1)) hx hb dX5_say_33 (by decide) ?_
          refine z_iast (n := 2) (f := (zs2 (-1) fv i)) (x := (-1)) (j := i) hx hb hK hB18 (by simp only [zF]; omega) hS 2 0 rfl rfl rfl (by omega) (by omega) dX5_say_34 (fun H19 lo20 hP1 hz1 hk1 hS => ?_)
          have hz : H19.size = H.size := by omega
          have hB21 : va_P D vwCl (zBw cI a ea (upd (zs1 x hv i) i (x / 100)) (upd (zs2 (-1) fv i) i (-1)) (zs2 0 ov i) sr mr lr) H19 := z_set zBw_c hB18 2 rfl hP1 (fun q _ h => hk1 q h)
          refine lv_aload_n hx hb dX5_say_35 rfl (lv_at hl 1 rfl) ?_
          refine va_get (D := D) (ci := 5) (v := .ref (a + 3)) (C := RX5) (T := TX5) (N := 7) hx hb hts hinX5 hown hK hB21 0 rfl rfl 2 (by decide) (hts _ (List.mem_of_getElem? (i := 3) rfl)) (fun _ h9 => h9) rfl dX5_say_36 ?_
          refine lv_iload_n hx hb dX5_say_39 rfl (lv_at hl 0 rfl) ?_
          refine lv_iconst (v := 0) hx hb dX5_say_40 (by decide) ?_
          refine z_iast (n := 2) (f := (zs2 0 ov i)) (x := 0) (j := i) hx hb hK hB21 (by simp only [zF]; omega) hS 3 0 rfl rfl rfl (by omega) (by omega) dX5_say_41 (fun H22 lo23 hP1 hz1 hk1 hS => ?_)
          have hz : H22.size = H.size := by omega
          have hB24 : va_P D vwCl (zBw cI a ea (upd (zs1 x hv i) i (x / 100)) (upd (zs2 (-1) fv i) i (-1)) (upd (zs2 0 ov i) i 0) sr mr lr) H22 := z_set zBw_c hB21 3 rfl hP1 (fun q _ h => hk1 q h)
          refine lv_iinc (v := (nI (i + 1))) (lv' := [(3, .int (nI (i + 1))), (0, .ref a), (1, .int x), (2, .int y)]) hx hb dX5_say_42 hl (k := 0) rfl (nI_1 _) (by decide) rfl (fun ls hl => ?_)
          refine lv_goto (tgt := 2) hx hb dX5_say_45 (by decide) ?_
          exact ih (i + 1) (by omega) (by omega) _ (rfl) _ _ (zBw_to hB24 (fun j _ => by first | exact zs1_0 c13 j | exact zs1_1 c13 j) (fun j _ => zs2_s j) (fun j _ => zs2_s j) rfl rfl rfl) hz hS _ (lv_sub hl [0, 1, 2, 3] rfl)
  exact loop2 _ 0 (Nat.lt_succ_self _) (by omega) _ (rfl) _ _ (zBw_to hB (fun _ _ => rfl) (fun _ _ => rfl) (fun _ _ => rfl) rfl rfl rfl) hz hS _ (lv_sub hl [0, 1, 2, 3] rfl)
set_option maxHeartbeats 4000000 in
set_option maxRecDepth 100000 in
/-- Bird.copy -/
theorem zcX5_copy (l : Launch) (D : va_G) (cI : ClassId) (H : Heap) (a : Nat) (ea : Nat) (hv : Nat → Int32) (fv : Nat → Int32) (ov : Nat → Int32) (sr : Int32) (mr : Int32) (lr : Int32) (t : Nat) (hB : va_P D vwCl (zBw cI a ea hv fv ov sr mr lr) H) (hat : a + 4 ≤ t) (hsz : H.size = t) : Met l yX5_copy wsX5_copy ({ frames := 2, cells := 5, slots := 13, locals := 32 } : Room) (zPc D [(cI, .int)] H [.ref a]) (zM (fun H1 => va_P D vwCl (zBw cI t ea hv fv ov sr mr lr) H1 ∧ H1.size = t + 5) (some (.ref t)) (fun q => t ≤ q)) 5 13 (fun q => t ≤ q) := by
  refine z_enter (cc := cX5_copy) (maxL := 3) (ret := (some (.object "ParrotJuryLaw$Bird"))) (by decide) rfl (Nat.le_of_ble_eq_true rfl) ?_
  intro pg ev s m args below meth cd hfix hr hlocks hname hK hHs ls hl
  obtain ⟨hx, hb, hml, hown, hts⟩ := id hfix
  have hl : lv_has ls 3 [(0, .ref a)] := hl
  have hS : va_S (fun q => t ≤ q) s.heap H [] := by rw [hHs]; exact va_S.rf
  have hz : H.size ≤ H.size := Nat.le_refl _
  have hinX5 : ∀ w ∈ wsX50, w ∈ wsX5_copy := by decide +kernel
  refine z_new (ci := 5) (C := RX5) (T := TX5) (N := 7) (fs := [.null, .null, .null, .int 0, .int 0, .int 0, .null]) hx hb hts hinX5 tyX5 tyX5_ok hown (hts _ (List.mem_of_getElem? (i := 1) rfl)) (hts _ (List.mem_of_getElem? (i := 2) rfl)) (hts _ (List.mem_of_getElem? (i := 3) rfl)) hK rfl (fun j hj => match j, hj with | 0, _ => rfl | 1, _ => rfl | 2, _ => rfl | 3, _ => rfl | 4, _ => rfl | 5, _ => rfl | 6, _ => rfl | _ + 7, h => absurd h (by omega)) (Nat.le_of_ble_eq_true rfl) (Nat.le_of_ble_eq_true rfl) dX5_copy_0 (h := t + 0) hsz (fun H1 hOb2 hz1 hk1 => ?_)
  have hS := z_Sgrow hS (by omega) (fun q h => hk1 q (by omega))
  have hsz : H1.size = t + 1 := by omega
  have hz : H.size ≤ H1.size := by omega
  have hB3 := zBw_kept hB (fun q h1 h2 h3 => (fun q (h9 : q < H.size) (_ : True) => hk1 q (by omega)) q h1 (trivial))
  refine lv_dup hx hb dX5_copy_3 rfl ?_
  refine z_mv (va_runI (As := []) (rest := [.ref t]) hfix (zcX5_init l D cI H1 t hOb2 (by omega)) (cwI 0 hts gX5_copy_X5_init rfl rfl rfl (hts _ (List.mem_of_getElem? (i := 3) rfl)) (hts _ (List.mem_of_getElem? (i := 11) rfl)) (hts _ (List.mem_of_getElem? (i := 12) rfl)) rfl (by decide +kernel) ⟨Nat.le_of_ble_eq_true rfl, Nat.le_of_ble_eq_true rfl⟩) (z_preS hK) rfl rfl hl.1 rfl (lv_room (Nat.le_of_ble_eq_true rfl)) dX5_copy_4 ⟨Nat.le_of_ble_eq_true rfl, Nat.le_of_ble_eq_true rfl⟩) hS (fun q _ h => by have h8 : t ≤ q := h; show t ≤ q; omega) (fun q h => by have h8 : t ≤ q := h; show t ≤ q; omega) (fun H4 lo5 hB hz1 hk1 hS => ?_)
  have hsz : H4.size = t + 5 := by have h9 := hB.2.2; omega
  have hz : H.size ≤ H4.size := by omega
  have hB6 := zBw_kept hB3 (fun q h1 h2 h3 => hk1 q h1 (fun h8 => by have h7 : t ≤ q := h8; omega))
  have hW7 : va_P D vwCl (zBw cI t (t + 4) (fun _ => 0) (fun _ => -1) (fun _ => 0) 0 0 0) H4 := hB.1
  have hEn8 : va_P D vwCl (zAr cI (t + 4) 0 (fun _ => 0)) H4 := hB.2.1
  refine lv_astore_n (lv' := [(1, .ref t), (0, .ref a)]) hx hb dX5_copy_7 rfl hl (by decide) rfl (fun ls hl => ?_)
  refine lv_iconst (v := 0) hx hb dX5_copy_8 (by decide) ?_
  refine lv_istore_n (lv' := [(2, .int 0), (1, .ref t), (0, .ref a)]) hx hb dX5_copy_9 rfl hl (by decide) rfl (fun ls hl => ?_)
  have loop10 : ∀ (fu : Nat) (i : Nat), 2 - i < fu → (i ≤ 2) → ∀ (x2 : Int32), x2 = (nI i) → ∀ (H9 : Heap) (lo10 : List Loc), va_P D vwCl (zBw cI t (t + 4) (zcp hv (fun _ => 0) i) (zcp fv (fun _ => -1) i) (zcp ov (fun _ => 0) i) 0 0 0) H9 → va_P D vwCl (zBw cI a ea hv fv ov sr mr lr) H9 → (H9.size = t + 5) → H.size ≤ H9.size → va_S (fun q => t ≤ q) s.heap H9 lo10 → ∀ ls : Array Slot, lv_has ls 3 [(2, .int x2), (1, .ref t), (0, .ref a)] → W pg l ev ({ frames := 2, cells := 5, slots := 13, locals := 32 } : Room) s m args below meth cd H9 lo10 (0 + 1 + 4) (0 + 7 + 6) (MQ below (zM (fun H1 => va_P D vwCl (zBw cI t ea hv fv ov sr mr lr) H1 ∧ H1.size = t + 5) (some (.ref t)) (fun q => t ≤ q)) args s 5 13 (fun q => t ≤ q)) (F0 m 10 ls []) := by
    intro fu
    induction fu with
    | zero => intro i hfu; exact absurd hfu (Nat.not_lt_zero _)
    | succ fu ih =>
      intro i hfu hi10_0 x2 ex2 H9 lo10 hO11 hB12 hh10_0 hz hS ls hl
      subst ex2
      have hsz := hh10_0
      refine lv_iload_n hx hb dX5_copy_10 rfl (lv_at hl 0 rfl) ?_
      refine lv_iconst (v := 2) hx hb dX5_copy_11 (by decide) ?_
      refine lv_icmp_ge (tgt := 57) hx hb dX5_copy_12 (by decide) (fun c12 => ?_) (fun c12 => ?_)
      · have c12 := z_le (a := 2) (b := i) c12 (by omega) (by omega)
        have hi9 : i = 2 := by omega
        refine lv_aload_n hx hb dX5_copy_57 rfl (lv_at hl 1 rfl) ?_
        refine lv_aload_n hx hb dX5_copy_58 rfl (lv_at hl 2 rfl) ?_
        refine va_get (D := D) (ci := 5) (v := .int sr) (C := RX5) (T := TX5) (N := 7) hx hb hts hinX5 hown hK hB12 0 rfl rfl 3 (by decide) (hts _ (List.mem_of_getElem? (i := 7) rfl)) (fun _ h9 => h9) rfl dX5_copy_59 ?_
        refine z_put (D := D) (ci := 5) (v := .int sr) (ty := .int) (C := RX5) (T := TX5) (N := 7) hx hb hts hinX5 tyX5 tyX5_ok nmX5 hown hK hO11 (by show t ≤ _; omega) hS 0 rfl rfl 3 (by decide) (hts _ (List.mem_of_getElem? (i := 7) rfl)) (fun _ h9 => h9) rfl (by decide +kernel) rfl rfl (Nat.le_of_ble_eq_true rfl) dX5_copy_62 (fun H13 lo14 hP1 hz1 hk1 hS => ?_)
        have hsz : H13.size = t + 5 := by omega
        have hz : H.size ≤ H13.size := by omega
        have hO15 : va_P D vwCl (zBw cI t (t + 4) (zcp hv (fun _ => 0) i) (zcp fv (fun _ => -1) i) (zcp ov (fun _ => 0) i) sr 0 0) H13 := z_set zBw_c hO11 0 rfl hP1 (fun q _ h => hk1 q h)
        have hB16 := zBw_kept hB12 (fun q h1 h2 h3 => (fun q _ h => hk1 q h) q h1 (by omega))
        refine lv_aload_n hx hb dX5_copy_65 rfl (lv_at hl 1 rfl) ?_
        refine lv_aload_n hx hb dX5_copy_66 rfl (lv_at hl 2 rfl) ?_
        refine va_get (D := D) (ci := 5) (v := .int mr) (C := RX5) (T := TX5) (N := 7) hx hb hts hinX5 hown hK hB16 0 rfl rfl 4 (by decide) (hts _ (List.mem_of_getElem? (i := 8) rfl)) (fun _ h9 => h9) rfl dX5_copy_67 ?_
        refine z_put (D := D) (ci := 5) (v := .int mr) (ty := .int) (C := RX5) (T := TX5) (N := 7) hx hb hts hinX5 tyX5 tyX5_ok nmX5 hown hK hO15 (by show t ≤ _; omega) hS 0 rfl rfl 4 (by decide) (hts _ (List.mem_of_getElem? (i := 8) rfl)) (fun _ h9 => h9) rfl (by decide +kernel) rfl rfl (Nat.le_of_ble_eq_true rfl) dX5_copy_70 (fun H17 lo18 hP1 hz1 hk1 hS => ?_)
        have hsz : H17.size = t + 5 := by omega
        have hz : H.size ≤ H17.size := by omega
        have hO19 : va_P D vwCl (zBw cI t (t + 4) (zcp hv (fun _ => 0) i) (zcp fv (fun _ => -1) i) (zcp ov (fun _ => 0) i) sr mr 0) H17 := z_set zBw_c hO15 0 rfl hP1 (fun q _ h => hk1 q h)
        have hB20 := zBw_kept hB16 (fun q h1 h2 h3 => (fun q _ h => hk1 q h) q h1 (by omega))
        refine lv_aload_n hx hb dX5_copy_73 rfl (lv_at hl 1 rfl) ?_
        refine lv_aload_n hx hb dX5_copy_74 rfl (lv_at hl 2 rfl) ?_
        refine va_get (D := D) (ci := 5) (v := .int lr) (C := RX5) (T := TX5) (N := 7) hx hb hts hinX5 hown hK hB20 0 rfl rfl 5 (by decide) (hts _ (List.mem_of_getElem? (i := 9) rfl)) (fun _ h9 => h9) rfl dX5_copy_75 ?_
        refine z_put (D := D) (ci := 5) (v := .int lr) (ty := .int) (C := RX5) (T := TX5) (N := 7) hx hb hts hinX5 tyX5 tyX5_ok nmX5 hown hK hO19 (by show t ≤ _; omega) hS 0 rfl rfl 5 (by decide) (hts _ (List.mem_of_getElem? (i := 9) rfl)) (fun _ h9 => h9) rfl (by decide +kernel) rfl rfl (Nat.le_of_ble_eq_true rfl) dX5_copy_78 (fun H21 lo22 hP1 hz1 hk1 hS => ?_)
        have hsz : H21.size = t + 5 := by omega
        have hz : H.size ≤ H21.size := by omega
        have hO23 : va_P D vwCl (zBw cI t (t + 4) (zcp hv (fun _ => 0) i) (zcp fv (fun _ => -1) i) (zcp ov (fun _ => 0) i) sr mr lr) H21 := z_set zBw_c hO19 0 rfl hP1 (fun q _ h => hk1 q h)
        have hB24 := zBw_kept hB20 (fun q h1 h2 h3 => (fun q _ h => hk1 q h) q h1 (by omega))
        refine lv_aload_n hx hb dX5_copy_81 rfl (lv_at hl 1 rfl) ?_
        refine lv_aload_n hx hb dX5_copy_82 rfl (lv_at hl 2 rfl) ?_
        refine va_get (D := D) (ci := 5) (v := .ref ea) (C := RX5) (T := TX5) (N := 7) hx hb hts hinX5 hown hK hB24 0 rfl rfl 6 (by decide) (hts _ (List.mem_of_getElem? (i := 10) rfl)) (fun _ h9 => h9) rfl dX5_copy_83 ?_
        refine z_put (D := D) (ci := 5) (v := .ref ea) (ty := (.array .int)) (C := RX5) (T := TX5) (N := 7) hx hb hts hinX5 tyX5 tyX5_ok nmX5 hown hK hO23 (by show t ≤ _; omega) hS 0 rfl rfl 6 (by decide) (hts _ (List.mem_of_getElem? (i := 10) rfl)) (fun _ h9 => h9) rfl (by decide +kernel) rfl rfl (Nat.le_of_ble_eq_true rfl) dX5_copy_86 (fun H25 lo26 hP1 hz1 hk1 hS => ?_)
        have hsz : H25.size = t + 5 := by omega
        have hz : H.size ≤ H25.size := by omega
        have hO27 : va_P D vwCl (zBw cI t ea (zcp hv (fun _ => 0) i) (zcp fv (fun _ => -1) i) (zcp ov (fun _ => 0) i) sr mr lr) H25 := z_set zBw_c hO23 0 rfl hP1 (fun q _ h => hk1 q h)
        have hB28 := zBw_kept hB24 (fun q h1 h2 h3 => (fun q _ h => hk1 q h) q h1 (by omega))
        have hW29 : va_P D vwCl (zBw cI t ea hv fv ov sr mr lr) H25 := zBw_to hO27 (fun j hj => by subst hi9; exact zcp_2 hj) (fun j hj => by subst hi9; exact zcp_2 hj) (fun j hj => by subst hi9; exact zcp_2 hj) rfl rfl rfl
        refine lv_aload_n hx hb dX5_copy_89 rfl (lv_at hl 1 rfl) ?_
        refine W.widen (k := 5) (n := 13) (by omega) (by omega) ?_
        exact z_aretM (⟨hW29, hsz⟩) hx hb hr (Or.inl ⟨_, rfl⟩) hlocks hS dX5_copy_90
      · have c12 := z_nle (a := 2) (b := i) c12 (by omega) (by omega)
        refine lv_aload_n hx hb dX5_copy_15 rfl (lv_at hl 1 rfl) ?_
        refine va_get (D := D) (ci := 5) (v := .ref (t + 1)) (C := RX5) (T := TX5) (N := 7) hx hb hts hinX5 hown hK hO11 0 rfl rfl 0 (by decide) (hts _ (List.mem_of_getElem? (i := 4) rfl)) (fun _ h9 => h9) rfl dX5_copy_16 ?_
        refine lv_iload_n hx hb dX5_copy_19 rfl (lv_at hl 0 rfl) ?_
        refine lv_aload_n hx hb dX5_copy_20 rfl (lv_at hl 2 rfl) ?_
        refine va_get (D := D) (ci := 5) (v := .ref (a + 1)) (C := RX5) (T := TX5) (N := 7) hx hb hts hinX5 hown hK hB12 0 rfl rfl 0 (by decide) (hts _ (List.mem_of_getElem? (i := 4) rfl)) (fun _ h9 => h9) rfl dX5_copy_21 ?_
        refine lv_iload_n hx hb dX5_copy_24 rfl (lv_at hl 0 rfl) ?_
        refine z_iald (a := (a + 1)) (n := 2) (f := hv) (j := i) hx hb hK hB12 1 0 rfl rfl rfl (by omega) (by omega) dX5_copy_25 ?_
        refine z_iast (n := 2) (f := (zcp hv (fun _ => 0) i)) (x := (hv i)) (j := i) hx hb hK hO11 (by show t ≤ _; omega) hS 1 0 rfl rfl rfl (by omega) (by omega) dX5_copy_26 (fun H30 lo31 hP1 hz1 hk1 hS => ?_)
        have hsz : H30.size = t + 5 := by omega
        have hz : H.size ≤ H30.size := by omega
        have hO32 : va_P D vwCl (zBw cI t (t + 4) (upd (zcp hv (fun _ => 0) i) i (hv i)) (zcp fv (fun _ => -1) i) (zcp ov (fun _ => 0) i) 0 0 0) H30 := z_set zBw_c hO11 1 rfl hP1 (fun q _ h => hk1 q h)
        have hB33 := zBw_kept hB12 (fun q h1 h2 h3 => (fun q _ h => hk1 q h) q h1 (by omega))
        refine lv_aload_n hx hb dX5_copy_27 rfl (lv_at hl 1 rfl) ?_
        refine va_get (D := D) (ci := 5) (v := .ref (t + 2)) (C := RX5) (T := TX5) (N := 7) hx hb hts hinX5 hown hK hO32 0 rfl rfl 1 (by decide) (hts _ (List.mem_of_getElem? (i := 5) rfl)) (fun _ h9 => h9) rfl dX5_copy_28 ?_
        refine lv_iload_n hx hb dX5_copy_31 rfl (lv_at hl 0 rfl) ?_
        refine lv_aload_n hx hb dX5_copy_32 rfl (lv_at hl 2 rfl) ?_
        refine va_get (D := D) (ci := 5) (v := .ref (a + 2)) (C := RX5) (T := TX5) (N := 7) hx hb hts hinX5 hown hK hB33 0 rfl rfl 1 (by decide) (hts _ (List.mem_of_getElem? (i := 5) rfl)) (fun _ h9 => h9) rfl dX5_copy_33 ?_
        refine lv_iload_n hx hb dX5_copy_36 rfl (lv_at hl 0 rfl) ?_
        refine z_iald (a := (a + 2)) (n := 2) (f := fv) (j := i) hx hb hK hB33 2 0 rfl rfl rfl (by omega) (by omega) dX5_copy_37 ?_
        refine z_iast (n := 2) (f := (zcp fv (fun _ => -1) i)) (x := (fv i)) (j := i) hx hb hK hO32 (by show t ≤ _; omega) hS 2 0 rfl rfl rfl (by omega) (by omega) dX5_copy_38 (fun H34 lo35 hP1 hz1 hk1 hS => ?_)
        have hsz : H34.size = t + 5 := by omega
        have hz : H.size ≤ H34.size := by omega
        have hO36 : va_P D vwCl (zBw cI t (t + 4) (upd (zcp hv (fun _ => 0) i) i (hv i)) (upd (zcp fv (fun _ => -1) i) i (fv i)) (zcp ov (fun _ => 0) i) 0 0 0) H34 := z_set zBw_c hO32 2 rfl hP1 (fun q _ h => hk1 q h)
        have hB37 := zBw_kept hB33 (fun q h1 h2 h3 => (fun q _ h => hk1 q h) q h1 (by omega))
        refine lv_aload_n hx hb dX5_copy_39 rfl (lv_at hl 1 rfl) ?_
        refine va_get (D := D) (ci := 5) (v := .ref (t + 3)) (C := RX5) (T := TX5) (N := 7) hx hb hts hinX5 hown hK hO36 0 rfl rfl 2 (by decide) (hts _ (List.mem_of_getElem? (i := 6) rfl)) (fun _ h9 => h9) rfl dX5_copy_40 ?_
        refine lv_iload_n hx hb dX5_copy_43 rfl (lv_at hl 0 rfl) ?_
        refine lv_aload_n hx hb dX5_copy_44 rfl (lv_at hl 2 rfl) ?_
        refine va_get (D := D) (ci := 5) (v := .ref (a + 3)) (C := RX5) (T := TX5) (N := 7) hx hb hts hinX5 hown hK hB37 0 rfl rfl 2 (by decide) (hts _ (List.mem_of_getElem? (i := 6) rfl)) (fun _ h9 => h9) rfl dX5_copy_45 ?_
        refine lv_iload_n hx hb dX5_copy_48 rfl (lv_at hl 0 rfl) ?_
        refine z_iald (a := (a + 3)) (n := 2) (f := ov) (j := i) hx hb hK hB37 3 0 rfl rfl rfl (by omega) (by omega) dX5_copy_49 ?_
        refine z_iast (n := 2) (f := (zcp ov (fun _ => 0) i)) (x := (ov i)) (j := i) hx hb hK hO36 (by show t ≤ _; omega) hS 3 0 rfl rfl rfl (by omega) (by omega) dX5_copy_50 (fun H38 lo39 hP1 hz1 hk1 hS => ?_)
        have hsz : H38.size = t + 5 := by omega
        have hz : H.size ≤ H38.size := by omega
        have hO40 : va_P D vwCl (zBw cI t (t + 4) (upd (zcp hv (fun _ => 0) i) i (hv i)) (upd (zcp fv (fun _ => -1) i) i (fv i)) (upd (zcp ov (fun _ => 0) i) i (ov i)) 0 0 0) H38 := z_set zBw_c hO36 3 rfl hP1 (fun q _ h => hk1 q h)
        have hB41 := zBw_kept hB37 (fun q h1 h2 h3 => (fun q _ h => hk1 q h) q h1 (by omega))
        refine lv_iinc (v := (nI (i + 1))) (lv' := [(2, .int (nI (i + 1))), (1, .ref t), (0, .ref a)]) hx hb dX5_copy_51 hl (k := 0) rfl (nI_1 _) (by decide) rfl (fun ls hl => ?_)
        refine lv_goto (tgt := 10) hx hb dX5_copy_54 (by decide) ?_
        exact ih (i + 1) (by omega) (by omega) _ (rfl) _ _ (zBw_to hO40 (fun j _ => zcp_s j) (fun j _ => zcp_s j) (fun j _ => zcp_s j) rfl rfl rfl) (hB41) (hsz) hz hS _ (lv_sub hl [0, 1, 2] rfl)
  exact loop10 _ 0 (Nat.lt_succ_self _) (by omega) _ (rfl) _ _ (zBw_to hW7 (fun _ _ => rfl) (fun _ _ => rfl) (fun _ _ => rfl) rfl rfl rfl) hB6 (hsz) hz hS _ (lv_sub hl [0, 1, 2] rfl)
