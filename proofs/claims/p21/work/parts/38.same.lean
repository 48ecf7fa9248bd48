set_option maxHeartbeats 4000000 in
set_option maxRecDepth 100000 in
/-- Sim.isSame -/
theorem zcX6_isSame (l : Launch) (D : va_G) (cI : ClassId) (cR : ClassId) (H : Heap) (o : Nat) (t : Nat) (ar : Nat) (n : Nat) (B : Nat → Nat) (E : Nat → Nat) (me : Nat → Int32) (lo : Nat → Int32) (c : Nat → Nat) (e : Nat → Nat) (rd : Int32) (tk : Int32) (g : zG) (b : Nat) (hSm : zSm D cI cR o t ar n B E me lo c e rd tk g H) (hI : zI n me lo c e) (hsz : H.size = t) (hC : zCW D cI b n me lo c e rd tk g H) (hZ : zJ n g) (hV : zV n g) (hb9 : b + 61 ≤ o) : Met l yX6_isSame wsX6_isSame ({ frames := 7, cells := 13, slots := 90, locals := 151 } : Room) (zPk D [(cI, .int), (cR, .object zBC)] H [.ref o, .ref b]) (zM (fun _ => True) (some (.int 1)) (fun q => t ≤ q)) 13 90 (fun q => t ≤ q) := by
  refine z_kenter (cc := cX6_isSame) (maxL := 10) (ret := (some .boolean)) (by decide) rfl (Nat.le_of_ble_eq_true rfl) ?_
  intro pg ev s m args below meth cd hfix hr hlocks hname hK hHs hKw ls hl
  have hK1 : va_K D vwCl [(cI, .int)] s := hK.sub [0] rfl
  obtain ⟨hx, hb, hml, hown, hts⟩ := id hfix
  have hl : lv_has ls 10 [(0, .ref o), (1, .ref b)] := hl
  have hS : va_S (fun q => t ≤ q) s.heap H [] := by rw [hHs]; exact va_S.rf
  have hz : H.size ≤ H.size := Nat.le_refl _
  have hinX5 : ∀ w ∈ wsX50, w ∈ wsX6_isSame := by decide +kernel
  have hinX6 : ∀ w ∈ wsX60, w ∈ wsX6_isSame := by decide +kernel
  obtain ⟨hO, hQ, hF, hsp⟩ := id hSm
  obtain ⟨⟨ho1, ho2, ho3⟩, -, -⟩ := id hsp
  have hn := zI_n hI
  refine lv_iconst (v := 0) hx hb dX6_isSame_0 (by decide) ?_
  refine lv_istore_n (lv' := [(2, .int 0), (0, .ref o), (1, .ref b)]) hx hb dX6_isSame_1 rfl hl (by decide) rfl (fun ls hl => ?_)
  refine lv_iconst (v := 0) hx hb dX6_isSame_2 (by decide) ?_
  refine lv_istore_n (lv' := [(3, .int 0), (2, .int 0), (0, .ref o), (1, .ref b)]) hx hb dX6_isSame_3 rfl hl (by decide) rfl (fun ls hl => ?_)
  have loop4 : ∀ (fu : Nat) (k : Nat), n - k < fu → (k ≤ n) → ∀ (x3 : Int32), x3 = (nI k) → ∀ (x2 : Int32), x2 = (nI (ct g k)) → ∀ (H1 : Heap) (lo2 : List Loc), va_P D vwCl [(o, .inr (6, [.ref ar, .int rd, .int tk]))] H1 → va_P D vwCl (zQr cR ar n (zbf n B)) H1 → zFm D cI n B E me lo c e g H1 → zCW D cI b n me lo c e rd tk g H1 → (H1.size = t + k) → H.size ≤ H1.size → va_S (fun q => t ≤ q) s.heap H1 lo2 → ∀ ls : Array Slot, lv_has ls 10 [(3, .int x3), (2, .int x2), (0, .ref o), (1, .ref b)] → W pg l ev ({ frames := 7, cells := 13, slots := 90, locals := 151 } : Room) s m args below meth cd H1 lo2 k (7 * k) (MQ below (zM (fun _ => True) (some (.int 1)) (fun q => t ≤ q)) args s 13 90 (fun q => t ≤ q)) (F0 m 4 ls []) := by
    intro fu
    induction fu with
    | zero => intro k hfu; exact absurd hfu (Nat.not_lt_zero _)
    | succ fu ih =>
      intro k hfu hi4_0 x3 ex3 x2 ex2 H1 lo2 hO3 hQ4 hF5 hC6 hh4_0 hz hS ls hl
      subst ex3
      subst ex2
      have hsz : _ := hh4_0
      refine lv_iload_n hx hb dX6_isSame_4 rfl (lv_at hl 0 rfl) ?_
      refine lv_aload_n hx hb dX6_isSame_5 rfl (lv_at hl 2 rfl) ?_
      refine va_get (D := D) (ci := 6) (v := .ref ar) (C := RX6) (T := TX6) (N := 3) hx hb hts hinX6 hown hK hO3 0 rfl rfl 0 (by decide) (hts _ (List.mem_of_getElem? (i := 1) rfl)) (fun _ h9 => h9) rfl dX6_isSame_6 ?_
      refine z_qlen (n := n) (f := (zbf n B)) hx hb hK hQ4 0 1 rfl rfl dX6_isSame_9 ?_
      refine lv_icmp_ge (tgt := 338) hx hb dX6_isSame_10 (by decide) (fun c10 => ?_) (fun c10 => ?_)
      · have c10 := z_le (a := n) (b := k) c10 (by omega) (by omega)
        have hkn9 : k = n := by omega
        refine lv_bipush (v := 6) hx hb dX6_isSame_338 (by decide) ?_
        refine z_newi hx hb (hts _ (List.mem_of_getElem? (i := 2) rfl)) hK 0 rfl (N := 6) rfl (by omega) (by show k + 1 ≤ 13; omega) (by show 7 * k + 6 ≤ 90; omega) dX6_isSame_340 (h := (t + k) + 0) hsz (fun H7 hAr8 hz1 hk1 => ?_)
        have hS := z_Sgrow hS (by omega) (fun q h => hk1 q (by omega))
        have hsz : H7.size = (t + k) + 1 := by omega
        have hz : H.size ≤ H7.size := by omega
        have hO9 := zOb_kept hO3 (fun q h1 h2 h3 => (fun q (h9 : q < H1.size) (_ : True) => hk1 q (by omega)) q h1 (trivial))
        have hQ10 := zQr_kept hQ4 (fun q h1 h2 h3 => (fun q (h9 : q < H1.size) (_ : True) => hk1 q (by omega)) q h1 (trivial))
        have hF11 := zFm_kept hsp hF5 (fun q h1 h2 h3 => (fun q (h9 : q < H1.size) (_ : True) => hk1 q (by omega)) q h1 (trivial))
        have hC12 := zCW_kept hC6 (fun q h1 h2 h3 => (fun q (h9 : q < H1.size) (_ : True) => hk1 q (by omega)) q h1 (trivial))
        refine lv_dup hx hb dX6_isSame_342 rfl ?_
        refine lv_iconst (v := 0) hx hb dX6_isSame_343 (by decide) ?_
        refine lv_aload_n hx hb dX6_isSame_344 rfl (lv_at hl 2 rfl) ?_
        refine va_get (D := D) (ci := 6) (v := .int rd) (C := RX6) (T := TX6) (N := 3) hx hb hts hinX6 hown hK hO9 0 rfl rfl 1 (by decide) (hts _ (List.mem_of_getElem? (i := 10) rfl)) (fun _ h9 => h9) rfl dX6_isSame_345 ?_
        refine z_iast (n := 6) (f := (fun _ => 0)) (x := rd) (j := 0) hx hb hK hAr8 (by show t ≤ _; omega) hS 0 0 rfl rfl rfl (by omega) (by omega) dX6_isSame_348 (fun H13 lo14 hP1 hz1 hk1 hS => ?_)
        have hsz : H13.size = (t + k) + 1 := by omega
        have hz : H.size ≤ H13.size := by omega
        have hO15 := zOb_kept hO9 (fun q h1 h2 h3 => (fun q _ h => hk1 q h) q h1 (by omega))
        have hQ16 := zQr_kept hQ10 (fun q h1 h2 h3 => (fun q _ h => hk1 q h) q h1 (by omega))
        have hF17 := zFm_kept hsp hF11 (fun q h1 h2 h3 => (fun q _ h => hk1 q h) q h1 (by omega))
        have hC18 := zCW_kept hC12 (fun q h1 h2 h3 => (fun q _ h => hk1 q h) q h1 (by omega))
        have hAr19 : va_P D vwCl (zAr cI (t + k) 6 (upd (fun _ => 0) 0 rd)) H13 := z_set zAr_c hAr8 0 rfl hP1 (fun q _ h => hk1 q h)
        refine lv_dup hx hb dX6_isSame_349 rfl ?_
        refine lv_iconst (v := 1) hx hb dX6_isSame_350 (by decide) ?_
        refine lv_aload_n hx hb dX6_isSame_351 rfl (lv_at hl 2 rfl) ?_
        refine va_get (D := D) (ci := 6) (v := .ref ar) (C := RX6) (T := TX6) (N := 3) hx hb hts hinX6 hown hK hO15 0 rfl rfl 0 (by decide) (hts _ (List.mem_of_getElem? (i := 1) rfl)) (fun _ h9 => h9) rfl dX6_isSame_352 ?_
        refine z_qlen (n := n) (f := (zbf n B)) hx hb hK hQ16 0 1 rfl rfl dX6_isSame_355 ?_
        refine z_iast (n := 6) (f := (upd (fun _ => 0) 0 rd)) (x := (nI n)) (j := 1) hx hb hK hAr19 (by show t ≤ _; omega) hS 0 0 rfl rfl rfl (by omega) (by omega) dX6_isSame_356 (fun H20 lo21 hP1 hz1 hk1 hS => ?_)
        have hsz : H20.size = (t + k) + 1 := by omega
        have hz : H.size ≤ H20.size := by omega
        have hO22 := zOb_kept hO15 (fun q h1 h2 h3 => (fun q _ h => hk1 q h) q h1 (by omega))
        have hQ23 := zQr_kept hQ16 (fun q h1 h2 h3 => (fun q _ h => hk1 q h) q h1 (by omega))
        have hF24 := zFm_kept hsp hF17 (fun q h1 h2 h3 => (fun q _ h => hk1 q h) q h1 (by omega))
        have hC25 := zCW_kept hC18 (fun q h1 h2 h3 => (fun q _ h => hk1 q h) q h1 (by omega))
        have hAr26 : va_P D vwCl (zAr cI (t + k) 6 (upd (upd (fun _ => 0) 0 rd) 1 (nI n))) H20 := z_set zAr_c hAr19 0 rfl hP1 (fun q _ h => hk1 q h)
        refine lv_dup hx hb dX6_isSame_357 rfl ?_
        refine lv_iconst (v := 2) hx hb dX6_isSame_358 (by decide) ?_
        refine lv_aload_n hx hb dX6_isSame_359 rfl (lv_at hl 2 rfl) ?_
        refine z_ki (va_runV (As := []) (rest := [.int 2, .ref (t + k), .ref (t + k)]) hfix (zcX6_words l D cI cR H20 o t ar n B E me lo c e rd tk g (⟨hO22, hQ23, hF24, hsp⟩) hI) (cwV 0 hts gX6_isSame_X6_words rfl rfl rfl (by decide +kernel) ⟨Nat.le_of_ble_eq_true rfl, Nat.le_of_ble_eq_true rfl⟩) (z_kpreV hKw hK hK hO22 (ci := 6) (q0 := 0) rfl rfl rfl) rfl rfl hl.1 rfl (lv_room (Nat.le_of_ble_eq_true rfl)) dX6_isSame_360 ⟨by show k + 1 + 0 ≤ 13; omega, by show 7 * k + 6 + 0 ≤ 90; omega⟩) ?_
        refine z_iast (n := 6) (f := (upd (upd (fun _ => 0) 0 rd) 1 (nI n))) (x := (nI (dw g n))) (j := 2) hx hb hK hAr26 (by show t ≤ _; omega) hS 0 0 rfl rfl rfl (by omega) (by omega) dX6_isSame_363 (fun H27 lo28 hP1 hz1 hk1 hS => ?_)
        have hsz : H27.size = (t + k) + 1 := by omega
        have hz : H.size ≤ H27.size := by omega
        have hO29 := zOb_kept hO22 (fun q h1 h2 h3 => (fun q _ h => hk1 q h) q h1 (by omega))
        have hQ30 := zQr_kept hQ23 (fun q h1 h2 h3 => (fun q _ h => hk1 q h) q h1 (by omega))
        have hF31 := zFm_kept hsp hF24 (fun q h1 h2 h3 => (fun q _ h => hk1 q h) q h1 (by omega))
        have hC32 := zCW_kept hC25 (fun q h1 h2 h3 => (fun q _ h => hk1 q h) q h1 (by omega))
        have hAr33 : va_P D vwCl (zAr cI (t + k) 6 (upd (upd (upd (fun _ => 0) 0 rd) 1 (nI n)) 2 (nI (dw g n)))) H27 := z_set zAr_c hAr26 0 rfl hP1 (fun q _ h => hk1 q h)
        refine lv_dup hx hb dX6_isSame_364 rfl ?_
        refine lv_iconst (v := 3) hx hb dX6_isSame_365 (by decide) ?_
        refine lv_iload_n hx hb dX6_isSame_366 rfl (lv_at hl 1 rfl) ?_
        refine z_iast (n := 6) (f := (upd (upd (upd (fun _ => 0) 0 rd) 1 (nI n)) 2 (nI (dw g n)))) (x := (nI (ct g k))) (j := 3) hx hb hK hAr33 (by show t ≤ _; omega) hS 0 0 rfl rfl rfl (by omega) (by omega) dX6_isSame_367 (fun H34 lo35 hP1 hz1 hk1 hS => ?_)
        have hsz : H34.size = (t + k) + 1 := by omega
        have hz : H.size ≤ H34.size := by omega
        have hO36 := zOb_kept hO29 (fun q h1 h2 h3 => (fun q _ h => hk1 q h) q h1 (by omega))
        have hQ37 := zQr_kept hQ30 (fun q h1 h2 h3 => (fun q _ h => hk1 q h) q h1 (by omega))
        have hF38 := zFm_kept hsp hF31 (fun q h1 h2 h3 => (fun q _ h => hk1 q h) q h1 (by omega))
        have hC39 := zCW_kept hC32 (fun q h1 h2 h3 => (fun q _ h => hk1 q h) q h1 (by omega))
        have hAr40 : va_P D vwCl (zAr cI (t + k) 6 (upd (upd (upd (upd (fun _ => 0) 0 rd) 1 (nI n)) 2 (nI (dw g n))) 3 (nI (ct g k)))) H34 := z_set zAr_c hAr33 0 rfl hP1 (fun q _ h => hk1 q h)
        refine lv_dup hx hb dX6_isSame_368 rfl ?_
        refine lv_iconst (v := 4) hx hb dX6_isSame_369 (by decide) ?_
        refine lv_aload_n hx hb dX6_isSame_370 rfl (lv_at hl 2 rfl) ?_
        refine z_ki (va_runV (As := []) (rest := [.int 4, .ref (t + k), .ref (t + k)]) hfix (zcX6_sure l D cI cR H34 o t ar n B E me lo c e rd tk g (⟨hO36, hQ37, hF38, hsp⟩) hI) (cwV 0 hts gX6_isSame_X6_sure rfl rfl rfl (by decide +kernel) ⟨Nat.le_of_ble_eq_true rfl, Nat.le_of_ble_eq_true rfl⟩) (z_kpreV hKw hK hK hO36 (ci := 6) (q0 := 0) rfl rfl rfl) rfl rfl hl.1 rfl (lv_room (Nat.le_of_ble_eq_true rfl)) dX6_isSame_371 ⟨by show k + 1 + 0 ≤ 13; omega, by show 7 * k + 6 + 0 ≤ 90; omega⟩) ?_
        refine z_iast (n := 6) (f := (upd (upd (upd (upd (fun _ => 0) 0 rd) 1 (nI n)) 2 (nI (dw g n))) 3 (nI (ct g k)))) (x := (su g n)) (j := 4) hx hb hK hAr40 (by show t ≤ _; omega) hS 0 0 rfl rfl rfl (by omega) (by omega) dX6_isSame_374 (fun H41 lo42 hP1 hz1 hk1 hS => ?_)
        have hsz : H41.size = (t + k) + 1 := by omega
        have hz : H.size ≤ H41.size := by omega
        have hO43 := zOb_kept hO36 (fun q h1 h2 h3 => (fun q _ h => hk1 q h) q h1 (by omega))
        have hQ44 := zQr_kept hQ37 (fun q h1 h2 h3 => (fun q _ h => hk1 q h) q h1 (by omega))
        have hF45 := zFm_kept hsp hF38 (fun q h1 h2 h3 => (fun q _ h => hk1 q h) q h1 (by omega))
        have hC46 := zCW_kept hC39 (fun q h1 h2 h3 => (fun q _ h => hk1 q h) q h1 (by omega))
        have hAr47 : va_P D vwCl (zAr cI (t + k) 6 (upd (upd (upd (upd (upd (fun _ => 0) 0 rd) 1 (nI n)) 2 (nI (dw g n))) 3 (nI (ct g k))) 4 (su g n))) H41 := z_set zAr_c hAr40 0 rfl hP1 (fun q _ h => hk1 q h)
        refine lv_dup hx hb dX6_isSame_375 rfl ?_
        refine lv_iconst (v := 5) hx hb dX6_isSame_376 (by decide) ?_
        refine lv_aload_n hx hb dX6_isSame_377 rfl (lv_at hl 2 rfl) ?_
        refine va_get (D := D) (ci := 6) (v := .int tk) (C := RX6) (T := TX6) (N := 3) hx hb hts hinX6 hown hK hO43 0 rfl rfl 2 (by decide) (hts _ (List.mem_of_getElem? (i := 11) rfl)) (fun _ h9 => h9) rfl dX6_isSame_378 ?_
        refine z_iast (n := 6) (f := (upd (upd (upd (upd (upd (fun _ => 0) 0 rd) 1 (nI n)) 2 (nI (dw g n))) 3 (nI (ct g k))) 4 (su g n))) (x := tk) (j := 5) hx hb hK hAr47 (by show t ≤ _; omega) hS 0 0 rfl rfl rfl (by omega) (by omega) dX6_isSame_381 (fun H48 lo49 hP1 hz1 hk1 hS => ?_)
        have hsz : H48.size = (t + k) + 1 := by omega
        have hz : H.size ≤ H48.size := by omega
        have hO50 := zOb_kept hO43 (fun q h1 h2 h3 => (fun q _ h => hk1 q h) q h1 (by omega))
        have hQ51 := zQr_kept hQ44 (fun q h1 h2 h3 => (fun q _ h => hk1 q h) q h1 (by omega))
        have hF52 := zFm_kept hsp hF45 (fun q h1 h2 h3 => (fun q _ h => hk1 q h) q h1 (by omega))
        have hC53 := zCW_kept hC46 (fun q h1 h2 h3 => (fun q _ h => hk1 q h) q h1 (by omega))
        have hAr54 : va_P D vwCl (zAr cI (t + k) 6 (upd (upd (upd (upd (upd (upd (fun _ => 0) 0 rd) 1 (nI n)) 2 (nI (dw g n))) 3 (nI (ct g k))) 4 (su g n)) 5 tk)) H48 := z_set zAr_c hAr47 0 rfl hP1 (fun q _ h => hk1 q h)
        have hT55 : va_P D vwCl (zAr cI (t + k) 6 (tj n (rd, tk, g))) H48 := z_arr_ext hAr54 (fun j hj => ztold_j hkn9 hj)
        refine lv_astore_n (lv' := [(3, .ref (t + k)), (2, .int (nI (ct g k))), (0, .ref o), (1, .ref b)]) hx hb dX6_isSame_382 rfl hl (by decide) rfl (fun ls hl => ?_)
        refine lv_iconst (v := 0) hx hb dX6_isSame_383 (by decide) ?_
        refine lv_istore (lv' := [(4, .int 0), (3, .ref (t + k)), (2, .int (nI (ct g k))), (0, .ref o), (1, .ref b)]) hx hb dX6_isSame_384 hl (by decide) rfl (fun ls hl => ?_)
        have loop386 : ∀ (fu : Nat) (u : Nat), 6 - u < fu → (u ≤ 6) → ∀ (x4 : Int32), x4 = (nI u) → ∀ ls : Array Slot, lv_has ls 10 [(4, .int x4), (3, .ref (t + k)), (2, .int (nI (ct g k))), (0, .ref o), (1, .ref b)] → W pg l ev ({ frames := 7, cells := 13, slots := 90, locals := 151 } : Room) s m args below meth cd H48 lo49 (k + 1) (7 * k + 6) (MQ below (zM (fun _ => True) (some (.int 1)) (fun q => t ≤ q)) args s 13 90 (fun q => t ≤ q)) (F0 m 386 ls []) := by
          intro fu
          induction fu with
          | zero => intro u hfu; exact absurd hfu (Nat.not_lt_zero _)
          | succ fu ih386 =>
            intro u hfu hi386_0 x4 ex4 ls hl
            subst ex4
            refine lv_iload hx hb dX6_isSame_386 (lv_at hl 0 rfl) ?_
            refine lv_bipush (v := 6) hx hb dX6_isSame_388 (by decide) ?_
            refine lv_icmp_ge (tgt := 414) hx hb dX6_isSame_390 (by decide) (fun c390 => ?_) (fun c390 => ?_)
            · have c390 := z_le (a := 6) (b := u) c390 (by omega) (by omega)
              refine lv_aload_n hx hb dX6_isSame_414 rfl (lv_at hl 4 rfl) ?_
              refine z_kd (va_runV (As := []) (rest := []) hfix (zcX4_mean l D cI H48 b n me lo c e rd tk g hC53.1 hC53.2.1 hC53.2.2.1 hI hZ) (cwV 0 hts gX6_isSame_X4_mean rfl rfl rfl (by decide +kernel) ⟨Nat.le_of_ble_eq_true rfl, Nat.le_of_ble_eq_true rfl⟩) (z_preV hK hK1 hC53.1 (ci := 4) (q0 := 0) rfl rfl rfl) rfl rfl hl.1 rfl (lv_room (Nat.le_of_ble_eq_true rfl)) dX6_isSame_415 ⟨by show k + 1 + 0 ≤ 13; omega, by show 7 * k + 6 + 0 ≤ 90; omega⟩) ?_
              refine lv_aload_n hx hb dX6_isSame_418 rfl (lv_at hl 3 rfl) ?_
              refine va_get (D := D) (ci := 6) (v := .ref ar) (C := RX6) (T := TX6) (N := 3) hx hb hts hinX6 hown hK hO50 0 rfl rfl 0 (by decide) (hts _ (List.mem_of_getElem? (i := 1) rfl)) (fun _ h9 => h9) rfl dX6_isSame_419 ?_
              refine z_qlen (n := n) (f := (zbf n B)) hx hb hK hQ51 0 1 rfl rfl dX6_isSame_422 ?_
              refine lv_if_ne (tgt := 430) hx hb dX6_isSame_423 (by decide) (fun c423 => ?_) (fun c423 => ?_)
              · have c423 := z_ne (a := n) (b := 0) c423 (by omega) (by omega)
                refine lv_aload_n hx hb dX6_isSame_430 rfl (lv_at hl 3 rfl) ?_
                refine z_ki (va_runV (As := []) (rest := [.double (zmean n g)]) hfix (zcX6_sure l D cI cR H48 o t ar n B E me lo c e rd tk g (⟨hO50, hQ51, hF52, hsp⟩) hI) (cwV 0 hts gX6_isSame_X6_sure rfl rfl rfl (by decide +kernel) ⟨Nat.le_of_ble_eq_true rfl, Nat.le_of_ble_eq_true rfl⟩) (z_kpreV hKw hK hK hO50 (ci := 6) (q0 := 0) rfl rfl rfl) rfl rfl hl.1 rfl (lv_room (Nat.le_of_ble_eq_true rfl)) dX6_isSame_431 ⟨by show k + 1 + 0 ≤ 13; omega, by show 7 * k + 6 + 0 ≤ 90; omega⟩) ?_
                refine lv_i2d hx hb dX6_isSame_434 ?_
                refine lv_aload_n hx hb dX6_isSame_435 rfl (lv_at hl 3 rfl) ?_
                refine va_get (D := D) (ci := 6) (v := .ref ar) (C := RX6) (T := TX6) (N := 3) hx hb hts hinX6 hown hK hO50 0 rfl rfl 0 (by decide) (hts _ (List.mem_of_getElem? (i := 1) rfl)) (fun _ h9 => h9) rfl dX6_isSame_436 ?_
                refine z_qlen (n := n) (f := (zbf n B)) hx hb hK hQ51 0 1 rfl rfl dX6_isSame_439 ?_
                refine lv_i2d hx hb dX6_isSame_440 ?_
                refine lv_ddiv hx hb dX6_isSame_441 (zd_nan2 hn (by omega) hZ) ?_
                refine lv_dcmp hx hb dX6_isSame_442 ?_
                refine lv_if_ne (tgt := 450) hx hb dX6_isSame_443 (by decide) (fun c443 => ?_) (fun c443 => ?_)
                · exact absurd (zmean_n hn (by omega) hZ) c443
                · refine lv_iconst (v := 1) hx hb dX6_isSame_446 (by decide) ?_
                  refine lv_goto (tgt := 451) hx hb dX6_isSame_447 (by decide) ?_
                  refine W.widen (k := 13) (n := 90) (by omega) (by omega) ?_
                  exact z_zretM (trivial) hx hb hr (by decide) hlocks hS dX6_isSame_451
              · have c423 := z_eq (a := n) (b := 0) c423 (by omega) (by omega)
                refine lv_dconst0 hx hb dX6_isSame_426 ?_
                refine lv_goto (tgt := 442) hx hb dX6_isSame_427 (by decide) ?_
                refine lv_dcmp hx hb dX6_isSame_442 ?_
                refine lv_if_ne (tgt := 450) hx hb dX6_isSame_443 (by decide) (fun c443 => ?_) (fun c443 => ?_)
                · exact absurd (zmean_z (by omega)) c443
                · refine lv_iconst (v := 1) hx hb dX6_isSame_446 (by decide) ?_
                  refine lv_goto (tgt := 451) hx hb dX6_isSame_447 (by decide) ?_
                  refine W.widen (k := 13) (n := 90) (by omega) (by omega) ?_
                  exact z_zretM (trivial) hx hb hr (by decide) hlocks hS dX6_isSame_451
            · have c390 := z_nle (a := 6) (b := u) c390 (by omega) (by omega)
              refine lv_aload_n hx hb dX6_isSame_393 rfl (lv_at hl 4 rfl) ?_
              refine lv_iload hx hb dX6_isSame_394 (lv_at hl 0 rfl) ?_
              refine z_ki (va_runV (As := [.int (nI u)]) (rest := []) hfix (zcX4_count_k l D cI H48 b n me lo c e rd tk g u hC53 hI (by omega)) (cwV 1 hts gX6_isSame_X4_count rfl rfl rfl (by decide +kernel) ⟨Nat.le_of_ble_eq_true rfl, Nat.le_of_ble_eq_true rfl⟩) (z_preV hK hK1 hC53.1 (ci := 4) (q0 := 0) rfl rfl rfl) rfl rfl hl.1 rfl (lv_room (Nat.le_of_ble_eq_true rfl)) dX6_isSame_396 ⟨by show k + 1 + 0 ≤ 13; omega, by show 7 * k + 6 + 0 ≤ 90; omega⟩) ?_
              refine lv_aload_n hx hb dX6_isSame_399 rfl (lv_at hl 1 rfl) ?_
              refine lv_iload hx hb dX6_isSame_400 (lv_at hl 0 rfl) ?_
              refine z_iald (a := (t + k)) (n := 6) (f := (tj n (rd, tk, g))) (j := u) hx hb hK hT55 0 0 rfl rfl rfl (by omega) (by omega) dX6_isSame_402 ?_
              refine lv_icmp_eq (tgt := 408) hx hb dX6_isSame_403 (by decide) (fun c403 => ?_) (fun c403 => ?_)
              · refine lv_iinc (v := (nI (u + 1))) (lv' := [(4, .int (nI (u + 1))), (3, .ref (t + k)), (2, .int (nI (ct g k))), (0, .ref o), (1, .ref b)]) hx hb dX6_isSame_408 hl (k := 0) rfl (nI_1 _) (by decide) rfl (fun ls hl => ?_)
                refine lv_goto (tgt := 386) hx hb dX6_isSame_411 (by decide) ?_
                exact ih386 (u + 1) (by omega) (by omega) _ (rfl) _ (lv_sub hl [0, 1, 2, 3, 4] rfl)
              · exact absurd rfl c403
        exact loop386 _ 0 (Nat.lt_succ_self _) (by omega) _ (rfl) _ (lv_sub hl [0, 1, 2, 3, 4] rfl)
      · have c10 := z_nle (a := n) (b := k) c10 (by omega) (by omega)
        refine lv_aload_n hx hb dX6_isSame_13 rfl (lv_at hl 2 rfl) ?_
        refine va_get (D := D) (ci := 6) (v := .ref ar) (C := RX6) (T := TX6) (N := 3) hx hb hts hinX6 hown hK hO3 0 rfl rfl 0 (by decide) (hts _ (List.mem_of_getElem? (i := 1) rfl)) (fun _ h9 => h9) rfl dX6_isSame_14 ?_
        refine lv_iload_n hx hb dX6_isSame_17 rfl (lv_at hl 0 rfl) ?_
        refine z_aald (a := ar) (n := n) (f := (zbf n B)) (j := k) hx hb hK hQ4 0 1 rfl rfl rfl rfl (by omega) (by omega) (zbf_in (by omega)) dX6_isSame_18 ?_
        obtain ⟨hBdm56, hEam56⟩ := hF5 k (by omega)
        obtain ⟨⟨sb1m56, sb2m56⟩, ⟨se1m56, se2m56⟩, sam56⟩ := hsp.2.1 k (by omega)
        refine lv_astore (lv' := [(4, .ref (B k)), (3, .int (nI k)), (2, .int (nI (ct g k))), (0, .ref o), (1, .ref b)]) hx hb dX6_isSame_19 hl (by decide) rfl (fun ls hl => ?_)
        refine lv_iconst (v := 0) hx hb dX6_isSame_21 (by decide) ?_
        refine lv_istore (lv' := [(5, .int 0), (4, .ref (B k)), (3, .int (nI k)), (2, .int (nI (ct g k))), (0, .ref o), (1, .ref b)]) hx hb dX6_isSame_22 hl (by decide) rfl (fun ls hl => ?_)
        refine lv_aload_n hx hb dX6_isSame_24 rfl (lv_at hl 4 rfl) ?_
        refine va_get (D := D) (ci := 6) (v := .ref ar) (C := RX6) (T := TX6) (N := 3) hx hb hts hinX6 hown hK hO3 0 rfl rfl 0 (by decide) (hts _ (List.mem_of_getElem? (i := 1) rfl)) (fun _ h9 => h9) rfl dX6_isSame_25 ?_
        refine lv_astore (lv' := [(6, .ref ar), (5, .int 0), (4, .ref (B k)), (3, .int (nI k)), (2, .int (nI (ct g k))), (0, .ref o), (1, .ref b)]) hx hb dX6_isSame_28 hl (by decide) rfl (fun ls hl => ?_)
        refine lv_aload hx hb dX6_isSame_30 (lv_at hl 0 rfl) ?_
        refine z_qlen (n := n) (f := (zbf n B)) hx hb hK hQ4 0 1 rfl rfl dX6_isSame_32 ?_
        refine lv_istore (lv' := [(7, .int (nI n)), (6, .ref ar), (5, .int 0), (4, .ref (B k)), (3, .int (nI k)), (2, .int (nI (ct g k))), (0, .ref o), (1, .ref b)]) hx hb dX6_isSame_33 hl (by decide) rfl (fun ls hl => ?_)
        refine lv_iconst (v := 0) hx hb dX6_isSame_35 (by decide) ?_
        refine lv_istore (lv' := [(8, .int 0), (7, .int (nI n)), (6, .ref ar), (5, .int 0), (4, .ref (B k)), (3, .int (nI k)), (2, .int (nI (ct g k))), (0, .ref o), (1, .ref b)]) hx hb dX6_isSame_36 hl (by decide) rfl (fun ls hl => ?_)
        have loop38 : ∀ (fu : Nat) (i : Nat), n - i < fu → (i ≤ n) → ∀ (x8 : Int32), x8 = (nI i) → ∀ (x5 : Int32), x5 = (nI (ln c e k i)) → ∀ ls : Array Slot, lv_has ls 10 [(8, .int x8), (7, .int (nI n)), (6, .ref ar), (5, .int x5), (4, .ref (B k)), (3, .int (nI k)), (2, .int (nI (ct g k))), (0, .ref o), (1, .ref b)] → W pg l ev ({ frames := 7, cells := 13, slots := 90, locals := 151 } : Room) s m args below meth cd H1 lo2 k (7 * k) (MQ below (zM (fun _ => True) (some (.int 1)) (fun q => t ≤ q)) args s 13 90 (fun q => t ≤ q)) (F0 m 38 ls []) := by
          intro fu
          induction fu with
          | zero => intro i hfu; exact absurd hfu (Nat.not_lt_zero _)
          | succ fu ih38 =>
            intro i hfu hi38_0 x8 ex8 x5 ex5 ls hl
            subst ex8
            subst ex5
            refine lv_iload hx hb dX6_isSame_38 (lv_at hl 0 rfl) ?_
            refine lv_iload hx hb dX6_isSame_40 (lv_at hl 1 rfl) ?_
            refine lv_icmp_ge (tgt := 77) hx hb dX6_isSame_42 (by decide) (fun c42 => ?_) (fun c42 => ?_)
            · have c42 := z_le (a := n) (b := i) c42 (by omega) (by omega)
              have hi9 : i = n := by omega
              refine lv_bipush (v := 7) hx hb dX6_isSame_77 (by decide) ?_
              refine z_newi hx hb (hts _ (List.mem_of_getElem? (i := 2) rfl)) hK 0 rfl (N := 7) rfl (by omega) (by show k + 1 ≤ 13; omega) (by show 7 * k + 7 ≤ 90; omega) dX6_isSame_79 (h := (t + k) + 0) hsz (fun H57 hAr58 hz1 hk1 => ?_)
              have hS := z_Sgrow hS (by omega) (fun q h => hk1 q (by omega))
              have hsz : H57.size = (t + k) + 1 := by omega
              have hz : H.size ≤ H57.size := by omega
              have hO59 := zOb_kept hO3 (fun q h1 h2 h3 => (fun q (h9 : q < H1.size) (_ : True) => hk1 q (by omega)) q h1 (trivial))
              have hQ60 := zQr_kept hQ4 (fun q h1 h2 h3 => (fun q (h9 : q < H1.size) (_ : True) => hk1 q (by omega)) q h1 (trivial))
              have hF61 := zFm_kept hsp hF5 (fun q h1 h2 h3 => (fun q (h9 : q < H1.size) (_ : True) => hk1 q (by omega)) q h1 (trivial))
              have hC62 := zCW_kept hC6 (fun q h1 h2 h3 => (fun q (h9 : q < H1.size) (_ : True) => hk1 q (by omega)) q h1 (trivial))
              have hBdm63 := zBw_kept hBdm56 (fun q h1 h2 h3 => (fun q (h9 : q < H1.size) (_ : True) => hk1 q (by omega)) q h1 (trivial))
              have hEam64 := zAr_kept hEam56 (fun q h1 h2 h3 => (fun q (h9 : q < H1.size) (_ : True) => hk1 q (by omega)) q h1 (trivial))
              refine lv_dup hx hb dX6_isSame_81 rfl ?_
              refine lv_iconst (v := 0) hx hb dX6_isSame_82 (by decide) ?_
              refine lv_aload hx hb dX6_isSame_83 (lv_at hl 4 rfl) ?_
              refine z_ki (va_runV (As := []) (rest := [.int 0, .ref (t + k), .ref (t + k)]) hfix (zcX5_word l D cI H57 (B k) (E k) (zcb g 0 k) (zcb g 2 k) (zcb g 4 k) (g 6 k) (me k) (lo k) hBdm63) (cwV 0 hts gX6_isSame_X5_word rfl rfl rfl (by decide +kernel) ⟨Nat.le_of_ble_eq_true rfl, Nat.le_of_ble_eq_true rfl⟩) (z_preV hK hK1 hBdm63 (ci := 5) (q0 := 0) rfl rfl rfl) rfl rfl hl.1 rfl (lv_room (Nat.le_of_ble_eq_true rfl)) dX6_isSame_85 ⟨by show k + 1 + 0 ≤ 13; omega, by show 7 * k + 7 + 0 ≤ 90; omega⟩) ?_
              refine z_toi (y := wd g k) (zb_wd g k) ?_
              refine z_iast (n := 7) (f := (fun _ => 0)) (x := (wd g k)) (j := 0) hx hb hK hAr58 (by show t ≤ _; omega) hS 0 0 rfl rfl rfl (by omega) (by omega) dX6_isSame_88 (fun H65 lo66 hP1 hz1 hk1 hS => ?_)
              have hsz : H65.size = (t + k) + 1 := by omega
              have hz : H.size ≤ H65.size := by omega
              have hO67 := zOb_kept hO59 (fun q h1 h2 h3 => (fun q _ h => hk1 q h) q h1 (by omega))
              have hQ68 := zQr_kept hQ60 (fun q h1 h2 h3 => (fun q _ h => hk1 q h) q h1 (by omega))
              have hF69 := zFm_kept hsp hF61 (fun q h1 h2 h3 => (fun q _ h => hk1 q h) q h1 (by omega))
              have hC70 := zCW_kept hC62 (fun q h1 h2 h3 => (fun q _ h => hk1 q h) q h1 (by omega))
              have hBdm71 := zBw_kept hBdm63 (fun q h1 h2 h3 => (fun q _ h => hk1 q h) q h1 (by omega))
              have hEam72 := zAr_kept hEam64 (fun q h1 h2 h3 => (fun q _ h => hk1 q h) q h1 (by omega))
              have hAr73 : va_P D vwCl (zAr cI (t + k) 7 (upd (fun _ => 0) 0 (wd g k))) H65 := z_set zAr_c hAr58 0 rfl hP1 (fun q _ h => hk1 q h)
              refine lv_dup hx hb dX6_isSame_89 rfl ?_
              refine lv_iconst (v := 1) hx hb dX6_isSame_90 (by decide) ?_
              refine lv_aload hx hb dX6_isSame_91 (lv_at hl 4 rfl) ?_
              refine va_get (D := D) (ci := 5) (v := .int (g 6 k)) (C := RX5) (T := TX5) (N := 7) hx hb hts hinX5 hown hK hBdm71 0 rfl rfl 3 (by decide) (hts _ (List.mem_of_getElem? (i := 3) rfl)) (fun _ h9 => h9) rfl dX6_isSame_93 ?_
              refine z_iast (n := 7) (f := (upd (fun _ => 0) 0 (wd g k))) (x := (g 6 k)) (j := 1) hx hb hK hAr73 (by show t ≤ _; omega) hS 0 0 rfl rfl rfl (by omega) (by omega) dX6_isSame_96 (fun H74 lo75 hP1 hz1 hk1 hS => ?_)
              have hsz : H74.size = (t + k) + 1 := by omega
              have hz : H.size ≤ H74.size := by omega
              have hO76 := zOb_kept hO67 (fun q h1 h2 h3 => (fun q _ h => hk1 q h) q h1 (by omega))
              have hQ77 := zQr_kept hQ68 (fun q h1 h2 h3 => (fun q _ h => hk1 q h) q h1 (by omega))
              have hF78 := zFm_kept hsp hF69 (fun q h1 h2 h3 => (fun q _ h => hk1 q h) q h1 (by omega))
              have hC79 := zCW_kept hC70 (fun q h1 h2 h3 => (fun q _ h => hk1 q h) q h1 (by omega))
              have hBdm80 := zBw_kept hBdm71 (fun q h1 h2 h3 => (fun q _ h => hk1 q h) q h1 (by omega))
              have hEam81 := zAr_kept hEam72 (fun q h1 h2 h3 => (fun q _ h => hk1 q h) q h1 (by omega))
              have hAr82 : va_P D vwCl (zAr cI (t + k) 7 (upd (upd (fun _ => 0) 0 (wd g k)) 1 (g 6 k))) H74 := z_set zAr_c hAr73 0 rfl hP1 (fun q _ h => hk1 q h)
              refine lv_dup hx hb dX6_isSame_97 rfl ?_
              refine lv_iconst (v := 2) hx hb dX6_isSame_98 (by decide) ?_
              refine lv_aload hx hb dX6_isSame_99 (lv_at hl 4 rfl) ?_
              refine va_get (D := D) (ci := 5) (v := .int (me k)) (C := RX5) (T := TX5) (N := 7) hx hb hts hinX5 hown hK hBdm80 0 rfl rfl 4 (by decide) (hts _ (List.mem_of_getElem? (i := 4) rfl)) (fun _ h9 => h9) rfl dX6_isSame_101 ?_
              refine z_iast (n := 7) (f := (upd (upd (fun _ => 0) 0 (wd g k)) 1 (g 6 k))) (x := (me k)) (j := 2) hx hb hK hAr82 (by show t ≤ _; omega) hS 0 0 rfl rfl rfl (by omega) (by omega) dX6_isSame_104 (fun H83 lo84 hP1 hz1 hk1 hS => ?_)
              have hsz : H83.size = (t + k) + 1 := by omega
              have hz : H.size ≤ H83.size := by omega
              have hO85 := zOb_kept hO76 (fun q h1 h2 h3 => (fun q _ h => hk1 q h) q h1 (by omega))
              have hQ86 := zQr_kept hQ77 (fun q h1 h2 h3 => (fun q _ h => hk1 q h) q h1 (by omega))
              have hF87 := zFm_kept hsp hF78 (fun q h1 h2 h3 => (fun q _ h => hk1 q h) q h1 (by omega))
              have hC88 := zCW_kept hC79 (fun q h1 h2 h3 => (fun q _ h => hk1 q h) q h1 (by omega))
              have hBdm89 := zBw_kept hBdm80 (fun q h1 h2 h3 => (fun q _ h => hk1 q h) q h1 (by omega))
              have hEam90 := zAr_kept hEam81 (fun q h1 h2 h3 => (fun q _ h => hk1 q h) q h1 (by omega))
              have hAr91 : va_P D vwCl (zAr cI (t + k) 7 (upd (upd (upd (fun _ => 0) 0 (wd g k)) 1 (g 6 k)) 2 (me k))) H83 := z_set zAr_c hAr82 0 rfl hP1 (fun q _ h => hk1 q h)
              refine lv_dup hx hb dX6_isSame_105 rfl ?_
              refine lv_iconst (v := 3) hx hb dX6_isSame_106 (by decide) ?_
              refine lv_aload hx hb dX6_isSame_107 (lv_at hl 4 rfl) ?_
              refine va_get (D := D) (ci := 5) (v := .int (lo k)) (C := RX5) (T := TX5) (N := 7) hx hb hts hinX5 hown hK hBdm89 0 rfl rfl 5 (by decide) (hts _ (List.mem_of_getElem? (i := 5) rfl)) (fun _ h9 => h9) rfl dX6_isSame_109 ?_
              refine z_iast (n := 7) (f := (upd (upd (upd (fun _ => 0) 0 (wd g k)) 1 (g 6 k)) 2 (me k))) (x := (lo k)) (j := 3) hx hb hK hAr91 (by show t ≤ _; omega) hS 0 0 rfl rfl rfl (by omega) (by omega) dX6_isSame_112 (fun H92 lo93 hP1 hz1 hk1 hS => ?_)
              have hsz : H92.size = (t + k) + 1 := by omega
              have hz : H.size ≤ H92.size := by omega
              have hO94 := zOb_kept hO85 (fun q h1 h2 h3 => (fun q _ h => hk1 q h) q h1 (by omega))
              have hQ95 := zQr_kept hQ86 (fun q h1 h2 h3 => (fun q _ h => hk1 q h) q h1 (by omega))
              have hF96 := zFm_kept hsp hF87 (fun q h1 h2 h3 => (fun q _ h => hk1 q h) q h1 (by omega))
              have hC97 := zCW_kept hC88 (fun q h1 h2 h3 => (fun q _ h => hk1 q h) q h1 (by omega))
              have hBdm98 := zBw_kept hBdm89 (fun q h1 h2 h3 => (fun q _ h => hk1 q h) q h1 (by omega))
              have hEam99 := zAr_kept hEam90 (fun q h1 h2 h3 => (fun q _ h => hk1 q h) q h1 (by omega))
              have hAr100 : va_P D vwCl (zAr cI (t + k) 7 (upd (upd (upd (upd (fun _ => 0) 0 (wd g k)) 1 (g 6 k)) 2 (me k)) 3 (lo k))) H92 := z_set zAr_c hAr91 0 rfl hP1 (fun q _ h => hk1 q h)
              refine lv_dup hx hb dX6_isSame_113 rfl ?_
              refine lv_iconst (v := 4) hx hb dX6_isSame_114 (by decide) ?_
              refine lv_aload hx hb dX6_isSame_115 (lv_at hl 4 rfl) ?_
              refine va_get (D := D) (ci := 5) (v := .ref (E k)) (C := RX5) (T := TX5) (N := 7) hx hb hts hinX5 hown hK hBdm98 0 rfl rfl 6 (by decide) (hts _ (List.mem_of_getElem? (i := 6) rfl)) (fun _ h9 => h9) rfl dX6_isSame_117 ?_
              refine z_alen (n := (c k)) (f := (zer e k)) hx hb hK hEam99 0 0 rfl rfl dX6_isSame_120 ?_
              refine z_iast (n := 7) (f := (upd (upd (upd (upd (fun _ => 0) 0 (wd g k)) 1 (g 6 k)) 2 (me k)) 3 (lo k))) (x := (nI (c k))) (j := 4) hx hb hK hAr100 (by show t ≤ _; omega) hS 0 0 rfl rfl rfl (by omega) (by omega) dX6_isSame_121 (fun H101 lo102 hP1 hz1 hk1 hS => ?_)
              have hsz : H101.size = (t + k) + 1 := by omega
              have hz : H.size ≤ H101.size := by omega
              have hO103 := zOb_kept hO94 (fun q h1 h2 h3 => (fun q _ h => hk1 q h) q h1 (by omega))
              have hQ104 := zQr_kept hQ95 (fun q h1 h2 h3 => (fun q _ h => hk1 q h) q h1 (by omega))
              have hF105 := zFm_kept hsp hF96 (fun q h1 h2 h3 => (fun q _ h => hk1 q h) q h1 (by omega))
              have hC106 := zCW_kept hC97 (fun q h1 h2 h3 => (fun q _ h => hk1 q h) q h1 (by omega))
              have hBdm107 := zBw_kept hBdm98 (fun q h1 h2 h3 => (fun q _ h => hk1 q h) q h1 (by omega))
              have hEam108 := zAr_kept hEam99 (fun q h1 h2 h3 => (fun q _ h => hk1 q h) q h1 (by omega))
              have hAr109 : va_P D vwCl (zAr cI (t + k) 7 (upd (upd (upd (upd (upd (fun _ => 0) 0 (wd g k)) 1 (g 6 k)) 2 (me k)) 3 (lo k)) 4 (nI (c k)))) H101 := z_set zAr_c hAr100 0 rfl hP1 (fun q _ h => hk1 q h)
              refine lv_dup hx hb dX6_isSame_122 rfl ?_
              refine lv_iconst (v := 5) hx hb dX6_isSame_123 (by decide) ?_
              refine lv_iload hx hb dX6_isSame_124 (lv_at hl 3 rfl) ?_
              refine z_iast (n := 7) (f := (upd (upd (upd (upd (upd (fun _ => 0) 0 (wd g k)) 1 (g 6 k)) 2 (me k)) 3 (lo k)) 4 (nI (c k)))) (x := (nI (ln c e k i))) (j := 5) hx hb hK hAr109 (by show t ≤ _; omega) hS 0 0 rfl rfl rfl (by omega) (by omega) dX6_isSame_126 (fun H110 lo111 hP1 hz1 hk1 hS => ?_)
              have hsz : H110.size = (t + k) + 1 := by omega
              have hz : H.size ≤ H110.size := by omega
              have hO112 := zOb_kept hO103 (fun q h1 h2 h3 => (fun q _ h => hk1 q h) q h1 (by omega))
              have hQ113 := zQr_kept hQ104 (fun q h1 h2 h3 => (fun q _ h => hk1 q h) q h1 (by omega))
              have hF114 := zFm_kept hsp hF105 (fun q h1 h2 h3 => (fun q _ h => hk1 q h) q h1 (by omega))
              have hC115 := zCW_kept hC106 (fun q h1 h2 h3 => (fun q _ h => hk1 q h) q h1 (by omega))
              have hBdm116 := zBw_kept hBdm107 (fun q h1 h2 h3 => (fun q _ h => hk1 q h) q h1 (by omega))
              have hEam117 := zAr_kept hEam108 (fun q h1 h2 h3 => (fun q _ h => hk1 q h) q h1 (by omega))
              have hAr118 : va_P D vwCl (zAr cI (t + k) 7 (upd (upd (upd (upd (upd (upd (fun _ => 0) 0 (wd g k)) 1 (g 6 k)) 2 (me k)) 3 (lo k)) 4 (nI (c k))) 5 (nI (ln c e k i)))) H110 := z_set zAr_c hAr109 0 rfl hP1 (fun q _ h => hk1 q h)
              refine lv_dup hx hb dX6_isSame_127 rfl ?_
              refine lv_bipush (v := 6) hx hb dX6_isSame_128 (by decide) ?_
              refine lv_aload_n hx hb dX6_isSame_130 rfl (lv_at hl 7 rfl) ?_
              refine lv_aload hx hb dX6_isSame_131 (lv_at hl 4 rfl) ?_
              refine z_ki (va_runV (As := [.ref (B k)]) (rest := [.int 6, .ref (t + k), .ref (t + k)]) hfix (zcX6_heard l D cI cR H110 o t ar n B E me lo c e rd tk g (B k) (E k) (zcb g 0 k) (zcb g 2 k) (zcb g 4 k) (g 6 k) (me k) (lo k) k (⟨hO112, hQ113, hF114, hsp⟩) hI hBdm116 hEam117 (by omega)) (cwV 1 hts gX6_isSame_X6_heard rfl rfl rfl (by decide +kernel) ⟨Nat.le_of_ble_eq_true rfl, Nat.le_of_ble_eq_true rfl⟩) (z_kpreV hKw hK hK hO112 (ci := 6) (q0 := 0) rfl rfl rfl) rfl rfl hl.1 rfl (lv_room (Nat.le_of_ble_eq_true rfl)) dX6_isSame_133 ⟨by show k + 1 + 0 ≤ 13; omega, by show 7 * k + 7 + 0 ≤ 90; omega⟩) ?_
              refine z_iast (n := 7) (f := (upd (upd (upd (upd (upd (upd (fun _ => 0) 0 (wd g k)) 1 (g 6 k)) 2 (me k)) 3 (lo k)) 4 (nI (c k))) 5 (nI (ln c e k i)))) (x := (zo (hd lo e k (c k)))) (j := 6) hx hb hK hAr118 (by show t ≤ _; omega) hS 0 0 rfl rfl rfl (by omega) (by omega) dX6_isSame_136 (fun H119 lo120 hP1 hz1 hk1 hS => ?_)
              have hsz : H119.size = (t + k) + 1 := by omega
              have hz : H.size ≤ H119.size := by omega
              have hO121 := zOb_kept hO112 (fun q h1 h2 h3 => (fun q _ h => hk1 q h) q h1 (by omega))
              have hQ122 := zQr_kept hQ113 (fun q h1 h2 h3 => (fun q _ h => hk1 q h) q h1 (by omega))
              have hF123 := zFm_kept hsp hF114 (fun q h1 h2 h3 => (fun q _ h => hk1 q h) q h1 (by omega))
              have hC124 := zCW_kept hC115 (fun q h1 h2 h3 => (fun q _ h => hk1 q h) q h1 (by omega))
              have hBdm125 := zBw_kept hBdm116 (fun q h1 h2 h3 => (fun q _ h => hk1 q h) q h1 (by omega))
              have hEam126 := zAr_kept hEam117 (fun q h1 h2 h3 => (fun q _ h => hk1 q h) q h1 (by omega))
              have hAr127 : va_P D vwCl (zAr cI (t + k) 7 (upd (upd (upd (upd (upd (upd (upd (fun _ => 0) 0 (wd g k)) 1 (g 6 k)) 2 (me k)) 3 (lo k)) 4 (nI (c k))) 5 (nI (ln c e k i))) 6 (zo (hd lo e k (c k))))) H119 := z_set zAr_c hAr118 0 rfl hP1 (fun q _ h => hk1 q h)
              have hT128 : va_P D vwCl (zAr cI (t + k) 7 (tp n g me lo c e k)) H119 := z_arr_ext hAr127 (fun j hj => ztold_p hi9 hj)
              refine lv_astore (lv' := [(6, .ref (t + k)), (8, .int (nI i)), (7, .int (nI n)), (5, .int (nI (ln c e k i))), (4, .ref (B k)), (3, .int (nI k)), (2, .int (nI (ct g k))), (0, .ref o), (1, .ref b)]) hx hb dX6_isSame_137 hl (by decide) rfl (fun ls hl => ?_)
              refine lv_iconst (v := 0) hx hb dX6_isSame_139 (by decide) ?_
              refine lv_istore (lv' := [(7, .int 0), (6, .ref (t + k)), (8, .int (nI i)), (5, .int (nI (ln c e k i))), (4, .ref (B k)), (3, .int (nI k)), (2, .int (nI (ct g k))), (0, .ref o), (1, .ref b)]) hx hb dX6_isSame_140 hl (by decide) rfl (fun ls hl => ?_)
              have loop142 : ∀ (fu : Nat) (u : Nat), 7 - u < fu → (u ≤ 7) → ∀ (x7 : Int32), x7 = (nI u) → ∀ ls : Array Slot, lv_has ls 10 [(7, .int x7), (6, .ref (t + k)), (8, .int (nI i)), (5, .int (nI (ln c e k i))), (4, .ref (B k)), (3, .int (nI k)), (2, .int (nI (ct g k))), (0, .ref o), (1, .ref b)] → W pg l ev ({ frames := 7, cells := 13, slots := 90, locals := 151 } : Room) s m args below meth cd H119 lo120 (k + 1) (7 * k + 7) (MQ below (zM (fun _ => True) (some (.int 1)) (fun q => t ≤ q)) args s 13 90 (fun q => t ≤ q)) (F0 m 142 ls []) := by
                intro fu
                induction fu with
                | zero => intro u hfu; exact absurd hfu (Nat.not_lt_zero _)
                | succ fu ih142 =>
                  intro u hfu hi142_0 x7 ex7 ls hl
                  subst ex7
                  refine lv_iload hx hb dX6_isSame_142 (lv_at hl 0 rfl) ?_
                  refine lv_bipush (v := 7) hx hb dX6_isSame_144 (by decide) ?_
                  refine lv_icmp_ge (tgt := 172) hx hb dX6_isSame_146 (by decide) (fun c146 => ?_) (fun c146 => ?_)
                  · have c146 := z_le (a := 7) (b := u) c146 (by omega) (by omega)
                    refine lv_iconst (v := 0) hx hb dX6_isSame_172 (by decide) ?_
                    refine lv_istore (lv' := [(7, .int 0), (6, .ref (t + k)), (8, .int (nI i)), (5, .int (nI (ln c e k i))), (4, .ref (B k)), (3, .int (nI k)), (2, .int (nI (ct g k))), (0, .ref o), (1, .ref b)]) hx hb dX6_isSame_173 hl (by decide) rfl (fun ls hl => ?_)
                    have loop175 : ∀ (fu : Nat) (w : Nat), 2 - w < fu → (w ≤ 2) → ∀ (x7 : Int32), x7 = (nI w) → ∀ (x2 : Int32), x2 = (nI (cth g k w)) → ∀ ls : Array Slot, lv_has ls 10 [(7, .int x7), (6, .ref (t + k)), (8, .int (nI i)), (5, .int (nI (ln c e k i))), (4, .ref (B k)), (3, .int (nI k)), (2, .int x2), (0, .ref o), (1, .ref b)] → W pg l ev ({ frames := 7, cells := 13, slots := 90, locals := 151 } : Room) s m args below meth cd H119 lo120 (k + 1) (7 * k + 7) (MQ below (zM (fun _ => True) (some (.int 1)) (fun q => t ≤ q)) args s 13 90 (fun q => t ≤ q)) (F0 m 175 ls []) := by
                      intro fu
                      induction fu with
                      | zero => intro w hfu; exact absurd hfu (Nat.not_lt_zero _)
                      | succ fu ih175 =>
                        intro w hfu hi175_0 x7 ex7 x2 ex2 ls hl
                        subst ex7
                        subst ex2
                        refine lv_iload hx hb dX6_isSame_175 (lv_at hl 0 rfl) ?_
                        refine lv_iconst (v := 2) hx hb dX6_isSame_177 (by decide) ?_
                        refine lv_icmp_ge (tgt := 292) hx hb dX6_isSame_178 (by decide) (fun c178 => ?_) (fun c178 => ?_)
                        · have c178 := z_le (a := 2) (b := w) c178 (by omega) (by omega)
                          have hc4 := zI_c hI k
                          refine lv_iconst (v := 0) hx hb dX6_isSame_292 (by decide) ?_
                          refine lv_istore (lv' := [(7, .int 0), (6, .ref (t + k)), (8, .int (nI i)), (5, .int (nI (ln c e k i))), (4, .ref (B k)), (3, .int (nI k)), (2, .int (nI (cth g k w))), (0, .ref o), (1, .ref b)]) hx hb dX6_isSame_293 hl (by decide) rfl (fun ls hl => ?_)
                          have loop295 : ∀ (fu : Nat) (i2 : Nat), c k - i2 < fu → (i2 ≤ c k) → ∀ (x7 : Int32), x7 = (nI i2) → ∀ ls : Array Slot, lv_has ls 10 [(7, .int x7), (6, .ref (t + k)), (8, .int (nI i)), (5, .int (nI (ln c e k i))), (4, .ref (B k)), (3, .int (nI k)), (2, .int (nI (cth g k w))), (0, .ref o), (1, .ref b)] → W pg l ev ({ frames := 7, cells := 13, slots := 90, locals := 151 } : Room) s m args below meth cd H119 lo120 (k + 1) (7 * k + 7) (MQ below (zM (fun _ => True) (some (.int 1)) (fun q => t ≤ q)) args s 13 90 (fun q => t ≤ q)) (F0 m 295 ls []) := by
                            intro fu
                            induction fu with
                            | zero => intro i2 hfu; exact absurd hfu (Nat.not_lt_zero _)
                            | succ fu ih295 =>
                              intro i2 hfu hi295_0 x7 ex7 ls hl
                              subst ex7
                              refine lv_iload hx hb dX6_isSame_295 (lv_at hl 0 rfl) ?_
                              refine lv_aload hx hb dX6_isSame_297 (lv_at hl 4 rfl) ?_
                              refine va_get (D := D) (ci := 5) (v := .ref (E k)) (C := RX5) (T := TX5) (N := 7) hx hb hts hinX5 hown hK hBdm125 0 rfl rfl 6 (by decide) (hts _ (List.mem_of_getElem? (i := 6) rfl)) (fun _ h9 => h9) rfl dX6_isSame_299 ?_
                              refine z_alen (n := (c k)) (f := (zer e k)) hx hb hK hEam126 0 0 rfl rfl dX6_isSame_302 ?_
                              refine lv_icmp_ge (tgt := 332) hx hb dX6_isSame_303 (by decide) (fun c303 => ?_) (fun c303 => ?_)
                              · have c303 := z_le (a := (c k)) (b := i2) c303 (by omega) (by omega)
                                refine lv_iinc (v := (nI (k + 1))) (lv' := [(3, .int (nI (k + 1))), (7, .int (nI i2)), (6, .ref (t + k)), (8, .int (nI i)), (5, .int (nI (ln c e k i))), (4, .ref (B k)), (2, .int (nI (cth g k w))), (0, .ref o), (1, .ref b)]) hx hb dX6_isSame_332 hl (k := 5) rfl (nI_1 _) (by decide) rfl (fun ls hl => ?_)
                                refine lv_goto (tgt := 4) hx hb dX6_isSame_335 (by decide) ?_
                                refine W.widen (k := k + 1) (n := 7 * (k + 1)) (by omega) (by omega) ?_
                                exact ih (k + 1) (by omega) (by omega) _ (rfl) _ (by rw [show w = 2 by omega]; rfl) _ _ (hO121) (hQ122) (hF123) (hC124) (by omega) hz hS _ (lv_sub hl [0, 6, 7, 8] rfl)
                              · have c303 := z_nle (a := (c k)) (b := i2) c303 (by omega) (by omega)
                                have he9 := zI_e hI (p := k) (k := i2) (by omega)
                                refine lv_aload_n hx hb dX6_isSame_306 rfl (lv_at hl 8 rfl) ?_
                                refine lv_iload_n hx hb dX6_isSame_307 rfl (lv_at hl 5 rfl) ?_
                                refine lv_iload hx hb dX6_isSame_308 (lv_at hl 0 rfl) ?_
                                refine z_ki (va_runV (As := [.int (nI k), .int (nI i2)]) (rest := []) hfix (zcX4_hears_k l D cI H119 b n me lo c e rd tk g k i2 hC124 hI (by omega) (by omega)) (cwV 2 hts gX6_isSame_X4_hears rfl rfl rfl (by decide +kernel) ⟨Nat.le_of_ble_eq_true rfl, Nat.le_of_ble_eq_true rfl⟩) (z_preV hK hK1 hC124.1 (ci := 4) (q0 := 0) rfl rfl rfl) rfl rfl hl.1 rfl (lv_room (Nat.le_of_ble_eq_true rfl)) dX6_isSame_310 ⟨by show k + 1 + 0 ≤ 13; omega, by show 7 * k + 7 + 0 ≤ 90; omega⟩) ?_
                                refine lv_aload hx hb dX6_isSame_313 (lv_at hl 4 rfl) ?_
                                refine va_get (D := D) (ci := 5) (v := .ref (E k)) (C := RX5) (T := TX5) (N := 7) hx hb hts hinX5 hown hK hBdm125 0 rfl rfl 6 (by decide) (hts _ (List.mem_of_getElem? (i := 6) rfl)) (fun _ h9 => h9) rfl dX6_isSame_315 ?_
                                refine lv_iload hx hb dX6_isSame_318 (lv_at hl 0 rfl) ?_
                                refine z_iald (a := (E k)) (n := (c k)) (f := (zer e k)) (j := i2) hx hb hK hEam126 0 0 rfl rfl rfl (by omega) (by omega) dX6_isSame_320 ?_
                                refine lv_icmp_eq (tgt := 326) hx hb dX6_isSame_321 (by decide) (fun c321 => ?_) (fun c321 => ?_)
                                · have c321 := z_eq (a := e (k * 4 + i2)) (b := e (k * 4 + i2)) c321 (by omega) (by omega)
                                  refine lv_iinc (v := (nI (i2 + 1))) (lv' := [(7, .int (nI (i2 + 1))), (6, .ref (t + k)), (8, .int (nI i)), (5, .int (nI (ln c e k i))), (4, .ref (B k)), (3, .int (nI k)), (2, .int (nI (cth g k w))), (0, .ref o), (1, .ref b)]) hx hb dX6_isSame_326 hl (k := 0) rfl (nI_1 _) (by decide) rfl (fun ls hl => ?_)
                                  refine lv_goto (tgt := 295) hx hb dX6_isSame_329 (by decide) ?_
                                  exact ih295 (i2 + 1) (by omega) (by omega) _ (rfl) _ (lv_sub hl [0, 1, 2, 3, 4, 5, 6, 7, 8] rfl)
                                · have c321 := z_ne (a := e (k * 4 + i2)) (b := e (k * 4 + i2)) c321 (by omega) (by omega)
                                  exact absurd rfl c321
                          exact loop295 _ 0 (Nat.lt_succ_self _) (by omega) _ (rfl) _ (lv_sub hl [0, 1, 2, 3, 4, 5, 6, 7, 8] rfl)
                        · have c178 := z_nle (a := 2) (b := w) c178 (by omega) (by omega)
                          refine lv_aload_n hx hb dX6_isSame_181 rfl (lv_at hl 8 rfl) ?_
                          refine lv_iload_n hx hb dX6_isSame_182 rfl (lv_at hl 5 rfl) ?_
                          refine lv_iload hx hb dX6_isSame_183 (lv_at hl 0 rfl) ?_
                          refine lv_iconst (v := 1) hx hb dX6_isSame_185 (by decide) ?_
                          refine lv_icmp_ne (tgt := 193) hx hb dX6_isSame_186 (by decide) (fun c186 => ?_) (fun c186 => ?_)
                          · have c186 := z_ne (a := w) (b := 1) c186 (by omega) (by omega)
                            refine lv_iconst (v := 0) hx hb dX6_isSame_193 (by decide) ?_
                            refine lv_iconst (v := 0) hx hb dX6_isSame_194 (by decide) ?_
                            refine z_ki (va_runV (As := [.int (nI k), .int 0, .int 0]) (rest := []) hfix (zcX4_half_k0 l D cI H119 b n me lo c e rd tk g k 0 hC124 hI (by omega) (by omega)) (cwV 3 hts gX6_isSame_X4_half rfl rfl rfl (by decide +kernel) ⟨Nat.le_of_ble_eq_true rfl, Nat.le_of_ble_eq_true rfl⟩) (z_preV hK hK1 hC124.1 (ci := 4) (q0 := 0) rfl rfl rfl) rfl rfl hl.1 rfl (lv_room (Nat.le_of_ble_eq_true rfl)) dX6_isSame_195 ⟨by show k + 1 + 0 ≤ 13; omega, by show 7 * k + 7 + 0 ≤ 90; omega⟩) ?_
                            refine lv_aload hx hb dX6_isSame_198 (lv_at hl 4 rfl) ?_
                            refine va_get (D := D) (ci := 5) (v := .ref ((B k) + 1)) (C := RX5) (T := TX5) (N := 7) hx hb hts hinX5 hown hK hBdm125 0 rfl rfl 0 (by decide) (hts _ (List.mem_of_getElem? (i := 7) rfl)) (fun _ h9 => h9) rfl dX6_isSame_200 ?_
                            refine lv_iload hx hb dX6_isSame_203 (lv_at hl 0 rfl) ?_
                            refine z_iald (a := ((B k) + 1)) (n := 2) (f := (zcb g 0 k)) (j := w) hx hb hK hBdm125 1 0 rfl rfl rfl (by omega) (by omega) dX6_isSame_205 ?_
                            refine lv_icmp_ne (tgt := 265) hx hb dX6_isSame_206 (by decide) (fun c206 => ?_) (fun c206 => ?_)
                            · exact absurd (by rw [show w = 0 by omega]; rfl) c206
                            · refine lv_aload_n hx hb dX6_isSame_209 rfl (lv_at hl 8 rfl) ?_
                              refine lv_iload_n hx hb dX6_isSame_210 rfl (lv_at hl 5 rfl) ?_
                              refine lv_iload hx hb dX6_isSame_211 (lv_at hl 0 rfl) ?_
                              refine lv_iconst (v := 1) hx hb dX6_isSame_213 (by decide) ?_
                              refine lv_icmp_ne (tgt := 221) hx hb dX6_isSame_214 (by decide) (fun c214 => ?_) (fun c214 => ?_)
                              · have c214 := z_ne (a := w) (b := 1) c214 (by omega) (by omega)
                                refine lv_iconst (v := 0) hx hb dX6_isSame_221 (by decide) ?_
                                refine lv_iconst (v := 1) hx hb dX6_isSame_222 (by decide) ?_
                                refine z_ki (va_runV (As := [.int (nI k), .int 0, .int 1]) (rest := []) hfix (zcX4_half_k0 l D cI H119 b n me lo c e rd tk g k 1 hC124 hI (by omega) (by omega)) (cwV 3 hts gX6_isSame_X4_half rfl rfl rfl (by decide +kernel) ⟨Nat.le_of_ble_eq_true rfl, Nat.le_of_ble_eq_true rfl⟩) (z_preV hK hK1 hC124.1 (ci := 4) (q0 := 0) rfl rfl rfl) rfl rfl hl.1 rfl (lv_room (Nat.le_of_ble_eq_true rfl)) dX6_isSame_223 ⟨by show k + 1 + 0 ≤ 13; omega, by show 7 * k + 7 + 0 ≤ 90; omega⟩) ?_
                                refine lv_aload hx hb dX6_isSame_226 (lv_at hl 4 rfl) ?_
                                refine va_get (D := D) (ci := 5) (v := .ref ((B k) + 2)) (C := RX5) (T := TX5) (N := 7) hx hb hts hinX5 hown hK hBdm125 0 rfl rfl 1 (by decide) (hts _ (List.mem_of_getElem? (i := 8) rfl)) (fun _ h9 => h9) rfl dX6_isSame_228 ?_
                                refine lv_iload hx hb dX6_isSame_231 (lv_at hl 0 rfl) ?_
                                refine z_iald (a := ((B k) + 2)) (n := 2) (f := (zcb g 2 k)) (j := w) hx hb hK hBdm125 2 0 rfl rfl rfl (by omega) (by omega) dX6_isSame_233 ?_
                                refine lv_icmp_ne (tgt := 265) hx hb dX6_isSame_234 (by decide) (fun c234 => ?_) (fun c234 => ?_)
                                · exact absurd (by rw [show w = 0 by omega]; rfl) c234
                                · refine lv_aload_n hx hb dX6_isSame_237 rfl (lv_at hl 8 rfl) ?_
                                  refine lv_iload_n hx hb dX6_isSame_238 rfl (lv_at hl 5 rfl) ?_
                                  refine lv_iload hx hb dX6_isSame_239 (lv_at hl 0 rfl) ?_
                                  refine lv_iconst (v := 1) hx hb dX6_isSame_241 (by decide) ?_
                                  refine lv_icmp_ne (tgt := 249) hx hb dX6_isSame_242 (by decide) (fun c242 => ?_) (fun c242 => ?_)
                                  · have c242 := z_ne (a := w) (b := 1) c242 (by omega) (by omega)
                                    refine lv_iconst (v := 0) hx hb dX6_isSame_249 (by decide) ?_
                                    refine lv_iconst (v := 2) hx hb dX6_isSame_250 (by decide) ?_
                                    refine z_ki (va_runV (As := [.int (nI k), .int 0, .int 2]) (rest := []) hfix (zcX4_half_k0 l D cI H119 b n me lo c e rd tk g k 2 hC124 hI (by omega) (by omega)) (cwV 3 hts gX6_isSame_X4_half rfl rfl rfl (by decide +kernel) ⟨Nat.le_of_ble_eq_true rfl, Nat.le_of_ble_eq_true rfl⟩) (z_preV hK hK1 hC124.1 (ci := 4) (q0 := 0) rfl rfl rfl) rfl rfl hl.1 rfl (lv_room (Nat.le_of_ble_eq_true rfl)) dX6_isSame_251 ⟨by show k + 1 + 0 ≤ 13; omega, by show 7 * k + 7 + 0 ≤ 90; omega⟩) ?_
                                    refine lv_aload hx hb dX6_isSame_254 (lv_at hl 4 rfl) ?_
                                    refine va_get (D := D) (ci := 5) (v := .ref ((B k) + 3)) (C := RX5) (T := TX5) (N := 7) hx hb hts hinX5 hown hK hBdm125 0 rfl rfl 2 (by decide) (hts _ (List.mem_of_getElem? (i := 9) rfl)) (fun _ h9 => h9) rfl dX6_isSame_256 ?_
                                    refine lv_iload hx hb dX6_isSame_259 (lv_at hl 0 rfl) ?_
                                    refine z_iald (a := ((B k) + 3)) (n := 2) (f := (zcb g 4 k)) (j := w) hx hb hK hBdm125 3 0 rfl rfl rfl (by omega) (by omega) dX6_isSame_261 ?_
                                    refine lv_icmp_eq (tgt := 267) hx hb dX6_isSame_262 (by decide) (fun c262 => ?_) (fun c262 => ?_)
                                    · refine lv_iload_n hx hb dX6_isSame_267 rfl (lv_at hl 6 rfl) ?_
                                      refine lv_aload hx hb dX6_isSame_268 (lv_at hl 4 rfl) ?_
                                      refine va_get (D := D) (ci := 5) (v := .ref ((B k) + 2)) (C := RX5) (T := TX5) (N := 7) hx hb hts hinX5 hown hK hBdm125 0 rfl rfl 1 (by decide) (hts _ (List.mem_of_getElem? (i := 8) rfl)) (fun _ h9 => h9) rfl dX6_isSame_270 ?_
                                      refine lv_iload hx hb dX6_isSame_273 (lv_at hl 0 rfl) ?_
                                      refine z_iald (a := ((B k) + 2)) (n := 2) (f := (zcb g 2 k)) (j := w) hx hb hK hBdm125 2 0 rfl rfl rfl (by omega) (by omega) dX6_isSame_275 ?_
                                      refine lv_if_ge (tgt := 283) hx hb dX6_isSame_276 (by decide) (fun c276 => ?_) (fun c276 => ?_)
                                      · refine lv_iconst (v := 0) hx hb dX6_isSame_283 (by decide) ?_
                                        refine lv_iadd hx hb dX6_isSame_284 ?_
                                        refine z_toi (y := nI (cth g k w + 0)) (nI_add (cth g k w) 0) ?_
                                        refine lv_istore_n (lv' := [(2, .int (nI (cth g k w + 0))), (7, .int (nI w)), (6, .ref (t + k)), (8, .int (nI i)), (5, .int (nI (ln c e k i))), (4, .ref (B k)), (3, .int (nI k)), (0, .ref o), (1, .ref b)]) hx hb dX6_isSame_285 rfl hl (by decide) rfl (fun ls hl => ?_)
                                        refine lv_iinc (v := (nI (w + 1))) (lv' := [(7, .int (nI (w + 1))), (2, .int (nI (cth g k w + 0))), (6, .ref (t + k)), (8, .int (nI i)), (5, .int (nI (ln c e k i))), (4, .ref (B k)), (3, .int (nI k)), (0, .ref o), (1, .ref b)]) hx hb dX6_isSame_286 hl (k := 1) rfl (nI_1 _) (by decide) rfl (fun ls hl => ?_)
                                        refine lv_goto (tgt := 175) hx hb dX6_isSame_289 (by decide) ?_
                                        exact ih175 (w + 1) (by omega) (by omega) _ (rfl) _ (congrArg nI (cth_n ((zV_neg hV (by omega) (by omega) hn).mp c276))) _ (lv_sub hl [0, 2, 3, 4, 5, 6, 1, 7, 8] rfl)
                                      · refine lv_iconst (v := 1) hx hb dX6_isSame_279 (by decide) ?_
                                        refine lv_goto (tgt := 284) hx hb dX6_isSame_280 (by decide) ?_
                                        refine lv_iadd hx hb dX6_isSame_284 ?_
                                        refine z_toi (y := nI (cth g k w + 1)) (nI_add (cth g k w) 1) ?_
                                        refine lv_istore_n (lv' := [(2, .int (nI (cth g k w + 1))), (7, .int (nI w)), (6, .ref (t + k)), (8, .int (nI i)), (5, .int (nI (ln c e k i))), (4, .ref (B k)), (3, .int (nI k)), (0, .ref o), (1, .ref b)]) hx hb dX6_isSame_285 rfl hl (by decide) rfl (fun ls hl => ?_)
                                        refine lv_iinc (v := (nI (w + 1))) (lv' := [(7, .int (nI (w + 1))), (2, .int (nI (cth g k w + 1))), (6, .ref (t + k)), (8, .int (nI i)), (5, .int (nI (ln c e k i))), (4, .ref (B k)), (3, .int (nI k)), (0, .ref o), (1, .ref b)]) hx hb dX6_isSame_286 hl (k := 1) rfl (nI_1 _) (by decide) rfl (fun ls hl => ?_)
                                        refine lv_goto (tgt := 175) hx hb dX6_isSame_289 (by decide) ?_
                                        exact ih175 (w + 1) (by omega) (by omega) _ (rfl) _ (congrArg nI (cth_y (Classical.byContradiction fun h9 => c276 ((zV_neg hV (by omega) (by omega) hn).mpr h9)))) _ (lv_sub hl [0, 2, 3, 4, 5, 6, 1, 7, 8] rfl)
                                    · exact absurd (by rw [show w = 0 by omega]; rfl) c262
                                  · have c242 := z_eq (a := w) (b := 1) c242 (by omega) (by omega)
                                    exact absurd c242 c186
                              · have c214 := z_eq (a := w) (b := 1) c214 (by omega) (by omega)
                                exact absurd c214 c186
                          · have c186 := z_eq (a := w) (b := 1) c186 (by omega) (by omega)
                            refine lv_iconst (v := 1) hx hb dX6_isSame_189 (by decide) ?_
                            refine lv_goto (tgt := 194) hx hb dX6_isSame_190 (by decide) ?_
                            refine lv_iconst (v := 0) hx hb dX6_isSame_194 (by decide) ?_
                            refine z_ki (va_runV (As := [.int (nI k), .int 1, .int 0]) (rest := []) hfix (zcX4_half_k1 l D cI H119 b n me lo c e rd tk g k 0 hC124 hI (by omega) (by omega)) (cwV 3 hts gX6_isSame_X4_half rfl rfl rfl (by decide +kernel) ⟨Nat.le_of_ble_eq_true rfl, Nat.le_of_ble_eq_true rfl⟩) (z_preV hK hK1 hC124.1 (ci := 4) (q0 := 0) rfl rfl rfl) rfl rfl hl.1 rfl (lv_room (Nat.le_of_ble_eq_true rfl)) dX6_isSame_195 ⟨by show k + 1 + 0 ≤ 13; omega, by show 7 * k + 7 + 0 ≤ 90; omega⟩) ?_
                            refine lv_aload hx hb dX6_isSame_198 (lv_at hl 4 rfl) ?_
                            refine va_get (D := D) (ci := 5) (v := .ref ((B k) + 1)) (C := RX5) (T := TX5) (N := 7) hx hb hts hinX5 hown hK hBdm125 0 rfl rfl 0 (by decide) (hts _ (List.mem_of_getElem? (i := 7) rfl)) (fun _ h9 => h9) rfl dX6_isSame_200 ?_
                            refine lv_iload hx hb dX6_isSame_203 (lv_at hl 0 rfl) ?_
                            refine z_iald (a := ((B k) + 1)) (n := 2) (f := (zcb g 0 k)) (j := w) hx hb hK hBdm125 1 0 rfl rfl rfl (by omega) (by omega) dX6_isSame_205 ?_
                            refine lv_icmp_ne (tgt := 265) hx hb dX6_isSame_206 (by decide) (fun c206 => ?_) (fun c206 => ?_)
                            · exact absurd (by rw [show w = 1 by omega]; rfl) c206
                            · refine lv_aload_n hx hb dX6_isSame_209 rfl (lv_at hl 8 rfl) ?_
                              refine lv_iload_n hx hb dX6_isSame_210 rfl (lv_at hl 5 rfl) ?_
                              refine lv_iload hx hb dX6_isSame_211 (lv_at hl 0 rfl) ?_
                              refine lv_iconst (v := 1) hx hb dX6_isSame_213 (by decide) ?_
                              refine lv_icmp_ne (tgt := 221) hx hb dX6_isSame_214 (by decide) (fun c214 => ?_) (fun c214 => ?_)
                              · have c214 := z_ne (a := w) (b := 1) c214 (by omega) (by omega)
                                exact absurd c186 c214
                              · have c214 := z_eq (a := w) (b := 1) c214 (by omega) (by omega)
                                refine lv_iconst (v := 1) hx hb dX6_isSame_217 (by decide) ?_
                                refine lv_goto (tgt := 222) hx hb dX6_isSame_218 (by decide) ?_
                                refine lv_iconst (v := 1) hx hb dX6_isSame_222 (by decide) ?_
                                refine z_ki (va_runV (As := [.int (nI k), .int 1, .int 1]) (rest := []) hfix (zcX4_half_k1 l D cI H119 b n me lo c e rd tk g k 1 hC124 hI (by omega) (by omega)) (cwV 3 hts gX6_isSame_X4_half rfl rfl rfl (by decide +kernel) ⟨Nat.le_of_ble_eq_true rfl, Nat.le_of_ble_eq_true rfl⟩) (z_preV hK hK1 hC124.1 (ci := 4) (q0 := 0) rfl rfl rfl) rfl rfl hl.1 rfl (lv_room (Nat.le_of_ble_eq_true rfl)) dX6_isSame_223 ⟨by show k + 1 + 0 ≤ 13; omega, by show 7 * k + 7 + 0 ≤ 90; omega⟩) ?_
                                refine lv_aload hx hb dX6_isSame_226 (lv_at hl 4 rfl) ?_
                                refine va_get (D := D) (ci := 5) (v := .ref ((B k) + 2)) (C := RX5) (T := TX5) (N := 7) hx hb hts hinX5 hown hK hBdm125 0 rfl rfl 1 (by decide) (hts _ (List.mem_of_getElem? (i := 8) rfl)) (fun _ h9 => h9) rfl dX6_isSame_228 ?_
                                refine lv_iload hx hb dX6_isSame_231 (lv_at hl 0 rfl) ?_
                                refine z_iald (a := ((B k) + 2)) (n := 2) (f := (zcb g 2 k)) (j := w) hx hb hK hBdm125 2 0 rfl rfl rfl (by omega) (by omega) dX6_isSame_233 ?_
                                refine lv_icmp_ne (tgt := 265) hx hb dX6_isSame_234 (by decide) (fun c234 => ?_) (fun c234 => ?_)
                                · exact absurd (by rw [show w = 1 by omega]; rfl) c234
                                · refine lv_aload_n hx hb dX6_isSame_237 rfl (lv_at hl 8 rfl) ?_
                                  refine lv_iload_n hx hb dX6_isSame_238 rfl (lv_at hl 5 rfl) ?_
                                  refine lv_iload hx hb dX6_isSame_239 (lv_at hl 0 rfl) ?_
                                  refine lv_iconst (v := 1) hx hb dX6_isSame_241 (by decide) ?_
                                  refine lv_icmp_ne (tgt := 249) hx hb dX6_isSame_242 (by decide) (fun c242 => ?_) (fun c242 => ?_)
                                  · have c242 := z_ne (a := w) (b := 1) c242 (by omega) (by omega)
                                    exact absurd c186 c242
                                  · have c242 := z_eq (a := w) (b := 1) c242 (by omega) (by omega)
                                    refine lv_iconst (v := 1) hx hb dX6_isSame_245 (by decide) ?_
                                    refine lv_goto (tgt := 250) hx hb dX6_isSame_246 (by decide) ?_
                                    refine lv_iconst (v := 2) hx hb dX6_isSame_250 (by decide) ?_
                                    refine z_ki (va_runV (As := [.int (nI k), .int 1, .int 2]) (rest := []) hfix (zcX4_half_k1 l D cI H119 b n me lo c e rd tk g k 2 hC124 hI (by omega) (by omega)) (cwV 3 hts gX6_isSame_X4_half rfl rfl rfl (by decide +kernel) ⟨Nat.le_of_ble_eq_true rfl, Nat.le_of_ble_eq_true rfl⟩) (z_preV hK hK1 hC124.1 (ci := 4) (q0 := 0) rfl rfl rfl) rfl rfl hl.1 rfl (lv_room (Nat.le_of_ble_eq_true rfl)) dX6_isSame_251 ⟨by show k + 1 + 0 ≤ 13; omega, by show 7 * k + 7 + 0 ≤ 90; omega⟩) ?_
                                    refine lv_aload hx hb dX6_isSame_254 (lv_at hl 4 rfl) ?_
                                    refine va_get (D := D) (ci := 5) (v := .ref ((B k) + 3)) (C := RX5) (T := TX5) (N := 7) hx hb hts hinX5 hown hK hBdm125 0 rfl rfl 2 (by decide) (hts _ (List.mem_of_getElem? (i := 9) rfl)) (fun _ h9 => h9) rfl dX6_isSame_256 ?_
                                    refine lv_iload hx hb dX6_isSame_259 (lv_at hl 0 rfl) ?_
                                    refine z_iald (a := ((B k) + 3)) (n := 2) (f := (zcb g 4 k)) (j := w) hx hb hK hBdm125 3 0 rfl rfl rfl (by omega) (by omega) dX6_isSame_261 ?_
                                    refine lv_icmp_eq (tgt := 267) hx hb dX6_isSame_262 (by decide) (fun c262 => ?_) (fun c262 => ?_)
                                    · refine lv_iload_n hx hb dX6_isSame_267 rfl (lv_at hl 6 rfl) ?_
                                      refine lv_aload hx hb dX6_isSame_268 (lv_at hl 4 rfl) ?_
                                      refine va_get (D := D) (ci := 5) (v := .ref ((B k) + 2)) (C := RX5) (T := TX5) (N := 7) hx hb hts hinX5 hown hK hBdm125 0 rfl rfl 1 (by decide) (hts _ (List.mem_of_getElem? (i := 8) rfl)) (fun _ h9 => h9) rfl dX6_isSame_270 ?_
                                      refine lv_iload hx hb dX6_isSame_273 (lv_at hl 0 rfl) ?_
                                      refine z_iald (a := ((B k) + 2)) (n := 2) (f := (zcb g 2 k)) (j := w) hx hb hK hBdm125 2 0 rfl rfl rfl (by omega) (by omega) dX6_isSame_275 ?_
                                      refine lv_if_ge (tgt := 283) hx hb dX6_isSame_276 (by decide) (fun c276 => ?_) (fun c276 => ?_)
                                      · refine lv_iconst (v := 0) hx hb dX6_isSame_283 (by decide) ?_
                                        refine lv_iadd hx hb dX6_isSame_284 ?_
                                        refine z_toi (y := nI (cth g k w + 0)) (nI_add (cth g k w) 0) ?_
                                        refine lv_istore_n (lv' := [(2, .int (nI (cth g k w + 0))), (7, .int (nI w)), (6, .ref (t + k)), (8, .int (nI i)), (5, .int (nI (ln c e k i))), (4, .ref (B k)), (3, .int (nI k)), (0, .ref o), (1, .ref b)]) hx hb dX6_isSame_285 rfl hl (by decide) rfl (fun ls hl => ?_)
                                        refine lv_iinc (v := (nI (w + 1))) (lv' := [(7, .int (nI (w + 1))), (2, .int (nI (cth g k w + 0))), (6, .ref (t + k)), (8, .int (nI i)), (5, .int (nI (ln c e k i))), (4, .ref (B k)), (3, .int (nI k)), (0, .ref o), (1, .ref b)]) hx hb dX6_isSame_286 hl (k := 1) rfl (nI_1 _) (by decide) rfl (fun ls hl => ?_)
                                        refine lv_goto (tgt := 175) hx hb dX6_isSame_289 (by decide) ?_
                                        exact ih175 (w + 1) (by omega) (by omega) _ (rfl) _ (congrArg nI (cth_n ((zV_neg hV (by omega) (by omega) hn).mp c276))) _ (lv_sub hl [0, 2, 3, 4, 5, 6, 1, 7, 8] rfl)
                                      · refine lv_iconst (v := 1) hx hb dX6_isSame_279 (by decide) ?_
                                        refine lv_goto (tgt := 284) hx hb dX6_isSame_280 (by decide) ?_
                                        refine lv_iadd hx hb dX6_isSame_284 ?_
                                        refine z_toi (y := nI (cth g k w + 1)) (nI_add (cth g k w) 1) ?_
                                        refine lv_istore_n (lv' := [(2, .int (nI (cth g k w + 1))), (7, .int (nI w)), (6, .ref (t + k)), (8, .int (nI i)), (5, .int (nI (ln c e k i))), (4, .ref (B k)), (3, .int (nI k)), (0, .ref o), (1, .ref b)]) hx hb dX6_isSame_285 rfl hl (by decide) rfl (fun ls hl => ?_)
                                        refine lv_iinc (v := (nI (w + 1))) (lv' := [(7, .int (nI (w + 1))), (2, .int (nI (cth g k w + 1))), (6, .ref (t + k)), (8, .int (nI i)), (5, .int (nI (ln c e k i))), (4, .ref (B k)), (3, .int (nI k)), (0, .ref o), (1, .ref b)]) hx hb dX6_isSame_286 hl (k := 1) rfl (nI_1 _) (by decide) rfl (fun ls hl => ?_)
                                        refine lv_goto (tgt := 175) hx hb dX6_isSame_289 (by decide) ?_
                                        exact ih175 (w + 1) (by omega) (by omega) _ (rfl) _ (congrArg nI (cth_y (Classical.byContradiction fun h9 => c276 ((zV_neg hV (by omega) (by omega) hn).mpr h9)))) _ (lv_sub hl [0, 2, 3, 4, 5, 6, 1, 7, 8] rfl)
                                    · exact absurd (by rw [show w = 1 by omega]; rfl) c262
                    exact loop175 _ 0 (Nat.lt_succ_self _) (by omega) _ (rfl) _ (rfl) _ (lv_sub hl [0, 1, 2, 3, 4, 5, 6, 7, 8] rfl)
                  · have c146 := z_nle (a := 7) (b := u) c146 (by omega) (by omega)
                    refine lv_aload_n hx hb dX6_isSame_149 rfl (lv_at hl 8 rfl) ?_
                    refine lv_iload_n hx hb dX6_isSame_150 rfl (lv_at hl 5 rfl) ?_
                    refine lv_iload hx hb dX6_isSame_151 (lv_at hl 0 rfl) ?_
                    refine z_ki (va_runV (As := [.int (nI k), .int (nI u)]) (rest := []) hfix (zcX4_parrot_k l D cI H119 b n me lo c e rd tk g k u hC124 hI (by omega) (by omega)) (cwV 2 hts gX6_isSame_X4_parrot rfl rfl rfl (by decide +kernel) ⟨Nat.le_of_ble_eq_true rfl, Nat.le_of_ble_eq_true rfl⟩) (z_preV hK hK1 hC124.1 (ci := 4) (q0 := 0) rfl rfl rfl) rfl rfl hl.1 rfl (lv_room (Nat.le_of_ble_eq_true rfl)) dX6_isSame_153 ⟨by show k + 1 + 0 ≤ 13; omega, by show 7 * k + 7 + 0 ≤ 90; omega⟩) ?_
                    refine lv_aload hx hb dX6_isSame_156 (lv_at hl 1 rfl) ?_
                    refine lv_iload hx hb dX6_isSame_158 (lv_at hl 0 rfl) ?_
                    refine z_iald (a := (t + k)) (n := 7) (f := (tp n g me lo c e k)) (j := u) hx hb hK hT128 0 0 rfl rfl rfl (by omega) (by omega) dX6_isSame_160 ?_
                    refine lv_icmp_eq (tgt := 166) hx hb dX6_isSame_161 (by decide) (fun c161 => ?_) (fun c161 => ?_)
                    · refine lv_iinc (v := (nI (u + 1))) (lv' := [(7, .int (nI (u + 1))), (6, .ref (t + k)), (8, .int (nI i)), (5, .int (nI (ln c e k i))), (4, .ref (B k)), (3, .int (nI k)), (2, .int (nI (ct g k))), (0, .ref o), (1, .ref b)]) hx hb dX6_isSame_166 hl (k := 0) rfl (nI_1 _) (by decide) rfl (fun ls hl => ?_)
                      refine lv_goto (tgt := 142) hx hb dX6_isSame_169 (by decide) ?_
                      exact ih142 (u + 1) (by omega) (by omega) _ (rfl) _ (lv_sub hl [0, 1, 2, 3, 4, 5, 6, 7, 8] rfl)
                    · exact absurd rfl c161
              exact loop142 _ 0 (Nat.lt_succ_self _) (by omega) _ (rfl) _ (lv_sub hl [0, 1, 2, 3, 4, 5, 6, 7, 8] rfl)
            · have c42 := z_nle (a := n) (b := i) c42 (by omega) (by omega)
              refine lv_aload hx hb dX6_isSame_45 (lv_at hl 2 rfl) ?_
              refine lv_iload hx hb dX6_isSame_47 (lv_at hl 0 rfl) ?_
              refine z_aald (a := ar) (n := n) (f := (zbf n B)) (j := i) hx hb hK hQ4 0 1 rfl rfl rfl rfl (by omega) (by omega) (zbf_in (by omega)) dX6_isSame_49 ?_
              obtain ⟨hBdm129, hEam129⟩ := hF5 i (by omega)
              obtain ⟨⟨sb1m129, sb2m129⟩, ⟨se1m129, se2m129⟩, sam129⟩ := hsp.2.1 i (by omega)
              refine lv_astore (lv' := [(9, .ref (B i)), (8, .int (nI i)), (7, .int (nI n)), (6, .ref ar), (5, .int (nI (ln c e k i))), (4, .ref (B k)), (3, .int (nI k)), (2, .int (nI (ct g k))), (0, .ref o), (1, .ref b)]) hx hb dX6_isSame_50 hl (by decide) rfl (fun ls hl => ?_)
              refine lv_iload hx hb dX6_isSame_52 (lv_at hl 4 rfl) ?_
              refine lv_aload hx hb dX6_isSame_54 (lv_at hl 0 rfl) ?_
              refine lv_iload_n hx hb dX6_isSame_56 rfl (lv_at hl 6 rfl) ?_
              refine z_ki (va_runV (As := [.int (nI k)]) (rest := [.int (nI (ln c e k i))]) hfix (zcX5_place l D cI H1 (B i) (E i) (zcb g 0 i) (zcb g 2 i) (zcb g 4 i) (g 6 i) (me i) (lo i) (c i) e i k hBdm129 hEam129 (zI_c hI i) (fun j hj => by have := zI_e hI hj; omega) (by omega)) (cwV 1 hts gX6_isSame_X5_place rfl rfl rfl (by decide +kernel) ⟨Nat.le_of_ble_eq_true rfl, Nat.le_of_ble_eq_true rfl⟩) (z_preV hK hK1 hBdm129 (ci := 5) (q0 := 0) rfl rfl rfl) rfl rfl hl.1 rfl (lv_room (Nat.le_of_ble_eq_true rfl)) dX6_isSame_57 ⟨by show k + 0 ≤ 13; omega, by show 7 * k + 0 ≤ 90; omega⟩) ?_
              refine lv_if_ge (tgt := 67) hx hb dX6_isSame_60 (by decide) (fun c60 => ?_) (fun c60 => ?_)
              · refine lv_iconst (v := 1) hx hb dX6_isSame_67 (by decide) ?_
                refine lv_iadd hx hb dX6_isSame_68 ?_
                refine z_toi (y := nI (ln c e k i + 1)) (nI_add (ln c e k i) 1) ?_
                refine lv_istore (lv' := [(5, .int (nI (ln c e k i + 1))), (9, .ref (B i)), (8, .int (nI i)), (7, .int (nI n)), (6, .ref ar), (4, .ref (B k)), (3, .int (nI k)), (2, .int (nI (ct g k))), (0, .ref o), (1, .ref b)]) hx hb dX6_isSame_69 hl (by decide) rfl (fun ls hl => ?_)
                refine lv_iinc (v := (nI (i + 1))) (lv' := [(8, .int (nI (i + 1))), (5, .int (nI (ln c e k i + 1))), (9, .ref (B i)), (7, .int (nI n)), (6, .ref ar), (4, .ref (B k)), (3, .int (nI k)), (2, .int (nI (ct g k))), (0, .ref o), (1, .ref b)]) hx hb dX6_isSame_71 hl (k := 2) rfl (nI_1 _) (by decide) rfl (fun ls hl => ?_)
                refine lv_goto (tgt := 38) hx hb dX6_isSame_74 (by decide) ?_
                exact ih38 (i + 1) (by omega) (by omega) _ (rfl) _ (by rw [ln_y ((zo_nn (fun q hq => by have := (zd_po_lt hq).1; have := zI_c hI i; omega)).mp c60)]) _ (lv_sub hl [0, 3, 4, 1, 5, 6, 7, 8, 9] rfl)
              · refine lv_iconst (v := 0) hx hb dX6_isSame_63 (by decide) ?_
                refine lv_goto (tgt := 68) hx hb dX6_isSame_64 (by decide) ?_
                refine lv_iadd hx hb dX6_isSame_68 ?_
                refine z_toi (y := nI (ln c e k i + 0)) (nI_add (ln c e k i) 0) ?_
                refine lv_istore (lv' := [(5, .int (nI (ln c e k i + 0))), (9, .ref (B i)), (8, .int (nI i)), (7, .int (nI n)), (6, .ref ar), (4, .ref (B k)), (3, .int (nI k)), (2, .int (nI (ct g k))), (0, .ref o), (1, .ref b)]) hx hb dX6_isSame_69 hl (by decide) rfl (fun ls hl => ?_)
                refine lv_iinc (v := (nI (i + 1))) (lv' := [(8, .int (nI (i + 1))), (5, .int (nI (ln c e k i + 0))), (9, .ref (B i)), (7, .int (nI n)), (6, .ref ar), (4, .ref (B k)), (3, .int (nI k)), (2, .int (nI (ct g k))), (0, .ref o), (1, .ref b)]) hx hb dX6_isSame_71 hl (k := 2) rfl (nI_1 _) (by decide) rfl (fun ls hl => ?_)
                refine lv_goto (tgt := 38) hx hb dX6_isSame_74 (by decide) ?_
                exact ih38 (i + 1) (by omega) (by omega) _ (rfl) _ (by rw [ln_n (Classical.byContradiction fun h9 => c60 ((zo_nn (fun q hq => by have := (zd_po_lt hq).1; have := zI_c hI i; omega)).mpr h9))]; rfl) _ (lv_sub hl [0, 3, 4, 1, 5, 6, 7, 8, 9] rfl)
        exact loop38 _ 0 (Nat.lt_succ_self _) (by omega) _ (rfl) _ (rfl) _ (lv_sub hl [0, 1, 2, 3, 4, 5, 6, 7, 8] rfl)
  exact loop4 _ 0 (Nat.lt_succ_self _) (by omega) _ (rfl) _ (rfl) _ _ hO hQ hF hC (by omega) hz hS _ (lv_sub hl [0, 1, 2, 3] rfl)
