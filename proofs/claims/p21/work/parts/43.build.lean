set_option maxHeartbeats 4000000 in
set_option maxRecDepth 100000 in
/-- a new Sim -/
theorem zcX6_init (l : Launch) (D : va_G) (cI : ClassId) (cR : ClassId) (H : Heap) (a : Nat) (hO : va_P D vwCl [(a, .inr (6, [.null, .int 0, .int 0]))] H) (hsz : H.size = a + 1) : Met l yX6_init wsX6_init ({ frames := 1, cells := 1, slots := 0, locals := 12 } : Room) (zPk D [(cI, .int), (cR, .object zBC)] H [.ref a]) (zM (fun H1 => va_P D vwCl [(a, .inr (6, [.ref (a + 1), .int 0, .int 0]))] H1 ∧ va_P D vwCl (zQr cR (a + 1) 0 (fun _ => none)) H1 ∧ H1.size = a + 2) none (fun q => a ≤ q)) 1 0 (fun q => a ≤ q) := by
  refine z_kenter (cc := cX6_init) (maxL := 1) (ret := none) (by decide) rfl (Nat.le_of_ble_eq_true rfl) ?_
  intro pg ev s m args below meth cd hfix hr hlocks hname hK hHs hKw ls hl
  have hK1 : va_K D vwCl [(cI, .int)] s := hK.sub [0] rfl
  obtain ⟨hx, hb, hml, hown, hts⟩ := id hfix
  have hl : lv_has ls 1 [(0, .ref a)] := hl
  have hS : va_S (fun q => a ≤ q) s.heap H [] := by rw [hHs]; exact va_S.rf
  have hz : H.size ≤ H.size := Nat.le_refl _
  have hin : meth.name = "<init>" := hname
  have hinX6 : ∀ w ∈ wsX60, w ∈ wsX6_init := by decide +kernel
  refine lv_aload_n hx hb dX6_init_0 rfl (lv_at hl 0 rfl) ?_
  refine W.objInit hx hb hown (hts _ (List.mem_of_getElem? (i := 1) rfl)) (hts _ (List.mem_of_getElem? (i := 2) rfl)) (hts _ (List.mem_of_getElem? (i := 3) rfl)) rfl (by rw [hml]; exact hl.1) rfl dX6_init_1 (Nat.le_of_ble_eq_true rfl) (Nat.le_of_ble_eq_true rfl) ?_
  refine W.eq (g2 := F0 m 4 ls []) rfl ?_
  refine lv_aload_n hx hb dX6_init_4 rfl (lv_at hl 0 rfl) ?_
  refine lv_iconst (v := 0) hx hb dX6_init_5 (by decide) ?_
  refine z_newq (N := 0) (C := RX5) hx hb hown (hts _ (List.mem_of_getElem? (i := 4) rfl)) hKw.1 hK 1 rfl rfl (by omega) (Nat.le_of_ble_eq_true rfl) (Nat.le_of_ble_eq_true rfl) dX6_init_6 (h := a + 1) hsz (fun H1 hQn2 hz1 hk1 => ?_)
  have hS := z_Sgrow hS (by omega) (fun q h => hk1 q (by omega))
  have hsz : H1.size = a + 2 := by omega
  have hz : H.size ≤ H1.size := by omega
  have hO3 := zOb_kept hO (fun q h1 h2 h3 => (fun q (h9 : q < H.size) (_ : True) => hk1 q (by omega)) q h1 (trivial))
  refine z_put (D := D) (ci := 6) (v := .ref (a + 1)) (ty := (.array (.object "ParrotJuryLaw$Bird"))) (C := RX6) (T := TX6) (N := 3) hx hb hts hinX6 tyX6 tyX6_ok nmX6 hown hK hO3 (by show a ≤ _; omega) hS 0 rfl rfl 0 (by decide) (hts _ (List.mem_of_getElem? (i := 5) rfl)) (fun _ h9 => h9) rfl (by decide +kernel) rfl rfl (Nat.le_of_ble_eq_true rfl) dX6_init_9 (fun H4 lo5 hP1 hz1 hk1 hS => ?_)
  have hsz : H4.size = a + 2 := by omega
  have hz : H.size ≤ H4.size := by omega
  have hO6 : va_P D vwCl [(a, .inr (6, [.ref (a + 1), .int 0, .int 0]))] H4 := z_set zOb_c hO3 0 rfl hP1 (fun q _ h => hk1 q h)
  have hQn7 := zQr_kept hQn2 (fun q h1 h2 h3 => (fun q _ h => hk1 q h) q h1 (by omega))
  refine W.widen (k := 1) (n := 0) (by omega) (by omega) ?_
  exact z_vretM (⟨hO6, hQn7, hsz⟩) hx hb hr hlocks hS dX6_init_12
set_option maxHeartbeats 4000000 in
set_option maxRecDepth 100000 in
/-- build -/
theorem zcL_build (l : Launch) (D : va_G) (cI : ClassId) (cR : ClassId) (H : Heap) (b0 : Nat) (L : Nat) (xs : Nat → Int32) (b : Nat) (o : Nat) (hL : L ≤ 260) (hC : zCW D cI b 0 (fun _ => 0) (fun _ => 0) (fun _ => 0) (fun _ => 0) 0 0 (fun _ _ => 0) H) (hsz : H.size = o) (hb9 : b + 61 ≤ o) (hbb : b0 < b) : Met l yL_build wsL_build ({ frames := 4, cells := 90, slots := 410, locals := 91 } : Room) (zPs D [(cI, .int), (cR, .object zBC)] H b0 L xs [.ref b, .ref b0]) (zM (fun H1 => ∃ n1, 0 < n1 ∧ zLs D cI cR b o n1 H1) (some (.ref o)) (fun q => b ≤ q)) 90 410 (fun q => b ≤ q) := by
  refine z_senter (cc := cL_build) (maxL := 8) (ret := (some (.object "ParrotJuryLaw$Sim"))) (by decide) rfl (Nat.le_of_ble_eq_true rfl) ?_
  intro pg ev s m args below meth cd hfix hr hlocks hname hK hHs hKw hX hb0 ls hl
  have hK1 : va_K D vwCl [(cI, .int)] s := hK.sub [0] rfl
  obtain ⟨hx, hb, hml, hown, hts⟩ := id hfix
  have hl : lv_has ls 8 [(0, .ref b), (1, .ref b0)] := hl
  have hS : va_S (fun q => b ≤ q) s.heap H [] := by rw [hHs]; exact va_S.rf
  have hz : H.size ≤ H.size := Nat.le_refl _
  have hinX5 : ∀ w ∈ wsX50, w ∈ wsL_build := by decide +kernel
  have hinX6 : ∀ w ∈ wsX60, w ∈ wsL_build := by decide +kernel
  refine z_new (ci := 6) (C := RX6) (T := TX6) (N := 3) (fs := [.null, .int 0, .int 0]) hx hb hts hinX6 tyX6 tyX6_ok hown (hts _ (List.mem_of_getElem? (i := 1) rfl)) (hts _ (List.mem_of_getElem? (i := 2) rfl)) (hts _ (List.mem_of_getElem? (i := 3) rfl)) hK rfl (fun j hj => match j, hj with | 0, _ => rfl | 1, _ => rfl | 2, _ => rfl | _ + 3, h => absurd h (by omega)) (Nat.le_of_ble_eq_true rfl) (Nat.le_of_ble_eq_true rfl) dL_build_0 (h := o + 0) hsz (fun H1 hOb2 hz1 hk1 => ?_)
  have hS := z_Sgrow hS (by omega) (fun q h => hk1 q (by omega))
  have hsz : H1.size = o + 1 := by omega
  have hz : H.size ≤ H1.size := by omega
  have hC3 := zCW_kept hC (fun q h1 h2 h3 => (fun q (h9 : q < H.size) (_ : True) => hk1 q (by omega)) q h1 (trivial))
  refine lv_dup hx hb dL_build_3 rfl ?_
  refine z_mv (va_runIN (As := []) (rest := [.ref o]) hfix (zcX6_init l D cI cR H1 o hOb2 (by omega)) ⟨va_cnB 0 hts gL_build_X6_init_n61 rfl rfl rfl hKw.2.2 (hts _ (List.mem_of_getElem? (i := 3) rfl)) (by decide +kernel) ⟨Nat.le_of_ble_eq_true rfl, Nat.le_of_ble_eq_true rfl⟩, rfl, (hts _ (List.mem_of_getElem? (i := 6) rfl))⟩ (z_kpreS hKw hK) rfl rfl hl.1 rfl (lv_room (Nat.le_of_ble_eq_true rfl)) dL_build_4 ⟨Nat.le_of_ble_eq_true rfl, Nat.le_of_ble_eq_true rfl⟩) hS (fun q _ h => by have h8 : o ≤ q := h; show b ≤ q; omega) (fun q h => by have h8 : o ≤ q := h; show b ≤ q; omega) (fun H4 lo5 hB hz1 hk1 hS => ?_)
  have hsz : H4.size = o + 2 := by have h9 := hB.2.2; omega
  have hz : H.size ≤ H4.size := by omega
  have hC6 := zCW_kept hC3 (fun q h1 h2 h3 => hk1 q h1 (fun h8 => by have h7 : o ≤ q := h8; omega))
  have hOs7 : va_P D vwCl [(o, .inr (6, [.ref (o + 1), .int 0, .int 0]))] H4 := hB.1
  have hQs8 : va_P D vwCl (zQr cR (o + 1) 0 (fun _ => none)) H4 := hB.2.1
  refine lv_astore_n (lv' := [(2, .ref o), (0, .ref b), (1, .ref b0)]) hx hb dL_build_7 rfl hl (by decide) rfl (fun ls hl => ?_)
  refine lv_iconst (v := 1) hx hb dL_build_8 (by decide) ?_
  refine lv_aload_n hx hb dL_build_9 rfl (lv_at hl 2 rfl) ?_
  refine lv_iconst (v := 0) hx hb dL_build_10 (by decide) ?_
  refine z_ki (va_runS (As := [.ref b0, .int 0]) (rest := [.int 1]) hfix (zcL_cell l D cI cR H4 b0 L xs 0 hL (by omega)) (va_cwS 2 hts gL_build_L_cell rfl rfl rfl (by decide +kernel) ⟨Nat.le_of_ble_eq_true rfl, Nat.le_of_ble_eq_true rfl⟩) (z_spreS hX hb0 (by show ¬ b ≤ b0; omega) hS hKw hK) rfl rfl hl.1 rfl (lv_room (Nat.le_of_ble_eq_true rfl)) dL_build_11 ⟨Nat.le_of_ble_eq_true rfl, Nat.le_of_ble_eq_true rfl⟩) ?_
  refine lv_bipush (v := 11) hx hb dL_build_14 (by decide) ?_
  refine z_ki (va_runS (As := [.int (zce L xs 0), .int 11]) (rest := [.int 1]) hfix (zcL_below l D cI H4 (zce L xs 0) 11 (by omega) (by omega)) (va_cwS 2 hts gL_build_L_below rfl rfl rfl (by decide +kernel) ⟨Nat.le_of_ble_eq_true rfl, Nat.le_of_ble_eq_true rfl⟩) (z_preS hK1) rfl rfl hl.1 rfl (lv_room (Nat.le_of_ble_eq_true rfl)) dL_build_16 ⟨Nat.le_of_ble_eq_true rfl, Nat.le_of_ble_eq_true rfl⟩) ?_
  obtain ⟨n1, hn1e⟩ : ∃ n1, blN (zce L xs 0) 11 = n1 := ⟨_, rfl⟩
  have hn1 : n1 < 11 := hn1e ▸ blN_lt (by omega)
  refine z_toi (y := nI n1) (congrArg nI hn1e) ?_
  refine lv_iadd hx hb dL_build_19 ?_
  refine z_toi (y := nI (1 + n1)) (nI_add 1 n1) ?_
  refine lv_istore_n (lv' := [(3, .int (nI (1 + n1))), (2, .ref o), (0, .ref b), (1, .ref b0)]) hx hb dL_build_20 rfl hl (by decide) rfl (fun ls hl => ?_)
  refine lv_iconst (v := 0) hx hb dL_build_21 (by decide) ?_
  refine lv_istore (lv' := [(4, .int 0), (3, .int (nI (1 + n1))), (2, .ref o), (0, .ref b), (1, .ref b0)]) hx hb dL_build_22 hl (by decide) rfl (fun ls hl => ?_)
  have loop24 : ∀ (fu : Nat) (k : Nat), 1 + n1 - k < fu → (k ≤ 1 + n1) → ∀ (x4 : Int32), x4 = (nI k) → ∀ (H9 : Heap) (lo10 : List Loc), (zLw D cI cR b o k 0 H9) → H.size ≤ H9.size → va_S (fun q => b ≤ q) s.heap H9 lo10 → ∀ ls : Array Slot, lv_has ls 8 [(4, .int x4), (3, .int (nI (1 + n1))), (2, .ref o), (0, .ref b), (1, .ref b0)] → W pg l ev ({ frames := 4, cells := 90, slots := 410, locals := 91 } : Room) s m args below meth cd H9 lo10 (2 + 6 * k) (3 + 26 * k) (MQ below (zM (fun H1 => ∃ n1, 0 < n1 ∧ zLs D cI cR b o n1 H1) (some (.ref o)) (fun q => b ≤ q)) args s 90 410 (fun q => b ≤ q)) (F0 m 24 ls []) := by
    intro fu
    induction fu with
    | zero => intro k hfu; exact absurd hfu (Nat.not_lt_zero _)
    | succ fu ih =>
      intro k hfu hi24_0 x4 ex4 H9 lo10 hh24_0 hz hS ls hl
      subst ex4
      obtain ⟨ar, B, E, me, lo, c, e, rd, tk, g, hSm, hC, hI, hZ, hV, hN, hW⟩ := id hh24_0
      obtain ⟨t, hsz⟩ : ∃ q, q = H9.size := ⟨_, rfl⟩
      have hsz : H9.size = t := hsz.symm
      rw [hsz] at hSm
      obtain ⟨hO, hQ, hF, hsp⟩ := id hSm
      obtain ⟨⟨ho1, ho2, ho3⟩, -, -⟩ := id hsp
      have hn := zI_n hI
      refine lv_iload hx hb dL_build_24 (lv_at hl 0 rfl) ?_
      refine lv_iload_n hx hb dL_build_26 rfl (lv_at hl 1 rfl) ?_
      refine lv_icmp_ge (tgt := 94) hx hb dL_build_27 (by decide) (fun c27 => ?_) (fun c27 => ?_)
      · have c27 := z_le (a := 1 + n1) (b := k) c27 (by omega) (by omega)
        refine lv_iconst (v := 0) hx hb dL_build_94 (by decide) ?_
        refine lv_istore (lv' := [(4, .int 0), (3, .int (nI (1 + n1))), (2, .ref o), (0, .ref b), (1, .ref b0)]) hx hb dL_build_95 hl (by decide) rfl (fun ls hl => ?_)
        have loop97 : ∀ (fu : Nat) (k : Nat), (1 + n1) * 2 - k < fu → (k ≤ (1 + n1) * 2) → ∀ (x4 : Int32), x4 = (nI k) → ∀ (H11 : Heap) (lo12 : List Loc), (zLw D cI cR b o (1 + n1) 0 H11) → H.size ≤ H11.size → va_S (fun q => b ≤ q) s.heap H11 lo12 → ∀ ls : Array Slot, lv_has ls 8 [(4, .int x4), (3, .int (nI (1 + n1))), (2, .ref o), (0, .ref b), (1, .ref b0)] → W pg l ev ({ frames := 4, cells := 90, slots := 410, locals := 91 } : Room) s m args below meth cd H11 lo12 (68 + k) (300 + 5 * k) (MQ below (zM (fun H1 => ∃ n1, 0 < n1 ∧ zLs D cI cR b o n1 H1) (some (.ref o)) (fun q => b ≤ q)) args s 90 410 (fun q => b ≤ q)) (F0 m 97 ls []) := by
          intro fu
          induction fu with
          | zero => intro k hfu; exact absurd hfu (Nat.not_lt_zero _)
          | succ fu ih97 =>
            intro k hfu hi97_0 x4 ex4 H11 lo12 hh97_0 hz hS ls hl
            subst ex4
            obtain ⟨ar, B, E, me, lo, c, e, rd, tk, g, hSm, hC, hI, hZ, hV, hN, hW⟩ := id hh97_0
            obtain ⟨t, hsz⟩ : ∃ q, q = H11.size := ⟨_, rfl⟩
            have hsz : H11.size = t := hsz.symm
            rw [hsz] at hSm
            obtain ⟨hO, hQ, hF, hsp⟩ := id hSm
            obtain ⟨⟨ho1, ho2, ho3⟩, -, -⟩ := id hsp
            have hn := zI_n hI
            refine lv_iload hx hb dL_build_97 (lv_at hl 0 rfl) ?_
            refine lv_iconst (v := 2) hx hb dL_build_99 (by decide) ?_
            refine lv_iload_n hx hb dL_build_100 rfl (lv_at hl 1 rfl) ?_
            refine lv_imul hx hb dL_build_101 ?_
            refine z_toi (y := nI ((1 + n1) * 2)) ((pk_mul 2 (1 + n1)).trans (congrArg nI (Nat.mul_comm _ _))) ?_
            refine lv_icmp_ge (tgt := 222) hx hb dL_build_102 (by decide) (fun c102 => ?_) (fun c102 => ?_)
            · have c102 := z_le (a := (1 + n1) * 2) (b := k) c102 (by omega) (by omega)
              refine lv_iconst (v := 0) hx hb dL_build_222 (by decide) ?_
              refine lv_istore (lv' := [(4, .int 0), (3, .int (nI (1 + n1))), (2, .ref o), (0, .ref b), (1, .ref b0)]) hx hb dL_build_223 hl (by decide) rfl (fun ls hl => ?_)
              have loop225 : ∀ (fu : Nat) (k : Nat), 1 + n1 - k < fu → (k ≤ 1 + n1) → ∀ (x4 : Int32), x4 = (nI k) → ∀ (H13 : Heap) (lo14 : List Loc), (zLw D cI cR b o (1 + n1) k H13) → H.size ≤ H13.size → va_S (fun q => b ≤ q) s.heap H13 lo14 → ∀ ls : Array Slot, lv_has ls 8 [(4, .int x4), (3, .int (nI (1 + n1))), (2, .ref o), (0, .ref b), (1, .ref b0)] → W pg l ev ({ frames := 4, cells := 90, slots := 410, locals := 91 } : Room) s m args below meth cd H13 lo14 90 410 (MQ below (zM (fun H1 => ∃ n1, 0 < n1 ∧ zLs D cI cR b o n1 H1) (some (.ref o)) (fun q => b ≤ q)) args s 90 410 (fun q => b ≤ q)) (F0 m 225 ls []) := by
                intro fu
                induction fu with
                | zero => intro k hfu; exact absurd hfu (Nat.not_lt_zero _)
                | succ fu ih225 =>
                  intro k hfu hi225_0 x4 ex4 H13 lo14 hh225_0 hz hS ls hl
                  subst ex4
                  obtain ⟨ar, B, E, me, lo, c, e, rd, tk, g, hSm, hC, hI, hZ, hV, hN, hW⟩ := id hh225_0
                  obtain ⟨t, hsz⟩ : ∃ q, q = H13.size := ⟨_, rfl⟩
                  have hsz : H13.size = t := hsz.symm
                  rw [hsz] at hSm
                  obtain ⟨hO, hQ, hF, hsp⟩ := id hSm
                  obtain ⟨⟨ho1, ho2, ho3⟩, -, -⟩ := id hsp
                  have hn := zI_n hI
                  refine lv_iload hx hb dL_build_225 (lv_at hl 0 rfl) ?_
                  refine lv_iload_n hx hb dL_build_227 rfl (lv_at hl 1 rfl) ?_
                  refine lv_icmp_ge (tgt := 331) hx hb dL_build_228 (by decide) (fun c228 => ?_) (fun c228 => ?_)
                  · have c228 := z_le (a := 1 + n1) (b := k) c228 (by omega) (by omega)
                    refine lv_aload_n hx hb dL_build_331 rfl (lv_at hl 2 rfl) ?_
                    refine W.widen (k := 90) (n := 410) (by omega) (by omega) ?_
                    exact z_aretM (⟨1 + n1, by omega, zLw_s hh225_0⟩) hx hb hr (Or.inl ⟨_, rfl⟩) hlocks hS dL_build_332
                  · have c228 := z_nle (a := 1 + n1) (b := k) c228 (by omega) (by omega)
                    refine lv_aload_n hx hb dL_build_231 rfl (lv_at hl 4 rfl) ?_
                    refine lv_bipush (v := 8) hx hb dL_build_232 (by decide) ?_
                    refine lv_iload hx hb dL_build_234 (lv_at hl 0 rfl) ?_
                    refine lv_iconst (v := 4) hx hb dL_build_236 (by decide) ?_
                    refine lv_irem hx hb dL_build_237 (by decide) ?_
                    refine z_toi (y := zrem (nI k) 4) rfl ?_
                    refine z_toi (y := nI (k % 4)) (pk_rem (d := 4) (by omega) (by decide) (by decide)) ?_
                    refine lv_iadd hx hb dL_build_238 ?_
                    refine z_toi (y := nI (8 + (k % 4))) (nI_add 8 (k % 4)) ?_
                    refine z_ki (va_runS (As := [.ref b0, .int (nI (8 + (k % 4)))]) (rest := []) hfix (zcL_cell l D cI cR H13 b0 L xs (8 + (k % 4)) hL (by omega)) (va_cwS 2 hts gL_build_L_cell rfl rfl rfl (by decide +kernel) ⟨Nat.le_of_ble_eq_true rfl, Nat.le_of_ble_eq_true rfl⟩) (z_spreS hX hb0 (by show ¬ b ≤ b0; omega) hS hKw hK) rfl rfl hl.1 rfl (lv_room (Nat.le_of_ble_eq_true rfl)) dL_build_239 ⟨Nat.le_of_ble_eq_true rfl, Nat.le_of_ble_eq_true rfl⟩) ?_
                    refine lv_iload hx hb dL_build_242 (lv_at hl 0 rfl) ?_
                    refine lv_iconst (v := 4) hx hb dL_build_244 (by decide) ?_
                    refine lv_idiv hx hb dL_build_245 (by decide) ?_
                    refine z_toi (y := nI (k / 4)) (pk_div (d := 4) (by omega) (by decide) (by decide)) ?_
                    refine lv_iconst (v := 5) hx hb dL_build_246 (by decide) ?_
                    refine lv_imul hx hb dL_build_247 ?_
                    refine z_toi (y := nI ((k / 4) * 5)) (pk_mul (k / 4) 5) ?_
                    refine lv_ishr hx hb dL_build_248 ?_
                    refine lv_bipush (v := 41) hx hb dL_build_249 (by decide) ?_
                    refine lv_iload hx hb dL_build_251 (lv_at hl 0 rfl) ?_
                    refine lv_imul hx hb dL_build_253 ?_
                    refine z_toi (y := nI (k * 41)) ((pk_mul 41 k).trans (congrArg nI (Nat.mul_comm _ _))) ?_
                    refine lv_iadd hx hb dL_build_254 ?_
                    refine lv_istore (lv' := [(5, .int (((zce L xs (8 + (k % 4))) >>> ((nI ((k / 4) * 5)) &&& 31)) + (nI (k * 41)))), (4, .int (nI k)), (3, .int (nI (1 + n1))), (2, .ref o), (0, .ref b), (1, .ref b0)]) hx hb dL_build_255 hl (by decide) rfl (fun ls hl => ?_)
                    obtain ⟨xv, hxv⟩ : ∃ xv, (((zce L xs (8 + (k % 4))) >>> ((nI ((k / 4) * 5)) &&& 31)) + (nI (k * 41))) = xv := ⟨_, rfl⟩
                    have hl : lv_has ls 8 [(5, .int xv), (4, .int (nI k)), (3, .int (nI (1 + n1))), (2, .ref o), (0, .ref b), (1, .ref b0)] := by rw [hxv] at hl; exact hl
                    refine lv_iload hx hb dL_build_257 (lv_at hl 0 rfl) ?_
                    refine lv_iconst (v := 3) hx hb dL_build_259 (by decide) ?_
                    refine z_ki (va_runS (As := [.int xv, .int 3]) (rest := []) hfix (zcL_below l D cI H13 xv 3 (by omega) (by omega)) (va_cwS 2 hts gL_build_L_below rfl rfl rfl (by decide +kernel) ⟨Nat.le_of_ble_eq_true rfl, Nat.le_of_ble_eq_true rfl⟩) (z_preS hK1) rfl rfl hl.1 rfl (lv_room (Nat.le_of_ble_eq_true rfl)) dL_build_260 ⟨Nat.le_of_ble_eq_true rfl, Nat.le_of_ble_eq_true rfl⟩) ?_
                    obtain ⟨w3, hw3e⟩ : ∃ w3, blN xv 3 = w3 := ⟨_, rfl⟩
                    have hw3 : w3 < 3 := hw3e ▸ blN_lt (by omega)
                    refine z_toi (y := nI w3) (congrArg nI hw3e) ?_
                    refine lv_if_ne (tgt := 269) hx hb dL_build_263 (by decide) (fun c263 => ?_) (fun c263 => ?_)
                    · have c263 := z_ne (a := w3) (b := 0) c263 (by omega) (by omega)
                      refine lv_bipush (v := 29) hx hb dL_build_269 (by decide) ?_
                      refine lv_iload hx hb dL_build_271 (lv_at hl 0 rfl) ?_
                      refine lv_imul hx hb dL_build_273 ?_
                      refine lv_sipush (v := 10000) hx hb dL_build_274 (by decide) ?_
                      refine z_ki (va_runS (As := [.int (29 * xv), .int 10000]) (rest := []) hfix (zcL_below l D cI H13 (29 * xv) 10000 (by omega) (by omega)) (va_cwS 2 hts gL_build_L_below rfl rfl rfl (by decide +kernel) ⟨Nat.le_of_ble_eq_true rfl, Nat.le_of_ble_eq_true rfl⟩) (z_preS hK1) rfl rfl hl.1 rfl (lv_room (Nat.le_of_ble_eq_true rfl)) dL_build_277 ⟨Nat.le_of_ble_eq_true rfl, Nat.le_of_ble_eq_true rfl⟩) ?_
                      obtain ⟨y, hye⟩ : ∃ y, blN (29 * xv) 10000 = y := ⟨_, rfl⟩
                      have hy : y < 10000 := hye ▸ blN_lt (by omega)
                      refine z_toi (y := nI y) (congrArg nI hye) ?_
                      refine lv_istore (lv' := [(6, .int (nI y)), (5, .int xv), (4, .int (nI k)), (3, .int (nI (1 + n1))), (2, .ref o), (0, .ref b), (1, .ref b0)]) hx hb dL_build_280 hl (by decide) rfl (fun ls hl => ?_)
                      refine lv_aload_n hx hb dL_build_282 rfl (lv_at hl 4 rfl) ?_
                      refine va_get (D := D) (ci := 6) (v := .ref ar) (C := RX6) (T := TX6) (N := 3) hx hb hts hinX6 hown hK hO 0 rfl rfl 0 (by decide) (hts _ (List.mem_of_getElem? (i := 4) rfl)) (fun _ h9 => h9) rfl dL_build_283 ?_
                      refine lv_iload hx hb dL_build_286 (lv_at hl 2 rfl) ?_
                      refine z_aald (a := ar) (n := (1 + n1)) (f := (zbf (1 + n1) B)) (j := k) hx hb hK hQ 0 1 rfl rfl rfl rfl (by omega) (by omega) (zbf_in (by omega)) dL_build_288 ?_
                      obtain ⟨hBdm15, hEam15⟩ := hF k (by omega)
                      obtain ⟨⟨sb1m15, sb2m15⟩, ⟨se1m15, se2m15⟩, sam15⟩ := hsp.2.1 k (by omega)
                      refine lv_iload hx hb dL_build_289 (lv_at hl 0 rfl) ?_
                      refine lv_iload hx hb dL_build_291 (lv_at hl 1 rfl) ?_
                      refine lv_iconst (v := 4) hx hb dL_build_293 (by decide) ?_
                      refine lv_ishr hx hb dL_build_294 ?_
                      refine lv_bipush (v := 10) hx hb dL_build_295 (by decide) ?_
                      refine z_ki (va_runS (As := [.int (xv >>> (4 &&& 31)), .int 10]) (rest := [.int (nI y), .ref (B k)]) hfix (zcL_below l D cI H13 (xv >>> (4 &&& 31)) 10 (by omega) (by omega)) (va_cwS 2 hts gL_build_L_below rfl rfl rfl (by decide +kernel) ⟨Nat.le_of_ble_eq_true rfl, Nat.le_of_ble_eq_true rfl⟩) (z_preS hK1) rfl rfl hl.1 rfl (lv_room (Nat.le_of_ble_eq_true rfl)) dL_build_297 ⟨Nat.le_of_ble_eq_true rfl, Nat.le_of_ble_eq_true rfl⟩) ?_
                      obtain ⟨z, hze⟩ : ∃ z, blN (xv >>> (4 &&& 31)) 10 = z := ⟨_, rfl⟩
                      have hz : z < 10 := hze ▸ blN_lt (by omega)
                      refine z_toi (y := nI z) (congrArg nI hze) ?_
                      refine z_mv (va_runV (As := [.int (nI y), .int (nI z)]) (rest := []) hfix (zcX5_say l D cI H13 (B k) (E k) (zcb g 0 k) (zcb g 2 k) (zcb g 4 k) (g 6 k) (me k) (lo k) (nI y) (nI z) hBdm15) (cwV 2 hts gL_build_X5_say rfl rfl rfl (by decide +kernel) ⟨Nat.le_of_ble_eq_true rfl, Nat.le_of_ble_eq_true rfl⟩) (z_preV hK hK1 hBdm15 (ci := 5) (q0 := 0) rfl rfl rfl) rfl rfl hl.1 rfl (lv_room (Nat.le_of_ble_eq_true rfl)) dL_build_300 ⟨Nat.le_of_ble_eq_true rfl, Nat.le_of_ble_eq_true rfl⟩) hS (fun q _ h => by simp only [zF] at h; show b ≤ q; omega) (fun q h => by simp only [zF] at h; show b ≤ q; omega) (fun H16 lo17 hB hz1 hk1 hS => ?_)
                      have hz : H.size ≤ H16.size := by have h9 := hB.2; omega
                      have hsz : H16.size = t + 0 := hB.2.trans hsz
                      have hF18 : zFm D cI (1 + n1) B E me lo c e (wh g k (nI y) (nI z)) H16 := zFm_set hsp hF (p := k) (by omega) (zBw_wh hB.1) (fun q h1 h2 => hk1 q h1 h2) (fun j hj _ => ⟨fun k _ => wh_row _ hj, rfl, rfl⟩)
                      have hO19 := zOb_kept hO (fun q h1 h2 h3 => hk1 q h1 (by simp only [zF]; omega))
                      have hQ20 := zQr_kept hQ (fun q h1 h2 h3 => hk1 q h1 (by simp only [zF]; omega))
                      have hC21 := zCW_kept hC (fun q h1 h2 h3 => hk1 q h1 (by simp only [zF]; omega))
                      refine lv_aload_n hx hb dL_build_303 rfl (lv_at hl 5 rfl) ?_
                      refine lv_iload hx hb dL_build_304 (lv_at hl 2 rfl) ?_
                      refine lv_iload hx hb dL_build_306 (lv_at hl 0 rfl) ?_
                      refine lv_iload hx hb dL_build_308 (lv_at hl 1 rfl) ?_
                      refine lv_iconst (v := 4) hx hb dL_build_310 (by decide) ?_
                      refine lv_ishr hx hb dL_build_311 ?_
                      refine lv_bipush (v := 10) hx hb dL_build_312 (by decide) ?_
                      refine z_ki (va_runS (As := [.int (xv >>> (4 &&& 31)), .int 10]) (rest := [.int (nI y), .int (nI k), .ref b]) hfix (zcL_below l D cI H16 (xv >>> (4 &&& 31)) 10 (by omega) (by omega)) (va_cwS 2 hts gL_build_L_below rfl rfl rfl (by decide +kernel) ⟨Nat.le_of_ble_eq_true rfl, Nat.le_of_ble_eq_true rfl⟩) (z_preS hK1) rfl rfl hl.1 rfl (lv_room (Nat.le_of_ble_eq_true rfl)) dL_build_314 ⟨Nat.le_of_ble_eq_true rfl, Nat.le_of_ble_eq_true rfl⟩) ?_
                      refine z_toi (y := nI z) (congrArg nI hze) ?_
                      refine z_mi (va_runV (As := [.int (nI k), .int (nI y), .int (nI z)]) (rest := []) hfix (zcX4_whisper_k l D cI H16 b (1 + n1) me lo c e rd tk g k y z hC21 hI (by omega) (by omega) (by omega)) (cwV 3 hts gL_build_X4_whisper rfl rfl rfl (by decide +kernel) ⟨Nat.le_of_ble_eq_true rfl, Nat.le_of_ble_eq_true rfl⟩) (z_preV hK hK1 hC21.1 (ci := 4) (q0 := 0) rfl rfl rfl) rfl rfl hl.1 rfl (lv_room (Nat.le_of_ble_eq_true rfl)) dL_build_317 ⟨Nat.le_of_ble_eq_true rfl, Nat.le_of_ble_eq_true rfl⟩) hS (fun q _ h => by simp only [zF] at h; show b ≤ q; omega) (fun q h => by simp only [zF] at h; show b ≤ q; omega) (fun H22 lo23 hB hz1 hk1 hS => ?_)
                      have hz : H.size ≤ H22.size := by have h9 := hB.2; omega
                      have hsz : H22.size = t + 0 := hB.2.trans hsz
                      have hF24 := zFm_kept hsp hF18 (fun q h1 h2 h3 => hk1 q h1 (by simp only [zF]; omega))
                      have hO25 := zOb_kept hO19 (fun q h1 h2 h3 => hk1 q h1 (by simp only [zF]; omega))
                      have hQ26 := zQr_kept hQ20 (fun q h1 h2 h3 => hk1 q h1 (by simp only [zF]; omega))
                      have hC27 : zCW D cI b (1 + n1) me lo c e rd tk (wh g k (nI y) (nI z)) H22 := hB.1
                      refine lv_if_eq (tgt := 325) hx hb dL_build_320 (by decide) (fun c320 => ?_) (fun c320 => ?_)
                      · refine lv_iinc (v := (nI (k + 1))) (lv' := [(4, .int (nI (k + 1))), (6, .int (nI y)), (5, .int xv), (3, .int (nI (1 + n1))), (2, .ref o), (0, .ref b), (1, .ref b0)]) hx hb dL_build_325 hl (k := 2) rfl (nI_1 _) (by decide) rfl (fun ls hl => ?_)
                        refine lv_goto (tgt := 225) hx hb dL_build_328 (by decide) ?_
                        exact ih225 (k + 1) (by omega) (by omega) _ (rfl) _ _ (⟨ar, B, E, me, lo, c, e, rd, tk, wh g k (nI y) (nI z), by rw [hsz]; exact ⟨hO25, hQ26, hF24, hsp⟩, hC27, hI, zJ_wh hZ (by omega) (by omega), zV_wh hV, hN, zw_wh hW⟩) hz hS _ (lv_sub hl [0, 3, 4, 5, 6] rfl)
                      · exact absurd (zw_0 hW (by omega)) c320
                    · have c263 := z_eq (a := w3) (b := 0) c263 (by omega) (by omega)
                      refine lv_goto (tgt := 325) hx hb dL_build_266 (by decide) ?_
                      refine lv_iinc (v := (nI (k + 1))) (lv' := [(4, .int (nI (k + 1))), (5, .int xv), (3, .int (nI (1 + n1))), (2, .ref o), (0, .ref b), (1, .ref b0)]) hx hb dL_build_325 hl (k := 1) rfl (nI_1 _) (by decide) rfl (fun ls hl => ?_)
                      refine lv_goto (tgt := 225) hx hb dL_build_328 (by decide) ?_
                      exact ih225 (k + 1) (by omega) (by omega) _ (rfl) _ _ (⟨ar, B, E, me, lo, c, e, rd, tk, g, by rw [hsz]; exact ⟨hO, hQ, hF, hsp⟩, hC, hI, hZ, hV, hN, zw_next hW⟩) hz hS _ (lv_sub hl [0, 2, 3, 4, 5] rfl)
              refine W.widen (k := 90) (n := 410) (by omega) (by omega) ?_
              exact loop225 _ 0 (Nat.lt_succ_self _) (by omega) _ (rfl) _ _ (hh97_0) hz hS _ (lv_sub hl [0, 1, 2, 3, 4] rfl)
            · have c102 := z_nle (a := (1 + n1) * 2) (b := k) c102 (by omega) (by omega)
              refine lv_iload_n hx hb dL_build_105 rfl (lv_at hl 1 rfl) ?_
              refine lv_iconst (v := 1) hx hb dL_build_106 (by decide) ?_
              refine lv_icmp_le (tgt := 222) hx hb dL_build_107 (by decide) (fun c107 => ?_) (fun c107 => ?_)
              · have c107 := z_le (a := 1 + n1) (b := 1) c107 (by omega) (by omega)
                refine lv_iconst (v := 0) hx hb dL_build_222 (by decide) ?_
                refine lv_istore (lv' := [(4, .int 0), (3, .int (nI (1 + n1))), (2, .ref o), (0, .ref b), (1, .ref b0)]) hx hb dL_build_223 hl (by decide) rfl (fun ls hl => ?_)
                have loop225 : ∀ (fu : Nat) (k : Nat), 1 + n1 - k < fu → (k ≤ 1 + n1) → ∀ (x4 : Int32), x4 = (nI k) → ∀ (H28 : Heap) (lo29 : List Loc), (zLw D cI cR b o (1 + n1) k H28) → H.size ≤ H28.size → va_S (fun q => b ≤ q) s.heap H28 lo29 → ∀ ls : Array Slot, lv_has ls 8 [(4, .int x4), (3, .int (nI (1 + n1))), (2, .ref o), (0, .ref b), (1, .ref b0)] → W pg l ev ({ frames := 4, cells := 90, slots := 410, locals := 91 } : Room) s m args below meth cd H28 lo29 90 410 (MQ below (zM (fun H1 => ∃ n1, 0 < n1 ∧ zLs D cI cR b o n1 H1) (some (.ref o)) (fun q => b ≤ q)) args s 90 410 (fun q => b ≤ q)) (F0 m 225 ls []) := by
                  intro fu
                  induction fu with
                  | zero => intro k hfu; exact absurd hfu (Nat.not_lt_zero _)
                  | succ fu ih225 =>
                    intro k hfu hi225_0 x4 ex4 H28 lo29 hh225_0 hz hS ls hl
                    subst ex4
                    obtain ⟨ar, B, E, me, lo, c, e, rd, tk, g, hSm, hC, hI, hZ, hV, hN, hW⟩ := id hh225_0
                    obtain ⟨t, hsz⟩ : ∃ q, q = H28.size := ⟨_, rfl⟩
                    have hsz : H28.size = t := hsz.symm
                    rw [hsz] at hSm
                    obtain ⟨hO, hQ, hF, hsp⟩ := id hSm
                    obtain ⟨⟨ho1, ho2, ho3⟩, -, -⟩ := id hsp
                    have hn := zI_n hI
                    refine lv_iload hx hb dL_build_225 (lv_at hl 0 rfl) ?_
                    refine lv_iload_n hx hb dL_build_227 rfl (lv_at hl 1 rfl) ?_
                    refine lv_icmp_ge (tgt := 331) hx hb dL_build_228 (by decide) (fun c228 => ?_) (fun c228 => ?_)
                    · have c228 := z_le (a := 1 + n1) (b := k) c228 (by omega) (by omega)
                      refine lv_aload_n hx hb dL_build_331 rfl (lv_at hl 2 rfl) ?_
                      refine W.widen (k := 90) (n := 410) (by omega) (by omega) ?_
                      exact z_aretM (⟨1 + n1, by omega, zLw_s hh225_0⟩) hx hb hr (Or.inl ⟨_, rfl⟩) hlocks hS dL_build_332
                    · have c228 := z_nle (a := 1 + n1) (b := k) c228 (by omega) (by omega)
                      refine lv_aload_n hx hb dL_build_231 rfl (lv_at hl 4 rfl) ?_
                      refine lv_bipush (v := 8) hx hb dL_build_232 (by decide) ?_
                      refine lv_iload hx hb dL_build_234 (lv_at hl 0 rfl) ?_
                      refine lv_iconst (v := 4) hx hb dL_build_236 (by decide) ?_
                      refine lv_irem hx hb dL_build_237 (by decide) ?_
                      refine z_toi (y := zrem (nI k) 4) rfl ?_
                      refine z_toi (y := nI (k % 4)) (pk_rem (d := 4) (by omega) (by decide) (by decide)) ?_
                      refine lv_iadd hx hb dL_build_238 ?_
                      refine z_toi (y := nI (8 + (k % 4))) (nI_add 8 (k % 4)) ?_
                      refine z_ki (va_runS (As := [.ref b0, .int (nI (8 + (k % 4)))]) (rest := []) hfix (zcL_cell l D cI cR H28 b0 L xs (8 + (k % 4)) hL (by omega)) (va_cwS 2 hts gL_build_L_cell rfl rfl rfl (by decide +kernel) ⟨Nat.le_of_ble_eq_true rfl, Nat.le_of_ble_eq_true rfl⟩) (z_spreS hX hb0 (by show ¬ b ≤ b0; omega) hS hKw hK) rfl rfl hl.1 rfl (lv_room (Nat.le_of_ble_eq_true rfl)) dL_build_239 ⟨Nat.le_of_ble_eq_true rfl, Nat.le_of_ble_eq_true rfl⟩) ?_
                      refine lv_iload hx hb dL_build_242 (lv_at hl 0 rfl) ?_
                      refine lv_iconst (v := 4) hx hb dL_build_244 (by decide) ?_
                      refine lv_idiv hx hb dL_build_245 (by decide) ?_
                      refine z_toi (y := nI (k / 4)) (pk_div (d := 4) (by omega) (by decide) (by decide)) ?_
                      refine lv_iconst (v := 5) hx hb dL_build_246 (by decide) ?_
                      refine lv_imul hx hb dL_build_247 ?_
                      refine z_toi (y := nI ((k / 4) * 5)) (pk_mul (k / 4) 5) ?_
                      refine lv_ishr hx hb dL_build_248 ?_
                      refine lv_bipush (v := 41) hx hb dL_build_249 (by decide) ?_
                      refine lv_iload hx hb dL_build_251 (lv_at hl 0 rfl) ?_
                      refine lv_imul hx hb dL_build_253 ?_
                      refine z_toi (y := nI (k * 41)) ((pk_mul 41 k).trans (congrArg nI (Nat.mul_comm _ _))) ?_
                      refine lv_iadd hx hb dL_build_254 ?_
                      refine lv_istore (lv' := [(5, .int (((zce L xs (8 + (k % 4))) >>> ((nI ((k / 4) * 5)) &&& 31)) + (nI (k * 41)))), (4, .int (nI k)), (3, .int (nI (1 + n1))), (2, .ref o), (0, .ref b), (1, .ref b0)]) hx hb dL_build_255 hl (by decide) rfl (fun ls hl => ?_)
                      obtain ⟨xv, hxv⟩ : ∃ xv, (((zce L xs (8 + (k % 4))) >>> ((nI ((k / 4) * 5)) &&& 31)) + (nI (k * 41))) = xv := ⟨_, rfl⟩
                      have hl : lv_has ls 8 [(5, .int xv), (4, .int (nI k)), (3, .int (nI (1 + n1))), (2, .ref o), (0, .ref b), (1, .ref b0)] := by rw [hxv] at hl; exact hl
                      refine lv_iload hx hb dL_build_257 (lv_at hl 0 rfl) ?_
                      refine lv_iconst (v := 3) hx hb dL_build_259 (by decide) ?_
                      refine z_ki (va_runS (As := [.int xv, .int 3]) (rest := []) hfix (zcL_below l D cI H28 xv 3 (by omega) (by omega)) (va_cwS 2 hts gL_build_L_below rfl rfl rfl (by decide +kernel) ⟨Nat.le_of_ble_eq_true rfl, Nat.le_of_ble_eq_true rfl⟩) (z_preS hK1) rfl rfl hl.1 rfl (lv_room (Nat.le_of_ble_eq_true rfl)) dL_build_260 ⟨Nat.le_of_ble_eq_true rfl, Nat.le_of_ble_eq_true rfl⟩) ?_
                      obtain ⟨w3, hw3e⟩ : ∃ w3, blN xv 3 = w3 := ⟨_, rfl⟩
                      have hw3 : w3 < 3 := hw3e ▸ blN_lt (by omega)
                      refine z_toi (y := nI w3) (congrArg nI hw3e) ?_
                      refine lv_if_ne (tgt := 269) hx hb dL_build_263 (by decide) (fun c263 => ?_) (fun c263 => ?_)
                      · have c263 := z_ne (a := w3) (b := 0) c263 (by omega) (by omega)
                        refine lv_bipush (v := 29) hx hb dL_build_269 (by decide) ?_
                        refine lv_iload hx hb dL_build_271 (lv_at hl 0 rfl) ?_
                        refine lv_imul hx hb dL_build_273 ?_
                        refine lv_sipush (v := 10000) hx hb dL_build_274 (by decide) ?_
                        refine z_ki (va_runS (As := [.int (29 * xv), .int 10000]) (rest := []) hfix (zcL_below l D cI H28 (29 * xv) 10000 (by omega) (by omega)) (va_cwS 2 hts gL_build_L_below rfl rfl rfl (by decide +kernel) ⟨Nat.le_of_ble_eq_true rfl, Nat.le_of_ble_eq_true rfl⟩) (z_preS hK1) rfl rfl hl.1 rfl (lv_room (Nat.le_of_ble_eq_true rfl)) dL_build_277 ⟨Nat.le_of_ble_eq_true rfl, Nat.le_of_ble_eq_true rfl⟩) ?_
                        obtain ⟨y, hye⟩ : ∃ y, blN (29 * xv) 10000 = y := ⟨_, rfl⟩
                        have hy : y < 10000 := hye ▸ blN_lt (by omega)
                        refine z_toi (y := nI y) (congrArg nI hye) ?_
                        refine lv_istore (lv' := [(6, .int (nI y)), (5, .int xv), (4, .int (nI k)), (3, .int (nI (1 + n1))), (2, .ref o), (0, .ref b), (1, .ref b0)]) hx hb dL_build_280 hl (by decide) rfl (fun ls hl => ?_)
                        refine lv_aload_n hx hb dL_build_282 rfl (lv_at hl 4 rfl) ?_
                        refine va_get (D := D) (ci := 6) (v := .ref ar) (C := RX6) (T := TX6) (N := 3) hx hb hts hinX6 hown hK hO 0 rfl rfl 0 (by decide) (hts _ (List.mem_of_getElem? (i := 4) rfl)) (fun _ h9 => h9) rfl dL_build_283 ?_
                        refine lv_iload hx hb dL_build_286 (lv_at hl 2 rfl) ?_
                        refine z_aald (a := ar) (n := (1 + n1)) (f := (zbf (1 + n1) B)) (j := k) hx hb hK hQ 0 1 rfl rfl rfl rfl (by omega) (by omega) (zbf_in (by omega)) dL_build_288 ?_
                        obtain ⟨hBdm30, hEam30⟩ := hF k (by omega)
                        obtain ⟨⟨sb1m30, sb2m30⟩, ⟨se1m30, se2m30⟩, sam30⟩ := hsp.2.1 k (by omega)
                        refine lv_iload hx hb dL_build_289 (lv_at hl 0 rfl) ?_
                        refine lv_iload hx hb dL_build_291 (lv_at hl 1 rfl) ?_
                        refine lv_iconst (v := 4) hx hb dL_build_293 (by decide) ?_
                        refine lv_ishr hx hb dL_build_294 ?_
                        refine lv_bipush (v := 10) hx hb dL_build_295 (by decide) ?_
                        refine z_ki (va_runS (As := [.int (xv >>> (4 &&& 31)), .int 10]) (rest := [.int (nI y), .ref (B k)]) hfix (zcL_below l D cI H28 (xv >>> (4 &&& 31)) 10 (by omega) (by omega)) (va_cwS 2 hts gL_build_L_below rfl rfl rfl (by decide +kernel) ⟨Nat.le_of_ble_eq_true rfl, Nat.le_of_ble_eq_true rfl⟩) (z_preS hK1) rfl rfl hl.1 rfl (lv_room (Nat.le_of_ble_eq_true rfl)) dL_build_297 ⟨Nat.le_of_ble_eq_true rfl, Nat.le_of_ble_eq_true rfl⟩) ?_
                        obtain ⟨z, hze⟩ : ∃ z, blN (xv >>> (4 &&& 31)) 10 = z := ⟨_, rfl⟩
                        have hz : z < 10 := hze ▸ blN_lt (by omega)
                        refine z_toi (y := nI z) (congrArg nI hze) ?_
                        refine z_mv (va_runV (As := [.int (nI y), .int (nI z)]) (rest := []) hfix (zcX5_say l D cI H28 (B k) (E k) (zcb g 0 k) (zcb g 2 k) (zcb g 4 k) (g 6 k) (me k) (lo k) (nI y) (nI z) hBdm30) (cwV 2 hts gL_build_X5_say rfl rfl rfl (by decide +kernel) ⟨Nat.le_of_ble_eq_true rfl, Nat.le_of_ble_eq_true rfl⟩) (z_preV hK hK1 hBdm30 (ci := 5) (q0 := 0) rfl rfl rfl) rfl rfl hl.1 rfl (lv_room (Nat.le_of_ble_eq_true rfl)) dL_build_300 ⟨Nat.le_of_ble_eq_true rfl, Nat.le_of_ble_eq_true rfl⟩) hS (fun q _ h => by simp only [zF] at h; show b ≤ q; omega) (fun q h => by simp only [zF] at h; show b ≤ q; omega) (fun H31 lo32 hB hz1 hk1 hS => ?_)
                        have hz : H.size ≤ H31.size := by have h9 := hB.2; omega
                        have hsz : H31.size = t + 0 := hB.2.trans hsz
                        have hF33 : zFm D cI (1 + n1) B E me lo c e (wh g k (nI y) (nI z)) H31 := zFm_set hsp hF (p := k) (by omega) (zBw_wh hB.1) (fun q h1 h2 => hk1 q h1 h2) (fun j hj _ => ⟨fun k _ => wh_row _ hj, rfl, rfl⟩)
                        have hO34 := zOb_kept hO (fun q h1 h2 h3 => hk1 q h1 (by simp only [zF]; omega))
                        have hQ35 := zQr_kept hQ (fun q h1 h2 h3 => hk1 q h1 (by simp only [zF]; omega))
                        have hC36 := zCW_kept hC (fun q h1 h2 h3 => hk1 q h1 (by simp only [zF]; omega))
                        refine lv_aload_n hx hb dL_build_303 rfl (lv_at hl 5 rfl) ?_
                        refine lv_iload hx hb dL_build_304 (lv_at hl 2 rfl) ?_
                        refine lv_iload hx hb dL_build_306 (lv_at hl 0 rfl) ?_
                        refine lv_iload hx hb dL_build_308 (lv_at hl 1 rfl) ?_
                        refine lv_iconst (v := 4) hx hb dL_build_310 (by decide) ?_
                        refine lv_ishr hx hb dL_build_311 ?_
                        refine lv_bipush (v := 10) hx hb dL_build_312 (by decide) ?_
                        refine z_ki (va_runS (As := [.int (xv >>> (4 &&& 31)), .int 10]) (rest := [.int (nI y), .int (nI k), .ref b]) hfix (zcL_below l D cI H31 (xv >>> (4 &&& 31)) 10 (by omega) (by omega)) (va_cwS 2 hts gL_build_L_below rfl rfl rfl (by decide +kernel) ⟨Nat.le_of_ble_eq_true rfl, Nat.le_of_ble_eq_true rfl⟩) (z_preS hK1) rfl rfl hl.1 rfl (lv_room (Nat.le_of_ble_eq_true rfl)) dL_build_314 ⟨Nat.le_of_ble_eq_true rfl, Nat.le_of_ble_eq_true rfl⟩) ?_
                        refine z_toi (y := nI z) (congrArg nI hze) ?_
                        refine z_mi (va_runV (As := [.int (nI k), .int (nI y), .int (nI z)]) (rest := []) hfix (zcX4_whisper_k l D cI H31 b (1 + n1) me lo c e rd tk g k y z hC36 hI (by omega) (by omega) (by omega)) (cwV 3 hts gL_build_X4_whisper rfl rfl rfl (by decide +kernel) ⟨Nat.le_of_ble_eq_true rfl, Nat.le_of_ble_eq_true rfl⟩) (z_preV hK hK1 hC36.1 (ci := 4) (q0 := 0) rfl rfl rfl) rfl rfl hl.1 rfl (lv_room (Nat.le_of_ble_eq_true rfl)) dL_build_317 ⟨Nat.le_of_ble_eq_true rfl, Nat.le_of_ble_eq_true rfl⟩) hS (fun q _ h => by simp only [zF] at h; show b ≤ q; omega) (fun q h => by simp only [zF] at h; show b ≤ q; omega) (fun H37 lo38 hB hz1 hk1 hS => ?_)
                        have hz : H.size ≤ H37.size := by have h9 := hB.2; omega
                        have hsz : H37.size = t + 0 := hB.2.trans hsz
                        have hF39 := zFm_kept hsp hF33 (fun q h1 h2 h3 => hk1 q h1 (by simp only [zF]; omega))
                        have hO40 := zOb_kept hO34 (fun q h1 h2 h3 => hk1 q h1 (by simp only [zF]; omega))
                        have hQ41 := zQr_kept hQ35 (fun q h1 h2 h3 => hk1 q h1 (by simp only [zF]; omega))
                        have hC42 : zCW D cI b (1 + n1) me lo c e rd tk (wh g k (nI y) (nI z)) H37 := hB.1
                        refine lv_if_eq (tgt := 325) hx hb dL_build_320 (by decide) (fun c320 => ?_) (fun c320 => ?_)
                        · refine lv_iinc (v := (nI (k + 1))) (lv' := [(4, .int (nI (k + 1))), (6, .int (nI y)), (5, .int xv), (3, .int (nI (1 + n1))), (2, .ref o), (0, .ref b), (1, .ref b0)]) hx hb dL_build_325 hl (k := 2) rfl (nI_1 _) (by decide) rfl (fun ls hl => ?_)
                          refine lv_goto (tgt := 225) hx hb dL_build_328 (by decide) ?_
                          exact ih225 (k + 1) (by omega) (by omega) _ (rfl) _ _ (⟨ar, B, E, me, lo, c, e, rd, tk, wh g k (nI y) (nI z), by rw [hsz]; exact ⟨hO40, hQ41, hF39, hsp⟩, hC42, hI, zJ_wh hZ (by omega) (by omega), zV_wh hV, hN, zw_wh hW⟩) hz hS _ (lv_sub hl [0, 3, 4, 5, 6] rfl)
                        · exact absurd (zw_0 hW (by omega)) c320
                      · have c263 := z_eq (a := w3) (b := 0) c263 (by omega) (by omega)
                        refine lv_goto (tgt := 325) hx hb dL_build_266 (by decide) ?_
                        refine lv_iinc (v := (nI (k + 1))) (lv' := [(4, .int (nI (k + 1))), (5, .int xv), (3, .int (nI (1 + n1))), (2, .ref o), (0, .ref b), (1, .ref b0)]) hx hb dL_build_325 hl (k := 1) rfl (nI_1 _) (by decide) rfl (fun ls hl => ?_)
                        refine lv_goto (tgt := 225) hx hb dL_build_328 (by decide) ?_
                        exact ih225 (k + 1) (by omega) (by omega) _ (rfl) _ _ (⟨ar, B, E, me, lo, c, e, rd, tk, g, by rw [hsz]; exact ⟨hO, hQ, hF, hsp⟩, hC, hI, hZ, hV, hN, zw_next hW⟩) hz hS _ (lv_sub hl [0, 2, 3, 4, 5] rfl)
                refine W.widen (k := 90) (n := 410) (by omega) (by omega) ?_
                exact loop225 _ 0 (Nat.lt_succ_self _) (by omega) _ (rfl) _ _ (hh97_0) hz hS _ (lv_sub hl [0, 1, 2, 3, 4] rfl)
              · have c107 := z_nle (a := 1 + n1) (b := 1) c107 (by omega) (by omega)
                refine lv_aload_n hx hb dL_build_110 rfl (lv_at hl 4 rfl) ?_
                refine lv_iconst (v := 3) hx hb dL_build_111 (by decide) ?_
                refine lv_iload hx hb dL_build_112 (lv_at hl 0 rfl) ?_
                refine lv_iconst (v := 5) hx hb dL_build_114 (by decide) ?_
                refine lv_irem hx hb dL_build_115 (by decide) ?_
                refine z_toi (y := zrem (nI k) 5) rfl ?_
                refine z_toi (y := nI (k % 5)) (pk_rem (d := 5) (by omega) (by decide) (by decide)) ?_
                refine lv_iadd hx hb dL_build_116 ?_
                refine z_toi (y := nI (3 + (k % 5))) (nI_add 3 (k % 5)) ?_
                refine z_ki (va_runS (As := [.ref b0, .int (nI (3 + (k % 5)))]) (rest := []) hfix (zcL_cell l D cI cR H11 b0 L xs (3 + (k % 5)) hL (by omega)) (va_cwS 2 hts gL_build_L_cell rfl rfl rfl (by decide +kernel) ⟨Nat.le_of_ble_eq_true rfl, Nat.le_of_ble_eq_true rfl⟩) (z_spreS hX hb0 (by show ¬ b ≤ b0; omega) hS hKw hK) rfl rfl hl.1 rfl (lv_room (Nat.le_of_ble_eq_true rfl)) dL_build_117 ⟨by show 68 + k + 0 ≤ 90; omega, by show 300 + 5 * k + 0 ≤ 410; omega⟩) ?_
                refine lv_iload hx hb dL_build_120 (lv_at hl 0 rfl) ?_
                refine lv_iconst (v := 5) hx hb dL_build_122 (by decide) ?_
                refine lv_idiv hx hb dL_build_123 (by decide) ?_
                refine z_toi (y := nI (k / 5)) (pk_div (d := 5) (by omega) (by decide) (by decide)) ?_
                refine lv_iconst (v := 4) hx hb dL_build_124 (by decide) ?_
                refine lv_imul hx hb dL_build_125 ?_
                refine z_toi (y := nI ((k / 5) * 4)) (pk_mul (k / 5) 4) ?_
                refine lv_ishr hx hb dL_build_126 ?_
                refine lv_bipush (v := 23) hx hb dL_build_127 (by decide) ?_
                refine lv_iload hx hb dL_build_129 (lv_at hl 0 rfl) ?_
                refine lv_imul hx hb dL_build_131 ?_
                refine z_toi (y := nI (k * 23)) ((pk_mul 23 k).trans (congrArg nI (Nat.mul_comm _ _))) ?_
                refine lv_iadd hx hb dL_build_132 ?_
                refine lv_istore (lv' := [(5, .int (((zce L xs (3 + (k % 5))) >>> ((nI ((k / 5) * 4)) &&& 31)) + (nI (k * 23)))), (4, .int (nI k)), (3, .int (nI (1 + n1))), (2, .ref o), (0, .ref b), (1, .ref b0)]) hx hb dL_build_133 hl (by decide) rfl (fun ls hl => ?_)
                obtain ⟨xv, hxv⟩ : ∃ xv, (((zce L xs (3 + (k % 5))) >>> ((nI ((k / 5) * 4)) &&& 31)) + (nI (k * 23))) = xv := ⟨_, rfl⟩
                have hl : lv_has ls 8 [(5, .int xv), (4, .int (nI k)), (3, .int (nI (1 + n1))), (2, .ref o), (0, .ref b), (1, .ref b0)] := by rw [hxv] at hl; exact hl
                refine lv_iload hx hb dL_build_135 (lv_at hl 0 rfl) ?_
                refine lv_iload_n hx hb dL_build_137 rfl (lv_at hl 2 rfl) ?_
                refine z_ki (va_runS (As := [.int xv, .int (nI (1 + n1))]) (rest := []) hfix (zcL_below l D cI H11 xv (1 + n1) (by omega) (by omega)) (va_cwS 2 hts gL_build_L_below rfl rfl rfl (by decide +kernel) ⟨Nat.le_of_ble_eq_true rfl, Nat.le_of_ble_eq_true rfl⟩) (z_preS hK1) rfl rfl hl.1 rfl (lv_room (Nat.le_of_ble_eq_true rfl)) dL_build_138 ⟨by show 68 + k + 0 ≤ 90; omega, by show 300 + 5 * k + 0 ≤ 410; omega⟩) ?_
                obtain ⟨p, hpe⟩ : ∃ p, blN xv (1 + n1) = p := ⟨_, rfl⟩
                have hp : p < 1 + n1 := hpe ▸ blN_lt (by omega)
                refine z_toi (y := nI p) (congrArg nI hpe) ?_
                refine lv_istore (lv' := [(6, .int (nI p)), (5, .int xv), (4, .int (nI k)), (3, .int (nI (1 + n1))), (2, .ref o), (0, .ref b), (1, .ref b0)]) hx hb dL_build_141 hl (by decide) rfl (fun ls hl => ?_)
                refine lv_iload hx hb dL_build_143 (lv_at hl 0 rfl) ?_
                refine lv_iconst (v := 1) hx hb dL_build_145 (by decide) ?_
                refine lv_iadd hx hb dL_build_146 ?_
                refine z_toi (y := nI (p + 1)) (nI_add p 1) ?_
                refine lv_iload hx hb dL_build_147 (lv_at hl 1 rfl) ?_
                refine lv_iconst (v := 3) hx hb dL_build_149 (by decide) ?_
                refine lv_ishr hx hb dL_build_150 ?_
                refine lv_iload_n hx hb dL_build_151 rfl (lv_at hl 3 rfl) ?_
                refine lv_iconst (v := 1) hx hb dL_build_152 (by decide) ?_
                refine lv_isub hx hb dL_build_153 ?_
                refine z_toi (y := nI n1) (by rw [Nat.add_comm 1 n1]; exact nI_pred n1) ?_
                refine z_ki (va_runS (As := [.int (xv >>> (3 &&& 31)), .int (nI n1)]) (rest := [.int (nI (p + 1))]) hfix (zcL_below l D cI H11 (xv >>> (3 &&& 31)) n1 (by omega) (by omega)) (va_cwS 2 hts gL_build_L_below rfl rfl rfl (by decide +kernel) ⟨Nat.le_of_ble_eq_true rfl, Nat.le_of_ble_eq_true rfl⟩) (z_preS hK1) rfl rfl hl.1 rfl (lv_room (Nat.le_of_ble_eq_true rfl)) dL_build_154 ⟨by show 68 + k + 0 ≤ 90; omega, by show 300 + 5 * k + 0 ≤ 410; omega⟩) ?_
                obtain ⟨r, hre⟩ : ∃ r, blN (xv >>> (3 &&& 31)) n1 = r := ⟨_, rfl⟩
                have hr : r < n1 := hre ▸ blN_lt (by omega)
                refine z_toi (y := nI r) (congrArg nI hre) ?_
                refine lv_iadd hx hb dL_build_157 ?_
                refine z_toi (y := nI (p + 1 + r)) (nI_add (p + 1) r) ?_
                refine lv_iload_n hx hb dL_build_158 rfl (lv_at hl 3 rfl) ?_
                refine lv_irem hx hb dL_build_159 (nI_ne0 (by omega) (by omega)) ?_
                refine z_toi (y := zrem (nI (p + 1 + r)) (nI (1 + n1))) rfl ?_
                obtain ⟨q, hqe⟩ : ∃ q, (p + 1 + r) % (1 + n1) = q := ⟨_, rfl⟩
                have hq : q < 1 + n1 := hqe ▸ Nat.mod_lt _ (by omega)
                have hpq : ¬ p = q := hqe ▸ zq_ne hp hr
                refine z_toi (y := nI q) ((pk_rem (by omega) (by omega) (by omega)).trans (congrArg nI hqe)) ?_
                refine lv_istore (lv' := [(7, .int (nI q)), (6, .int (nI p)), (5, .int xv), (4, .int (nI k)), (3, .int (nI (1 + n1))), (2, .ref o), (0, .ref b), (1, .ref b0)]) hx hb dL_build_160 hl (by decide) rfl (fun ls hl => ?_)
                refine lv_aload_n hx hb dL_build_162 rfl (lv_at hl 5 rfl) ?_
                refine va_get (D := D) (ci := 6) (v := .ref ar) (C := RX6) (T := TX6) (N := 3) hx hb hts hinX6 hown hK hO 0 rfl rfl 0 (by decide) (hts _ (List.mem_of_getElem? (i := 4) rfl)) (fun _ h9 => h9) rfl dL_build_163 ?_
                refine lv_iload hx hb dL_build_166 (lv_at hl 1 rfl) ?_
                refine z_aald (a := ar) (n := (1 + n1)) (f := (zbf (1 + n1) B)) (j := p) hx hb hK hQ 0 1 rfl rfl rfl rfl (by omega) (by omega) (zbf_in (by omega)) dL_build_168 ?_
                obtain ⟨hBdm43, hEam43⟩ := hF p (by omega)
                obtain ⟨⟨sb1m43, sb2m43⟩, ⟨se1m43, se2m43⟩, sam43⟩ := hsp.2.1 p (by omega)
                refine lv_iload hx hb dL_build_169 (lv_at hl 0 rfl) ?_
                refine z_ki (va_runV (As := [.int (nI q)]) (rest := []) hfix (zcX5_place l D cI H11 (B p) (E p) (zcb g 0 p) (zcb g 2 p) (zcb g 4 p) (g 6 p) (me p) (lo p) (c p) e p q hBdm43 hEam43 (zI_c hI p) (fun j hj => by have := zI_e hI hj; omega) (by omega)) (cwV 1 hts gL_build_X5_place rfl rfl rfl (by decide +kernel) ⟨Nat.le_of_ble_eq_true rfl, Nat.le_of_ble_eq_true rfl⟩) (z_preV hK hK1 hBdm43 (ci := 5) (q0 := 0) rfl rfl rfl) rfl rfl hl.1 rfl (lv_room (Nat.le_of_ble_eq_true rfl)) dL_build_171 ⟨by show 68 + k + 0 ≤ 90; omega, by show 300 + 5 * k + 0 ≤ 410; omega⟩) ?_
                refine lv_if_ge (tgt := 195) hx hb dL_build_174 (by decide) (fun c174 => ?_) (fun c174 => ?_)
                · obtain ⟨kd, hpo⟩ : ∃ kd, po e p q (c p) = some kd := Option.ne_none_iff_exists'.mp ((zo_nn (fun q9 hq9 => by have := (zd_po_lt hq9).1; have := zI_c hI p; omega)).mp c174)
                  have hkd := (zd_po_lt hpo).1
                  have hc4 := zI_c hI p
                  refine lv_aload_n hx hb dL_build_195 rfl (lv_at hl 6 rfl) ?_
                  refine lv_iload hx hb dL_build_196 (lv_at hl 1 rfl) ?_
                  refine lv_iload hx hb dL_build_198 (lv_at hl 0 rfl) ?_
                  refine z_mi (va_runV (As := [.int (nI p), .int (nI q)]) (rest := []) hfix (zcX4_listen_kd l D cI H11 b (1 + n1) me lo c e rd tk g p q kd hC hI (by omega) (by omega) hpq hpo) (cwV 2 hts gL_build_X4_listen rfl rfl rfl (by decide +kernel) ⟨Nat.le_of_ble_eq_true rfl, Nat.le_of_ble_eq_true rfl⟩) (z_preV hK hK1 hC.1 (ci := 4) (q0 := 0) rfl rfl rfl) rfl rfl hl.1 rfl (lv_room (Nat.le_of_ble_eq_true rfl)) dL_build_200 ⟨by show 68 + k + 0 ≤ 90; omega, by show 300 + 5 * k + 0 ≤ 410; omega⟩) hS (fun q _ h => by simp only [zF] at h; show b ≤ q; omega) (fun q h => by simp only [zF] at h; show b ≤ q; omega) (fun H44 lo45 hB hz1 hk1 hS => ?_)
                  have hz : H.size ≤ H44.size := by have h9 := hB.2; omega
                  have hsz : H44.size = t + 0 := hB.2.trans hsz
                  have hO46 := zOb_kept hO (fun q h1 h2 h3 => hk1 q h1 (by simp only [zF]; omega))
                  have hQ47 := zQr_kept hQ (fun q h1 h2 h3 => hk1 q h1 (by simp only [zF]; omega))
                  have hF48 := zFm_kept hsp hF (fun q h1 h2 h3 => hk1 q h1 (by simp only [zF]; omega))
                  have hC49 : zCW D cI b (1 + n1) me lo (zu c p (c p - 1)) (zdr e p kd (c p - 1)) rd tk g H44 := hB.1
                  have hBdm50 := zBw_kept hBdm43 (fun q h1 h2 h3 => hk1 q h1 (by simp only [zF]; omega))
                  have hEam51 := zAr_kept hEam43 (fun q h1 h2 h3 => hk1 q h1 (by simp only [zF]; omega))
                  refine lv_aload_n hx hb dL_build_203 rfl (lv_at hl 5 rfl) ?_
                  refine lv_iload hx hb dL_build_204 (lv_at hl 1 rfl) ?_
                  refine lv_iload hx hb dL_build_206 (lv_at hl 0 rfl) ?_
                  refine z_mi (va_runV (As := [.int (nI p), .int (nI q)]) (rest := [.int (nI (c p - 1))]) hfix (zcX6_listen_d l D cI cR H44 o t ar (1 + n1) B E me lo c e rd tk g p q kd (⟨hO46, hQ47, hF48, hsp⟩) hI (by omega) (by omega) (by omega) hpo) (cwV 2 hts gL_build_X6_listen rfl rfl rfl (by decide +kernel) ⟨Nat.le_of_ble_eq_true rfl, Nat.le_of_ble_eq_true rfl⟩) (z_kpreV hKw hK hK hO46 (ci := 6) (q0 := 0) rfl rfl rfl) rfl rfl hl.1 rfl (lv_room (Nat.le_of_ble_eq_true rfl)) dL_build_208 ⟨by show 68 + k + 1 ≤ 90; omega, by show 300 + 5 * k + 5 ≤ 410; omega⟩) hS (fun q _ h => by have h8 : o ≤ q := h; show b ≤ q; omega) (fun q h => by have h8 : o ≤ q := h; show b ≤ q; omega) (fun H52 lo53 hB hz1 hk1 hS => ?_)
                  obtain ⟨⟨hOu54, hQu54, hFu54, hspu54⟩, hsu54⟩ := hB
                  obtain ⟨⟨ho1, ho2, ho3⟩, -, -⟩ := id hspu54
                  have hsz : H52.size = t + 1 := hsu54
                  have hz : H.size ≤ H52.size := by omega
                  have hC55 := zCW_kept hC49 (fun q h1 h2 h3 => hk1 q h1 (fun h8 => by have h7 : o ≤ q := h8; omega))
                  refine lv_icmp_eq (tgt := 216) hx hb dL_build_211 (by decide) (fun c211 => ?_) (fun c211 => ?_)
                  · have c211 := z_eq (a := c p - 1) (b := c p - 1) c211 (by omega) (by omega)
                    refine lv_iinc (v := (nI (k + 1))) (lv' := [(4, .int (nI (k + 1))), (7, .int (nI q)), (6, .int (nI p)), (5, .int xv), (3, .int (nI (1 + n1))), (2, .ref o), (0, .ref b), (1, .ref b0)]) hx hb dL_build_216 hl (k := 3) rfl (nI_1 _) (by decide) rfl (fun ls hl => ?_)
                    refine lv_goto (tgt := 97) hx hb dL_build_219 (by decide) ?_
                    refine W.widen (k := 68 + (k + 1)) (n := 300 + 5 * (k + 1)) (by omega) (by omega) ?_
                    exact ih97 (k + 1) (by omega) (by omega) _ (rfl) _ _ (⟨ar, B, zx E p t, me, lo, zu c p (c p - 1), zdr e p kd (c p - 1), rd, tk, g, by rw [hsz]; exact ⟨hOu54, hQu54, hFu54, hspu54⟩, hC55, zI_drop hI hp hkd, hZ, hV, zNs_drop hN hkd (zI_c hI), hW⟩) hz hS _ (lv_sub hl [0, 4, 5, 6, 7] rfl)
                  · have c211 := z_ne (a := c p - 1) (b := c p - 1) c211 (by omega) (by omega)
                    exact absurd rfl c211
                · have hpo : po e p q (c p) = none := Classical.byContradiction fun h9 => c174 ((zo_nn (fun q9 hq9 => by have := (zd_po_lt hq9).1; have := zI_c hI p; omega)).mpr h9)
                  have hc4 := zI_c hI p
                  refine lv_aload_n hx hb dL_build_177 rfl (lv_at hl 5 rfl) ?_
                  refine va_get (D := D) (ci := 6) (v := .ref ar) (C := RX6) (T := TX6) (N := 3) hx hb hts hinX6 hown hK hO 0 rfl rfl 0 (by decide) (hts _ (List.mem_of_getElem? (i := 4) rfl)) (fun _ h9 => h9) rfl dL_build_178 ?_
                  refine lv_iload hx hb dL_build_181 (lv_at hl 1 rfl) ?_
                  refine z_aald (a := ar) (n := (1 + n1)) (f := (zbf (1 + n1) B)) (j := p) hx hb hK hQ 0 1 rfl rfl rfl rfl (by omega) (by omega) (zbf_in (by omega)) dL_build_183 ?_
                  refine va_get (D := D) (ci := 5) (v := .ref (E p)) (C := RX5) (T := TX5) (N := 7) hx hb hts hinX5 hown hK hBdm43 0 rfl rfl 6 (by decide) (hts _ (List.mem_of_getElem? (i := 5) rfl)) (fun _ h9 => h9) rfl dL_build_184 ?_
                  refine z_alen (n := (c p)) (f := (zer e p)) hx hb hK hEam43 0 0 rfl rfl dL_build_187 ?_
                  refine lv_iconst (v := 4) hx hb dL_build_188 (by decide) ?_
                  refine lv_icmp_ne (tgt := 195) hx hb dL_build_189 (by decide) (fun c189 => ?_) (fun c189 => ?_)
                  · have c189 := z_ne (a := (c p)) (b := 4) c189 (by omega) (by omega)
                    refine lv_aload_n hx hb dL_build_195 rfl (lv_at hl 6 rfl) ?_
                    refine lv_iload hx hb dL_build_196 (lv_at hl 1 rfl) ?_
                    refine lv_iload hx hb dL_build_198 (lv_at hl 0 rfl) ?_
                    refine z_mi (va_runV (As := [.int (nI p), .int (nI q)]) (rest := []) hfix (zcX4_listen_ka l D cI H11 b (1 + n1) me lo c e rd tk g p q hC hI (by omega) (by omega) hpq hpo (by omega)) (cwV 2 hts gL_build_X4_listen rfl rfl rfl (by decide +kernel) ⟨Nat.le_of_ble_eq_true rfl, Nat.le_of_ble_eq_true rfl⟩) (z_preV hK hK1 hC.1 (ci := 4) (q0 := 0) rfl rfl rfl) rfl rfl hl.1 rfl (lv_room (Nat.le_of_ble_eq_true rfl)) dL_build_200 ⟨by show 68 + k + 0 ≤ 90; omega, by show 300 + 5 * k + 0 ≤ 410; omega⟩) hS (fun q _ h => by simp only [zF] at h; show b ≤ q; omega) (fun q h => by simp only [zF] at h; show b ≤ q; omega) (fun H56 lo57 hB hz1 hk1 hS => ?_)
                    have hz : H.size ≤ H56.size := by have h9 := hB.2; omega
                    have hsz : H56.size = t + 0 := hB.2.trans hsz
                    have hO58 := zOb_kept hO (fun q h1 h2 h3 => hk1 q h1 (by simp only [zF]; omega))
                    have hQ59 := zQr_kept hQ (fun q h1 h2 h3 => hk1 q h1 (by simp only [zF]; omega))
                    have hF60 := zFm_kept hsp hF (fun q h1 h2 h3 => hk1 q h1 (by simp only [zF]; omega))
                    have hC61 : zCW D cI b (1 + n1) me lo (zu c p (c p + 1)) (zu e (p * 4 + c p) q) rd tk g H56 := hB.1
                    have hBdm62 := zBw_kept hBdm43 (fun q h1 h2 h3 => hk1 q h1 (by simp only [zF]; omega))
                    have hEam63 := zAr_kept hEam43 (fun q h1 h2 h3 => hk1 q h1 (by simp only [zF]; omega))
                    refine lv_aload_n hx hb dL_build_203 rfl (lv_at hl 5 rfl) ?_
                    refine lv_iload hx hb dL_build_204 (lv_at hl 1 rfl) ?_
                    refine lv_iload hx hb dL_build_206 (lv_at hl 0 rfl) ?_
                    refine z_mi (va_runV (As := [.int (nI p), .int (nI q)]) (rest := [.int (nI (c p + 1))]) hfix (zcX6_listen_a l D cI cR H56 o t ar (1 + n1) B E me lo c e rd tk g p q (⟨hO58, hQ59, hF60, hsp⟩) hI (by omega) (by omega) (by omega) hpo (by omega)) (cwV 2 hts gL_build_X6_listen rfl rfl rfl (by decide +kernel) ⟨Nat.le_of_ble_eq_true rfl, Nat.le_of_ble_eq_true rfl⟩) (z_kpreV hKw hK hK hO58 (ci := 6) (q0 := 0) rfl rfl rfl) rfl rfl hl.1 rfl (lv_room (Nat.le_of_ble_eq_true rfl)) dL_build_208 ⟨by show 68 + k + 1 ≤ 90; omega, by show 300 + 5 * k + 5 ≤ 410; omega⟩) hS (fun q _ h => by have h8 : o ≤ q := h; show b ≤ q; omega) (fun q h => by have h8 : o ≤ q := h; show b ≤ q; omega) (fun H64 lo65 hB hz1 hk1 hS => ?_)
                    obtain ⟨⟨hOu66, hQu66, hFu66, hspu66⟩, hsu66⟩ := hB
                    obtain ⟨⟨ho1, ho2, ho3⟩, -, -⟩ := id hspu66
                    have hsz : H64.size = t + 1 := hsu66
                    have hz : H.size ≤ H64.size := by omega
                    have hC67 := zCW_kept hC61 (fun q h1 h2 h3 => hk1 q h1 (fun h8 => by have h7 : o ≤ q := h8; omega))
                    refine lv_icmp_eq (tgt := 216) hx hb dL_build_211 (by decide) (fun c211 => ?_) (fun c211 => ?_)
                    · have c211 := z_eq (a := c p + 1) (b := c p + 1) c211 (by omega) (by omega)
                      refine lv_iinc (v := (nI (k + 1))) (lv' := [(4, .int (nI (k + 1))), (7, .int (nI q)), (6, .int (nI p)), (5, .int xv), (3, .int (nI (1 + n1))), (2, .ref o), (0, .ref b), (1, .ref b0)]) hx hb dL_build_216 hl (k := 3) rfl (nI_1 _) (by decide) rfl (fun ls hl => ?_)
                      refine lv_goto (tgt := 97) hx hb dL_build_219 (by decide) ?_
                      refine W.widen (k := 68 + (k + 1)) (n := 300 + 5 * (k + 1)) (by omega) (by omega) ?_
                      exact ih97 (k + 1) (by omega) (by omega) _ (rfl) _ _ (⟨ar, B, zx E p t, me, lo, zu c p (c p + 1), zu e (p * 4 + c p) q, rd, tk, g, by rw [hsz]; exact ⟨hOu66, hQu66, hFu66, hspu66⟩, hC67, zI_add hI hp hq (by omega), hZ, hV, zNs_add hN hpq (by omega) (zI_c hI), hW⟩) hz hS _ (lv_sub hl [0, 4, 5, 6, 7] rfl)
                    · have c211 := z_ne (a := c p + 1) (b := c p + 1) c211 (by omega) (by omega)
                      exact absurd rfl c211
                  · have c189 := z_eq (a := (c p)) (b := 4) c189 (by omega) (by omega)
                    refine lv_goto (tgt := 216) hx hb dL_build_192 (by decide) ?_
                    refine lv_iinc (v := (nI (k + 1))) (lv' := [(4, .int (nI (k + 1))), (7, .int (nI q)), (6, .int (nI p)), (5, .int xv), (3, .int (nI (1 + n1))), (2, .ref o), (0, .ref b), (1, .ref b0)]) hx hb dL_build_216 hl (k := 3) rfl (nI_1 _) (by decide) rfl (fun ls hl => ?_)
                    refine lv_goto (tgt := 97) hx hb dL_build_219 (by decide) ?_
                    refine W.widen (k := 68 + (k + 1)) (n := 300 + 5 * (k + 1)) (by omega) (by omega) ?_
                    exact ih97 (k + 1) (by omega) (by omega) _ (rfl) _ _ (⟨ar, B, E, me, lo, c, e, rd, tk, g, by rw [hsz]; exact ⟨hO, hQ, hF, hsp⟩, hC, hI, hZ, hV, hN, hW⟩) hz hS _ (lv_sub hl [0, 4, 5, 6, 7] rfl)
        refine W.widen (k := 68 + 0) (n := 300 + 5 * 0) (by omega) (by omega) ?_
        exact loop97 _ 0 (Nat.lt_succ_self _) (by omega) _ (rfl) _ _ (by rw [show k = 1 + n1 by omega] at hh24_0; exact hh24_0) hz hS _ (lv_sub hl [0, 1, 2, 3, 4] rfl)
      · have c27 := z_nle (a := 1 + n1) (b := k) c27 (by omega) (by omega)
        refine lv_iconst (v := 1) hx hb dL_build_30 (by decide) ?_
        refine lv_aload_n hx hb dL_build_31 rfl (lv_at hl 4 rfl) ?_
        refine lv_iconst (v := 1) hx hb dL_build_32 (by decide) ?_
        refine z_ki (va_runS (As := [.ref b0, .int 1]) (rest := [.int 1]) hfix (zcL_cell l D cI cR H9 b0 L xs 1 hL (by omega)) (va_cwS 2 hts gL_build_L_cell rfl rfl rfl (by decide +kernel) ⟨Nat.le_of_ble_eq_true rfl, Nat.le_of_ble_eq_true rfl⟩) (z_spreS hX hb0 (by show ¬ b ≤ b0; omega) hS hKw hK) rfl rfl hl.1 rfl (lv_room (Nat.le_of_ble_eq_true rfl)) dL_build_33 ⟨by show 2 + 6 * k + 0 ≤ 90; omega, by show 3 + 26 * k + 0 ≤ 410; omega⟩) ?_
        refine lv_iload hx hb dL_build_36 (lv_at hl 0 rfl) ?_
        refine lv_ishr hx hb dL_build_38 ?_
        refine lv_bipush (v := 9) hx hb dL_build_39 (by decide) ?_
        refine z_ki (va_runS (As := [.int ((zce L xs 1) >>> ((nI k) &&& 31)), .int 9]) (rest := [.int 1]) hfix (zcL_below l D cI H9 ((zce L xs 1) >>> ((nI k) &&& 31)) 9 (by omega) (by omega)) (va_cwS 2 hts gL_build_L_below rfl rfl rfl (by decide +kernel) ⟨Nat.le_of_ble_eq_true rfl, Nat.le_of_ble_eq_true rfl⟩) (z_preS hK1) rfl rfl hl.1 rfl (lv_room (Nat.le_of_ble_eq_true rfl)) dL_build_41 ⟨by show 2 + 6 * k + 0 ≤ 90; omega, by show 3 + 26 * k + 0 ≤ 410; omega⟩) ?_
        obtain ⟨a9, ha9e⟩ : ∃ a9, blN ((zce L xs 1) >>> ((nI k) &&& 31)) 9 = a9 := ⟨_, rfl⟩
        have ha9 : a9 < 9 := ha9e ▸ blN_lt (by omega)
        refine z_toi (y := nI a9) (congrArg nI ha9e) ?_
        refine lv_iadd hx hb dL_build_44 ?_
        refine z_toi (y := nI (1 + a9)) (nI_add 1 a9) ?_
        refine lv_istore (lv' := [(5, .int (nI (1 + a9))), (4, .int (nI k)), (3, .int (nI (1 + n1))), (2, .ref o), (0, .ref b), (1, .ref b0)]) hx hb dL_build_45 hl (by decide) rfl (fun ls hl => ?_)
        refine lv_iconst (v := 1) hx hb dL_build_47 (by decide) ?_
        refine lv_aload_n hx hb dL_build_48 rfl (lv_at hl 5 rfl) ?_
        refine lv_iconst (v := 2) hx hb dL_build_49 (by decide) ?_
        refine z_ki (va_runS (As := [.ref b0, .int 2]) (rest := [.int 1]) hfix (zcL_cell l D cI cR H9 b0 L xs 2 hL (by omega)) (va_cwS 2 hts gL_build_L_cell rfl rfl rfl (by decide +kernel) ⟨Nat.le_of_ble_eq_true rfl, Nat.le_of_ble_eq_true rfl⟩) (z_spreS hX hb0 (by show ¬ b ≤ b0; omega) hS hKw hK) rfl rfl hl.1 rfl (lv_room (Nat.le_of_ble_eq_true rfl)) dL_build_50 ⟨by show 2 + 6 * k + 0 ≤ 90; omega, by show 3 + 26 * k + 0 ≤ 410; omega⟩) ?_
        refine lv_iconst (v := 2) hx hb dL_build_53 (by decide) ?_
        refine lv_iload hx hb dL_build_54 (lv_at hl 1 rfl) ?_
        refine lv_imul hx hb dL_build_56 ?_
        refine z_toi (y := nI (k * 2)) ((pk_mul 2 k).trans (congrArg nI (Nat.mul_comm _ _))) ?_
        refine lv_ishr hx hb dL_build_57 ?_
        refine lv_iconst (v := 5) hx hb dL_build_58 (by decide) ?_
        refine z_ki (va_runS (As := [.int ((zce L xs 2) >>> ((nI (k * 2)) &&& 31)), .int 5]) (rest := [.int 1]) hfix (zcL_below l D cI H9 ((zce L xs 2) >>> ((nI (k * 2)) &&& 31)) 5 (by omega) (by omega)) (va_cwS 2 hts gL_build_L_below rfl rfl rfl (by decide +kernel) ⟨Nat.le_of_ble_eq_true rfl, Nat.le_of_ble_eq_true rfl⟩) (z_preS hK1) rfl rfl hl.1 rfl (lv_room (Nat.le_of_ble_eq_true rfl)) dL_build_59 ⟨by show 2 + 6 * k + 0 ≤ 90; omega, by show 3 + 26 * k + 0 ≤ 410; omega⟩) ?_
        obtain ⟨b5, hb5e⟩ : ∃ b5, blN ((zce L xs 2) >>> ((nI (k * 2)) &&& 31)) 5 = b5 := ⟨_, rfl⟩
        have hb5 : b5 < 5 := hb5e ▸ blN_lt (by omega)
        refine z_toi (y := nI b5) (congrArg nI hb5e) ?_
        refine lv_iadd hx hb dL_build_62 ?_
        refine z_toi (y := nI (1 + b5)) (nI_add 1 b5) ?_
        refine lv_istore (lv' := [(6, .int (nI (1 + b5))), (5, .int (nI (1 + a9))), (4, .int (nI k)), (3, .int (nI (1 + n1))), (2, .ref o), (0, .ref b), (1, .ref b0)]) hx hb dL_build_63 hl (by decide) rfl (fun ls hl => ?_)
        refine lv_aload_n hx hb dL_build_65 rfl (lv_at hl 5 rfl) ?_
        refine lv_iload hx hb dL_build_66 (lv_at hl 1 rfl) ?_
        refine lv_iload hx hb dL_build_68 (lv_at hl 0 rfl) ?_
        refine z_mi (va_runV (As := [.int (nI (1 + a9)), .int (nI (1 + b5))]) (rest := []) hfix (zcX4_come_k l D cI H9 b k me lo c e rd tk g (1 + a9) (1 + b5) hC hI (by omega) (by omega) (by omega) (by omega) (by omega)) (cwV 2 hts gL_build_X4_come rfl rfl rfl (by decide +kernel) ⟨Nat.le_of_ble_eq_true rfl, Nat.le_of_ble_eq_true rfl⟩) (z_preV hK hK1 hC.1 (ci := 4) (q0 := 0) rfl rfl rfl) rfl rfl hl.1 rfl (lv_room (Nat.le_of_ble_eq_true rfl)) dL_build_70 ⟨by show 2 + 6 * k + 0 ≤ 90; omega, by show 3 + 26 * k + 0 ≤ 410; omega⟩) hS (fun q _ h => by simp only [zF] at h; show b ≤ q; omega) (fun q h => by simp only [zF] at h; show b ≤ q; omega) (fun H68 lo69 hB hz1 hk1 hS => ?_)
        have hz : H.size ≤ H68.size := by have h9 := hB.2; omega
        have hsz : H68.size = t + 0 := hB.2.trans hsz
        have hO70 := zOb_kept hO (fun q h1 h2 h3 => hk1 q h1 (by simp only [zF]; omega))
        have hQ71 := zQr_kept hQ (fun q h1 h2 h3 => hk1 q h1 (by simp only [zF]; omega))
        have hF72 := zFm_kept hsp hF (fun q h1 h2 h3 => hk1 q h1 (by simp only [zF]; omega))
        have hC73 : zCW D cI b (k + 1) (upd me k (nI (1 + a9))) (upd lo k (nI (1 + b5))) c e rd tk (wh g k 0 0) H68 := hB.1
        refine lv_iload hx hb dL_build_73 (lv_at hl 2 rfl) ?_
        refine lv_icmp_eq (tgt := 80) hx hb dL_build_75 (by decide) (fun c75 => ?_) (fun c75 => ?_)
        · have c75 := z_eq (a := k) (b := k) c75 (by omega) (by omega)
          refine lv_aload_n hx hb dL_build_80 rfl (lv_at hl 4 rfl) ?_
          refine lv_iload hx hb dL_build_81 (lv_at hl 1 rfl) ?_
          refine lv_iload hx hb dL_build_83 (lv_at hl 0 rfl) ?_
          refine z_mv (va_runV (As := [.int (nI (1 + a9)), .int (nI (1 + b5))]) (rest := []) hfix (zcX6_come l D cI cR H68 o t ar k B E me lo c e rd tk g (1 + a9) (1 + b5) (⟨hO70, hQ71, hF72, hsp⟩) hI (by omega) (by omega)) (cwV 2 hts gL_build_X6_come rfl rfl rfl (by decide +kernel) ⟨Nat.le_of_ble_eq_true rfl, Nat.le_of_ble_eq_true rfl⟩) (z_kpreV hKw hK hK hO70 (ci := 6) (q0 := 0) rfl rfl rfl) rfl rfl hl.1 rfl (lv_room (Nat.le_of_ble_eq_true rfl)) dL_build_85 ⟨by show 2 + 6 * k + 6 ≤ 90; omega, by show 3 + 26 * k + 26 ≤ 410; omega⟩) hS (fun q _ h => by have h8 : o ≤ q := h; show b ≤ q; omega) (fun q h => by have h8 : o ≤ q := h; show b ≤ q; omega) (fun H74 lo75 hB hz1 hk1 hS => ?_)
          obtain ⟨⟨hOu76, hQu76, hFu76, hspu76⟩, hsu76⟩ := hB
          obtain ⟨⟨ho1, ho2, ho3⟩, -, -⟩ := id hspu76
          have hsz : H74.size = t + 6 := hsu76
          have hz : H.size ≤ H74.size := by omega
          have hC77 := zCW_kept hC73 (fun q h1 h2 h3 => hk1 q h1 (fun h8 => by have h7 : o ≤ q := h8; omega))
          refine lv_iinc (v := (nI (k + 1))) (lv' := [(4, .int (nI (k + 1))), (6, .int (nI (1 + b5))), (5, .int (nI (1 + a9))), (3, .int (nI (1 + n1))), (2, .ref o), (0, .ref b), (1, .ref b0)]) hx hb dL_build_88 hl (k := 2) rfl (nI_1 _) (by decide) rfl (fun ls hl => ?_)
          refine lv_goto (tgt := 24) hx hb dL_build_91 (by decide) ?_
          refine W.widen (k := 2 + 6 * (k + 1)) (n := 3 + 26 * (k + 1)) (by omega) (by omega) ?_
          exact ih (k + 1) (by omega) (by omega) _ (rfl) _ _ (⟨t, zx B k (t + 1), zx E k (t + 5), upd me k (nI (1 + a9)), upd lo k (nI (1 + b5)), c, e, rd, tk, wh g k 0 0, by rw [hsz]; exact ⟨hOu76, hQu76, hFu76, hspu76⟩, hC77, zI_come hI (by omega) (by omega) (by omega) (by omega) (by omega), zJ_come hZ, zV_come hV, hN, zw_come hW⟩) hz hS _ (lv_sub hl [0, 3, 4, 5, 6] rfl)
        · have c75 := z_ne (a := k) (b := k) c75 (by omega) (by omega)
          exact absurd rfl c75
  refine W.widen (k := 2 + 6 * 0) (n := 3 + 26 * 0) (by omega) (by omega) ?_
  exact loop24 _ 0 (Nat.lt_succ_self _) (by omega) _ (rfl) _ _ (zLw_0 hOs7 hQs8 hC6 hsz) hz hS _ (lv_sub hl [0, 1, 2, 3, 4] rfl)
