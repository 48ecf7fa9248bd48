set_option maxHeartbeats 4000000 in
set_option maxRecDepth 100000 in
/-- below -/
theorem zcL_below (l : Launch) (D : va_G) (cI : ClassId) (H : Heap) (v : Int32) (N : Nat) (h0 : 0 < N) (h1 : N < 100000) : Met l yL_below wsL_below ({ frames := 0, cells := 0, slots := 0, locals := 0 } : Room) (zPc D [(cI, .int)] H [.int v, .int (nI N)]) (zQ (some (.int (nI (blN v N)))) H) 0 0 (fun _ => False) := by
  refine z_enter (cc := cL_below) (maxL := 2) (ret := (some .int)) (by decide) rfl (Nat.le_of_ble_eq_true rfl) ?_
  intro pg ev s m args below meth cd hfix hr hlocks hname hK hHs ls hl
  obtain ⟨hx, hb, hml, hown, hts⟩ := id hfix
  have hl : lv_has ls 2 [(0, .int v), (1, .int (nI N))] := hl
  refine lv_iload_n hx hb dL_below_0 rfl (lv_at hl 0 rfl) ?_
  refine lv_ldc (v := 2147483647) hx hb hown (hts _ (List.mem_of_getElem? (i := 1) rfl)) dL_below_1 ?_
  refine lv_iand hx hb dL_below_3 ?_
  refine lv_iload_n hx hb dL_below_4 rfl (lv_at hl 1 rfl) ?_
  refine lv_irem hx hb dL_below_5 (nI_ne0 h0 (by omega)) ?_
  refine z_toi (y := zrem (v &&& 2147483647) (nI N)) rfl ?_
  refine z_toi (y := (nI (blN v N))) (blN_eq h0 h1) ?_
  exact z_iret hx hb hr hlocks dL_below_6
set_option maxHeartbeats 4000000 in
set_option maxRecDepth 100000 in
/-- act -/
theorem zcL_act (l : Launch) (D : va_G) (cI : ClassId) (cR : ClassId) (H : Heap) (o : Nat) (t : Nat) (ar : Nat) (n : Nat) (B : Nat → Nat) (E : Nat → Nat) (me : Nat → Int32) (lo : Nat → Int32) (c : Nat → Nat) (e : Nat → Nat) (rd : Int32) (tk : Int32) (g : zG) (b : Nat) (x : Int32) (hSm : zSm D cI cR o t ar n B E me lo c e rd tk g H) (hI : zI n me lo c e) (hC : zCW D cI b n me lo c e rd tk g H) (hZ : zJ n g) (hV : zV n g) (hb9 : b + 61 ≤ o) (hN : zNs c e) (hsz : H.size = t) (hn0 : 0 < n) : Met l yL_act wsL_act ({ frames := 4, cells := 6, slots := 26, locals := 91 } : Room) (zPk D [(cI, .int), (cR, .object zBC)] H [.ref b, .ref o, .int x]) (zM (fun H1 => ∃ n1, 0 < n1 ∧ zLs D cI cR b o n1 H1) (some (.int 1)) (fun q => b ≤ q)) 6 26 (fun q => b ≤ q) := by
  refine z_kenter (cc := cL_act) (maxL := 9) (ret := (some .boolean)) (by decide) rfl (Nat.le_of_ble_eq_true rfl) ?_
  intro pg ev s m args below meth cd hfix hr hlocks hname hK hHs hKw ls hl
  have hK1 : va_K D vwCl [(cI, .int)] s := hK.sub [0] rfl
  obtain ⟨hx, hb, hml, hown, hts⟩ := id hfix
  have hl : lv_has ls 9 [(0, .ref b), (1, .ref o), (2, .int x)] := hl
  have hS : va_S (fun q => b ≤ q) s.heap H [] := by rw [hHs]; exact va_S.rf
  have hz : H.size ≤ H.size := Nat.le_refl _
  have hinX5 : ∀ w ∈ wsX50, w ∈ wsL_act := by decide +kernel
  have hinX6 : ∀ w ∈ wsX60, w ∈ wsL_act := by decide +kernel
  obtain ⟨hO, hQ, hF, hsp⟩ := id hSm
  obtain ⟨⟨ho1, ho2, ho3⟩, -, -⟩ := id hsp
  have hn := zI_n hI
  refine lv_aload_n hx hb dL_act_0 rfl (lv_at hl 1 rfl) ?_
  refine va_get (D := D) (ci := 6) (v := .ref ar) (C := RX6) (T := TX6) (N := 3) hx hb hts hinX6 hown hK hO 0 rfl rfl 0 (by decide) (hts _ (List.mem_of_getElem? (i := 1) rfl)) (fun _ h9 => h9) rfl dL_act_1 ?_
  refine z_qlen (n := n) (f := (zbf n B)) hx hb hK hQ 0 1 rfl rfl dL_act_4 ?_
  refine lv_istore_n (lv' := [(3, .int (nI n)), (0, .ref b), (1, .ref o), (2, .int x)]) hx hb dL_act_5 rfl hl (by decide) rfl (fun ls hl => ?_)
  refine lv_iload_n hx hb dL_act_6 rfl (lv_at hl 3 rfl) ?_
  refine lv_iload_n hx hb dL_act_7 rfl (lv_at hl 0 rfl) ?_
  refine z_ki (va_runS (As := [.int x, .int (nI n)]) (rest := []) hfix (zcL_below l D cI H x n (by omega) (by omega)) (va_cwS 2 hts gL_act_L_below rfl rfl rfl (by decide +kernel) ⟨Nat.le_of_ble_eq_true rfl, Nat.le_of_ble_eq_true rfl⟩) (z_preS hK1) rfl rfl hl.1 rfl (lv_room (Nat.le_of_ble_eq_true rfl)) dL_act_8 ⟨by omega, by omega⟩) ?_
  obtain ⟨p, hpe⟩ : ∃ p, blN x n = p := ⟨_, rfl⟩
  have hp : p < n := hpe ▸ blN_lt (by omega)
  refine z_toi (y := nI p) (congrArg nI hpe) ?_
  refine lv_istore (lv' := [(4, .int (nI p)), (3, .int (nI n)), (0, .ref b), (1, .ref o), (2, .int x)]) hx hb dL_act_11 hl (by decide) rfl (fun ls hl => ?_)
  refine lv_iload_n hx hb dL_act_13 rfl (lv_at hl 4 rfl) ?_
  refine lv_bipush (v := 8) hx hb dL_act_14 (by decide) ?_
  refine lv_ishr hx hb dL_act_16 ?_
  refine lv_bipush (v := 6) hx hb dL_act_17 (by decide) ?_
  refine z_ki (va_runS (As := [.int (x >>> (8 &&& 31)), .int 6]) (rest := []) hfix (zcL_below l D cI H (x >>> (8 &&& 31)) 6 (by omega) (by omega)) (va_cwS 2 hts gL_act_L_below rfl rfl rfl (by decide +kernel) ⟨Nat.le_of_ble_eq_true rfl, Nat.le_of_ble_eq_true rfl⟩) (z_preS hK1) rfl rfl hl.1 rfl (lv_room (Nat.le_of_ble_eq_true rfl)) dL_act_19 ⟨by omega, by omega⟩) ?_
  obtain ⟨w6, hw6e⟩ : ∃ w6, blN (x >>> (8 &&& 31)) 6 = w6 := ⟨_, rfl⟩
  have hw6 : w6 < 6 := hw6e ▸ blN_lt (by omega)
  refine z_toi (y := nI w6) (congrArg nI hw6e) ?_
  have hsw : w6 = 0 ∨ w6 = 1 ∨ w6 = 2 ∨ w6 = 3 ∨ w6 = 4 ∨ w6 = 5 := by omega
  rcases hsw with hsw | hsw | hsw | hsw | hsw | hsw
  · refine lv_tableIn (x := nI w6) (off := 30) (tgt := 52) hx hb dL_act_22 (by rw [hsw]; decide) (by rw [hsw]; decide) (by rw [hsw]; rfl) (by decide) ?_
    refine lv_iload_n hx hb dL_act_52 rfl (lv_at hl 4 rfl) ?_
    refine lv_iconst (v := 3) hx hb dL_act_53 (by decide) ?_
    refine lv_ishr hx hb dL_act_54 ?_
    refine lv_iload_n hx hb dL_act_55 rfl (lv_at hl 1 rfl) ?_
    refine z_ki (va_runS (As := [.int (x >>> (3 &&& 31)), .int (nI n)]) (rest := []) hfix (zcL_below l D cI H (x >>> (3 &&& 31)) n (by omega) (by omega)) (va_cwS 2 hts gL_act_L_below rfl rfl rfl (by decide +kernel) ⟨Nat.le_of_ble_eq_true rfl, Nat.le_of_ble_eq_true rfl⟩) (z_preS hK1) rfl rfl hl.1 rfl (lv_room (Nat.le_of_ble_eq_true rfl)) dL_act_56 ⟨by omega, by omega⟩) ?_
    obtain ⟨q, hqe⟩ : ∃ q, blN (x >>> (3 &&& 31)) n = q := ⟨_, rfl⟩
    have hq : q < n := hqe ▸ blN_lt (by omega)
    refine z_toi (y := nI q) (congrArg nI hqe) ?_
    refine lv_istore (lv' := [(5, .int (nI q)), (4, .int (nI p)), (3, .int (nI n)), (0, .ref b), (1, .ref o), (2, .int x)]) hx hb dL_act_59 hl (by decide) rfl (fun ls hl => ?_)
    refine lv_iload hx hb dL_act_61 (lv_at hl 0 rfl) ?_
    refine lv_iload hx hb dL_act_63 (lv_at hl 1 rfl) ?_
    refine lv_icmp_eq (tgt := 98) hx hb dL_act_65 (by decide) (fun c65 => ?_) (fun c65 => ?_)
    · have c65 := z_eq (a := q) (b := p) c65 (by omega) (by omega)
      refine lv_iconst (v := 1) hx hb dL_act_98 (by decide) ?_
      refine W.widen (k := 6) (n := 26) (by omega) (by omega) ?_
      exact z_zretM (⟨n, by omega, ⟨ar, B, E, me, lo, c, e, rd, tk, g, by rw [hsz]; exact ⟨hO, hQ, hF, hsp⟩, hC, hI, hZ, hV, hN⟩⟩) hx hb hr (by decide) hlocks hS dL_act_99
    · have c65 := z_ne (a := q) (b := p) c65 (by omega) (by omega)
      have hpq : ¬ p = q := fun h => c65 h.symm
      refine lv_aload_n hx hb dL_act_68 rfl (lv_at hl 4 rfl) ?_
      refine va_get (D := D) (ci := 6) (v := .ref ar) (C := RX6) (T := TX6) (N := 3) hx hb hts hinX6 hown hK hO 0 rfl rfl 0 (by decide) (hts _ (List.mem_of_getElem? (i := 1) rfl)) (fun _ h9 => h9) rfl dL_act_69 ?_
      refine lv_iload hx hb dL_act_72 (lv_at hl 1 rfl) ?_
      refine z_aald (a := ar) (n := n) (f := (zbf n B)) (j := p) hx hb hK hQ 0 1 rfl rfl rfl rfl (by omega) (by omega) (zbf_in (by omega)) dL_act_74 ?_
      obtain ⟨hBdm1, hEam1⟩ := hF p (by omega)
      obtain ⟨⟨sb1m1, sb2m1⟩, ⟨se1m1, se2m1⟩, sam1⟩ := hsp.2.1 p (by omega)
      refine lv_iload hx hb dL_act_75 (lv_at hl 0 rfl) ?_
      refine z_ki (va_runV (As := [.int (nI q)]) (rest := []) hfix (zcX5_place l D cI H (B p) (E p) (zcb g 0 p) (zcb g 2 p) (zcb g 4 p) (g 6 p) (me p) (lo p) (c p) e p q hBdm1 hEam1 (zI_c hI p) (fun j hj => by have := zI_e hI hj; omega) (by omega)) (cwV 1 hts gL_act_X5_place rfl rfl rfl (by decide +kernel) ⟨Nat.le_of_ble_eq_true rfl, Nat.le_of_ble_eq_true rfl⟩) (z_preV hK hK1 hBdm1 (ci := 5) (q0 := 0) rfl rfl rfl) rfl rfl hl.1 rfl (lv_room (Nat.le_of_ble_eq_true rfl)) dL_act_77 ⟨by omega, by omega⟩) ?_
      refine lv_if_ge (tgt := 100) hx hb dL_act_80 (by decide) (fun c80 => ?_) (fun c80 => ?_)
      · obtain ⟨kd, hpo⟩ : ∃ kd, po e p q (c p) = some kd := Option.ne_none_iff_exists'.mp ((zo_nn (fun q9 hq9 => by have := (zd_po_lt hq9).1; have := zI_c hI p; omega)).mp c80)
        have hkd := (zd_po_lt hpo).1
        have hc4 := zI_c hI p
        refine lv_aload_n hx hb dL_act_100 rfl (lv_at hl 3 rfl) ?_
        refine lv_iload hx hb dL_act_101 (lv_at hl 1 rfl) ?_
        refine lv_iload hx hb dL_act_103 (lv_at hl 0 rfl) ?_
        refine z_mi (va_runV (As := [.int (nI p), .int (nI q)]) (rest := []) hfix (zcX4_listen_kd l D cI H b n me lo c e rd tk g p q kd hC hI (by omega) (by omega) hpq hpo) (cwV 2 hts gL_act_X4_listen rfl rfl rfl (by decide +kernel) ⟨Nat.le_of_ble_eq_true rfl, Nat.le_of_ble_eq_true rfl⟩) (z_preV hK hK1 hC.1 (ci := 4) (q0 := 0) rfl rfl rfl) rfl rfl hl.1 rfl (lv_room (Nat.le_of_ble_eq_true rfl)) dL_act_105 ⟨by omega, by omega⟩) hS (fun q _ h => by simp only [zF] at h; show b ≤ q; omega) (fun q h => by simp only [zF] at h; show b ≤ q; omega) (fun H2 lo3 hB hz1 hk1 hS => ?_)
        have hz : H.size ≤ H2.size := by have h9 := hB.2; omega
        have hsz : H2.size = t + 0 := hB.2.trans hsz
        have hO4 := zOb_kept hO (fun q h1 h2 h3 => hk1 q h1 (by simp only [zF]; omega))
        have hQ5 := zQr_kept hQ (fun q h1 h2 h3 => hk1 q h1 (by simp only [zF]; omega))
        have hF6 := zFm_kept hsp hF (fun q h1 h2 h3 => hk1 q h1 (by simp only [zF]; omega))
        have hC7 : zCW D cI b n me lo (zu c p (c p - 1)) (zdr e p kd (c p - 1)) rd tk g H2 := hB.1
        have hBdm8 := zBw_kept hBdm1 (fun q h1 h2 h3 => hk1 q h1 (by simp only [zF]; omega))
        have hEam9 := zAr_kept hEam1 (fun q h1 h2 h3 => hk1 q h1 (by simp only [zF]; omega))
        refine lv_aload_n hx hb dL_act_108 rfl (lv_at hl 4 rfl) ?_
        refine lv_iload hx hb dL_act_109 (lv_at hl 1 rfl) ?_
        refine lv_iload hx hb dL_act_111 (lv_at hl 0 rfl) ?_
        refine z_mi (va_runV (As := [.int (nI p), .int (nI q)]) (rest := [.int (nI (c p - 1))]) hfix (zcX6_listen_d l D cI cR H2 o t ar n B E me lo c e rd tk g p q kd (⟨hO4, hQ5, hF6, hsp⟩) hI (by omega) (by omega) (by omega) hpo) (cwV 2 hts gL_act_X6_listen rfl rfl rfl (by decide +kernel) ⟨Nat.le_of_ble_eq_true rfl, Nat.le_of_ble_eq_true rfl⟩) (z_kpreV hKw hK hK hO4 (ci := 6) (q0 := 0) rfl rfl rfl) rfl rfl hl.1 rfl (lv_room (Nat.le_of_ble_eq_true rfl)) dL_act_113 ⟨Nat.le_of_ble_eq_true rfl, Nat.le_of_ble_eq_true rfl⟩) hS (fun q _ h => by have h8 : o ≤ q := h; show b ≤ q; omega) (fun q h => by have h8 : o ≤ q := h; show b ≤ q; omega) (fun H10 lo11 hB hz1 hk1 hS => ?_)
        obtain ⟨⟨hOu12, hQu12, hFu12, hspu12⟩, hsu12⟩ := hB
        obtain ⟨⟨ho1, ho2, ho3⟩, -, -⟩ := id hspu12
        have hsz : H10.size = t + 1 := hsu12
        have hz : H.size ≤ H10.size := by omega
        have hC13 := zCW_kept hC7 (fun q h1 h2 h3 => hk1 q h1 (fun h8 => by have h7 : o ≤ q := h8; omega))
        refine lv_icmp_ne (tgt := 123) hx hb dL_act_116 (by decide) (fun c116 => ?_) (fun c116 => ?_)
        · have c116 := z_ne (a := c p - 1) (b := c p - 1) c116 (by omega) (by omega)
          exact absurd rfl c116
        · have c116 := z_eq (a := c p - 1) (b := c p - 1) c116 (by omega) (by omega)
          refine lv_iconst (v := 1) hx hb dL_act_119 (by decide) ?_
          refine lv_goto (tgt := 124) hx hb dL_act_120 (by decide) ?_
          refine W.widen (k := 6) (n := 26) (by omega) (by omega) ?_
          exact z_zretM (⟨n, by omega, ⟨ar, B, zx E p t, me, lo, zu c p (c p - 1), zdr e p kd (c p - 1), rd, tk, g, by rw [hsz]; exact ⟨hOu12, hQu12, hFu12, hspu12⟩, hC13, zI_drop hI hp hkd, hZ, hV, zNs_drop hN hkd (zI_c hI)⟩⟩) hx hb hr (by decide) hlocks hS dL_act_124
      · have hpo : po e p q (c p) = none := Classical.byContradiction fun h9 => c80 ((zo_nn (fun q9 hq9 => by have := (zd_po_lt hq9).1; have := zI_c hI p; omega)).mpr h9)
        have hc4 := zI_c hI p
        refine lv_aload_n hx hb dL_act_83 rfl (lv_at hl 4 rfl) ?_
        refine va_get (D := D) (ci := 6) (v := .ref ar) (C := RX6) (T := TX6) (N := 3) hx hb hts hinX6 hown hK hO 0 rfl rfl 0 (by decide) (hts _ (List.mem_of_getElem? (i := 1) rfl)) (fun _ h9 => h9) rfl dL_act_84 ?_
        refine lv_iload hx hb dL_act_87 (lv_at hl 1 rfl) ?_
        refine z_aald (a := ar) (n := n) (f := (zbf n B)) (j := p) hx hb hK hQ 0 1 rfl rfl rfl rfl (by omega) (by omega) (zbf_in (by omega)) dL_act_89 ?_
        refine va_get (D := D) (ci := 5) (v := .ref (E p)) (C := RX5) (T := TX5) (N := 7) hx hb hts hinX5 hown hK hBdm1 0 rfl rfl 6 (by decide) (hts _ (List.mem_of_getElem? (i := 2) rfl)) (fun _ h9 => h9) rfl dL_act_90 ?_
        refine z_alen (n := (c p)) (f := (zer e p)) hx hb hK hEam1 0 0 rfl rfl dL_act_93 ?_
        refine lv_iconst (v := 4) hx hb dL_act_94 (by decide) ?_
        refine lv_icmp_ne (tgt := 100) hx hb dL_act_95 (by decide) (fun c95 => ?_) (fun c95 => ?_)
        · have c95 := z_ne (a := (c p)) (b := 4) c95 (by omega) (by omega)
          refine lv_aload_n hx hb dL_act_100 rfl (lv_at hl 3 rfl) ?_
          refine lv_iload hx hb dL_act_101 (lv_at hl 1 rfl) ?_
          refine lv_iload hx hb dL_act_103 (lv_at hl 0 rfl) ?_
          refine z_mi (va_runV (As := [.int (nI p), .int (nI q)]) (rest := []) hfix (zcX4_listen_ka l D cI H b n me lo c e rd tk g p q hC hI (by omega) (by omega) hpq hpo (by omega)) (cwV 2 hts gL_act_X4_listen rfl rfl rfl (by decide +kernel) ⟨Nat.le_of_ble_eq_true rfl, Nat.le_of_ble_eq_true rfl⟩) (z_preV hK hK1 hC.1 (ci := 4) (q0 := 0) rfl rfl rfl) rfl rfl hl.1 rfl (lv_room (Nat.le_of_ble_eq_true rfl)) dL_act_105 ⟨by omega, by omega⟩) hS (fun q _ h => by simp only [zF] at h; show b ≤ q; omega) (fun q h => by simp only [zF] at h; show b ≤ q; omega) (fun H14 lo15 hB hz1 hk1 hS => ?_)
          have hz : H.size ≤ H14.size := by have h9 := hB.2; omega
          have hsz : H14.size = t + 0 := hB.2.trans hsz
          have hO16 := zOb_kept hO (fun q h1 h2 h3 => hk1 q h1 (by simp only [zF]; omega))
          have hQ17 := zQr_kept hQ (fun q h1 h2 h3 => hk1 q h1 (by simp only [zF]; omega))
          have hF18 := zFm_kept hsp hF (fun q h1 h2 h3 => hk1 q h1 (by simp only [zF]; omega))
          have hC19 : zCW D cI b n me lo (zu c p (c p + 1)) (zu e (p * 4 + c p) q) rd tk g H14 := hB.1
          have hBdm20 := zBw_kept hBdm1 (fun q h1 h2 h3 => hk1 q h1 (by simp only [zF]; omega))
          have hEam21 := zAr_kept hEam1 (fun q h1 h2 h3 => hk1 q h1 (by simp only [zF]; omega))
          refine lv_aload_n hx hb dL_act_108 rfl (lv_at hl 4 rfl) ?_
          refine lv_iload hx hb dL_act_109 (lv_at hl 1 rfl) ?_
          refine lv_iload hx hb dL_act_111 (lv_at hl 0 rfl) ?_
          refine z_mi (va_runV (As := [.int (nI p), .int (nI q)]) (rest := [.int (nI (c p + 1))]) hfix (zcX6_listen_a l D cI cR H14 o t ar n B E me lo c e rd tk g p q (⟨hO16, hQ17, hF18, hsp⟩) hI (by omega) (by omega) (by omega) hpo (by omega)) (cwV 2 hts gL_act_X6_listen rfl rfl rfl (by decide +kernel) ⟨Nat.le_of_ble_eq_true rfl, Nat.le_of_ble_eq_true rfl⟩) (z_kpreV hKw hK hK hO16 (ci := 6) (q0 := 0) rfl rfl rfl) rfl rfl hl.1 rfl (lv_room (Nat.le_of_ble_eq_true rfl)) dL_act_113 ⟨Nat.le_of_ble_eq_true rfl, Nat.le_of_ble_eq_true rfl⟩) hS (fun q _ h => by have h8 : o ≤ q := h; show b ≤ q; omega) (fun q h => by have h8 : o ≤ q := h; show b ≤ q; omega) (fun H22 lo23 hB hz1 hk1 hS => ?_)
          obtain ⟨⟨hOu24, hQu24, hFu24, hspu24⟩, hsu24⟩ := hB
          obtain ⟨⟨ho1, ho2, ho3⟩, -, -⟩ := id hspu24
          have hsz : H22.size = t + 1 := hsu24
          have hz : H.size ≤ H22.size := by omega
          have hC25 := zCW_kept hC19 (fun q h1 h2 h3 => hk1 q h1 (fun h8 => by have h7 : o ≤ q := h8; omega))
          refine lv_icmp_ne (tgt := 123) hx hb dL_act_116 (by decide) (fun c116 => ?_) (fun c116 => ?_)
          · have c116 := z_ne (a := c p + 1) (b := c p + 1) c116 (by omega) (by omega)
            exact absurd rfl c116
          · have c116 := z_eq (a := c p + 1) (b := c p + 1) c116 (by omega) (by omega)
            refine lv_iconst (v := 1) hx hb dL_act_119 (by decide) ?_
            refine lv_goto (tgt := 124) hx hb dL_act_120 (by decide) ?_
            refine W.widen (k := 6) (n := 26) (by omega) (by omega) ?_
            exact z_zretM (⟨n, by omega, ⟨ar, B, zx E p t, me, lo, zu c p (c p + 1), zu e (p * 4 + c p) q, rd, tk, g, by rw [hsz]; exact ⟨hOu24, hQu24, hFu24, hspu24⟩, hC25, zI_add hI hp hq (by omega), hZ, hV, zNs_add hN hpq (by omega) (zI_c hI)⟩⟩) hx hb hr (by decide) hlocks hS dL_act_124
        · have c95 := z_eq (a := (c p)) (b := 4) c95 (by omega) (by omega)
          refine lv_iconst (v := 1) hx hb dL_act_98 (by decide) ?_
          refine W.widen (k := 6) (n := 26) (by omega) (by omega) ?_
          exact z_zretM (⟨n, by omega, ⟨ar, B, E, me, lo, c, e, rd, tk, g, by rw [hsz]; exact ⟨hO, hQ, hF, hsp⟩, hC, hI, hZ, hV, hN⟩⟩) hx hb hr (by decide) hlocks hS dL_act_99
  · refine lv_tableIn (x := nI w6) (off := 30) (tgt := 52) hx hb dL_act_22 (by rw [hsw]; decide) (by rw [hsw]; decide) (by rw [hsw]; rfl) (by decide) ?_
    refine lv_iload_n hx hb dL_act_52 rfl (lv_at hl 4 rfl) ?_
    refine lv_iconst (v := 3) hx hb dL_act_53 (by decide) ?_
    refine lv_ishr hx hb dL_act_54 ?_
    refine lv_iload_n hx hb dL_act_55 rfl (lv_at hl 1 rfl) ?_
    refine z_ki (va_runS (As := [.int (x >>> (3 &&& 31)), .int (nI n)]) (rest := []) hfix (zcL_below l D cI H (x >>> (3 &&& 31)) n (by omega) (by omega)) (va_cwS 2 hts gL_act_L_below rfl rfl rfl (by decide +kernel) ⟨Nat.le_of_ble_eq_true rfl, Nat.le_of_ble_eq_true rfl⟩) (z_preS hK1) rfl rfl hl.1 rfl (lv_room (Nat.le_of_ble_eq_true rfl)) dL_act_56 ⟨by omega, by omega⟩) ?_
    obtain ⟨q, hqe⟩ : ∃ q, blN (x >>> (3 &&& 31)) n = q := ⟨_, rfl⟩
    have hq : q < n := hqe ▸ blN_lt (by omega)
    refine z_toi (y := nI q) (congrArg nI hqe) ?_
    refine lv_istore (lv' := [(5, .int (nI q)), (4, .int (nI p)), (3, .int (nI n)), (0, .ref b), (1, .ref o), (2, .int x)]) hx hb dL_act_59 hl (by decide) rfl (fun ls hl => ?_)
    refine lv_iload hx hb dL_act_61 (lv_at hl 0 rfl) ?_
    refine lv_iload hx hb dL_act_63 (lv_at hl 1 rfl) ?_
    refine lv_icmp_eq (tgt := 98) hx hb dL_act_65 (by decide) (fun c65 => ?_) (fun c65 => ?_)
    · have c65 := z_eq (a := q) (b := p) c65 (by omega) (by omega)
      refine lv_iconst (v := 1) hx hb dL_act_98 (by decide) ?_
      refine W.widen (k := 6) (n := 26) (by omega) (by omega) ?_
      exact z_zretM (⟨n, by omega, ⟨ar, B, E, me, lo, c, e, rd, tk, g, by rw [hsz]; exact ⟨hO, hQ, hF, hsp⟩, hC, hI, hZ, hV, hN⟩⟩) hx hb hr (by decide) hlocks hS dL_act_99
    · have c65 := z_ne (a := q) (b := p) c65 (by omega) (by omega)
      have hpq : ¬ p = q := fun h => c65 h.symm
      refine lv_aload_n hx hb dL_act_68 rfl (lv_at hl 4 rfl) ?_
      refine va_get (D := D) (ci := 6) (v := .ref ar) (C := RX6) (T := TX6) (N := 3) hx hb hts hinX6 hown hK hO 0 rfl rfl 0 (by decide) (hts _ (List.mem_of_getElem? (i := 1) rfl)) (fun _ h9 => h9) rfl dL_act_69 ?_
      refine lv_iload hx hb dL_act_72 (lv_at hl 1 rfl) ?_
      refine z_aald (a := ar) (n := n) (f := (zbf n B)) (j := p) hx hb hK hQ 0 1 rfl rfl rfl rfl (by omega) (by omega) (zbf_in (by omega)) dL_act_74 ?_
      obtain ⟨hBdm26, hEam26⟩ := hF p (by omega)
      obtain ⟨⟨sb1m26, sb2m26⟩, ⟨se1m26, se2m26⟩, sam26⟩ := hsp.2.1 p (by omega)
      refine lv_iload hx hb dL_act_75 (lv_at hl 0 rfl) ?_
      refine z_ki (va_runV (As := [.int (nI q)]) (rest := []) hfix (zcX5_place l D cI H (B p) (E p) (zcb g 0 p) (zcb g 2 p) (zcb g 4 p) (g 6 p) (me p) (lo p) (c p) e p q hBdm26 hEam26 (zI_c hI p) (fun j hj => by have := zI_e hI hj; omega) (by omega)) (cwV 1 hts gL_act_X5_place rfl rfl rfl (by decide +kernel) ⟨Nat.le_of_ble_eq_true rfl, Nat.le_of_ble_eq_true rfl⟩) (z_preV hK hK1 hBdm26 (ci := 5) (q0 := 0) rfl rfl rfl) rfl rfl hl.1 rfl (lv_room (Nat.le_of_ble_eq_true rfl)) dL_act_77 ⟨by omega, by omega⟩) ?_
      refine lv_if_ge (tgt := 100) hx hb dL_act_80 (by decide) (fun c80 => ?_) (fun c80 => ?_)
      · obtain ⟨kd, hpo⟩ : ∃ kd, po e p q (c p) = some kd := Option.ne_none_iff_exists'.mp ((zo_nn (fun q9 hq9 => by have := (zd_po_lt hq9).1; have := zI_c hI p; omega)).mp c80)
        have hkd := (zd_po_lt hpo).1
        have hc4 := zI_c hI p
        refine lv_aload_n hx hb dL_act_100 rfl (lv_at hl 3 rfl) ?_
        refine lv_iload hx hb dL_act_101 (lv_at hl 1 rfl) ?_
        refine lv_iload hx hb dL_act_103 (lv_at hl 0 rfl) ?_
        refine z_mi (va_runV (As := [.int (nI p), .int (nI q)]) (rest := []) hfix (zcX4_listen_kd l D cI H b n me lo c e rd tk g p q kd hC hI (by omega) (by omega) hpq hpo) (cwV 2 hts gL_act_X4_listen rfl rfl rfl (by decide +kernel) ⟨Nat.le_of_ble_eq_true rfl, Nat.le_of_ble_eq_true rfl⟩) (z_preV hK hK1 hC.1 (ci := 4) (q0 := 0) rfl rfl rfl) rfl rfl hl.1 rfl (lv_room (Nat.le_of_ble_eq_true rfl)) dL_act_105 ⟨by omega, by omega⟩) hS (fun q _ h => by simp only [zF] at h; show b ≤ q; omega) (fun q h => by simp only [zF] at h; show b ≤ q; omega) (fun H27 lo28 hB hz1 hk1 hS => ?_)
        have hz : H.size ≤ H27.size := by have h9 := hB.2; omega
        have hsz : H27.size = t + 0 := hB.2.trans hsz
        have hO29 := zOb_kept hO (fun q h1 h2 h3 => hk1 q h1 (by simp only [zF]; omega))
        have hQ30 := zQr_kept hQ (fun q h1 h2 h3 => hk1 q h1 (by simp only [zF]; omega))
        have hF31 := zFm_kept hsp hF (fun q h1 h2 h3 => hk1 q h1 (by simp only [zF]; omega))
        have hC32 : zCW D cI b n me lo (zu c p (c p - 1)) (zdr e p kd (c p - 1)) rd tk g H27 := hB.1
        have hBdm33 := zBw_kept hBdm26 (fun q h1 h2 h3 => hk1 q h1 (by simp only [zF]; omega))
        have hEam34 := zAr_kept hEam26 (fun q h1 h2 h3 => hk1 q h1 (by simp only [zF]; omega))
        refine lv_aload_n hx hb dL_act_108 rfl (lv_at hl 4 rfl) ?_
        refine lv_iload hx hb dL_act_109 (lv_at hl 1 rfl) ?_
        refine lv_iload hx hb dL_act_111 (lv_at hl 0 rfl) ?_
        refine z_mi (va_runV (As := [.int (nI p), .int (nI q)]) (rest := [.int (nI (c p - 1))]) hfix (zcX6_listen_d l D cI cR H27 o t ar n B E me lo c e rd tk g p q kd (⟨hO29, hQ30, hF31, hsp⟩) hI (by omega) (by omega) (by omega) hpo) (cwV 2 hts gL_act_X6_listen rfl rfl rfl (by decide +kernel) ⟨Nat.le_of_ble_eq_true rfl, Nat.le_of_ble_eq_true rfl⟩) (z_kpreV hKw hK hK hO29 (ci := 6) (q0 := 0) rfl rfl rfl) rfl rfl hl.1 rfl (lv_room (Nat.le_of_ble_eq_true rfl)) dL_act_113 ⟨Nat.le_of_ble_eq_true rfl, Nat.le_of_ble_eq_true rfl⟩) hS (fun q _ h => by have h8 : o ≤ q := h; show b ≤ q; omega) (fun q h => by have h8 : o ≤ q := h; show b ≤ q; omega) (fun H35 lo36 hB hz1 hk1 hS => ?_)
        obtain ⟨⟨hOu37, hQu37, hFu37, hspu37⟩, hsu37⟩ := hB
        obtain ⟨⟨ho1, ho2, ho3⟩, -, -⟩ := id hspu37
        have hsz : H35.size = t + 1 := hsu37
        have hz : H.size ≤ H35.size := by omega
        have hC38 := zCW_kept hC32 (fun q h1 h2 h3 => hk1 q h1 (fun h8 => by have h7 : o ≤ q := h8; omega))
        refine lv_icmp_ne (tgt := 123) hx hb dL_act_116 (by decide) (fun c116 => ?_) (fun c116 => ?_)
        · have c116 := z_ne (a := c p - 1) (b := c p - 1) c116 (by omega) (by omega)
          exact absurd rfl c116
        · have c116 := z_eq (a := c p - 1) (b := c p - 1) c116 (by omega) (by omega)
          refine lv_iconst (v := 1) hx hb dL_act_119 (by decide) ?_
          refine lv_goto (tgt := 124) hx hb dL_act_120 (by decide) ?_
          refine W.widen (k := 6) (n := 26) (by omega) (by omega) ?_
          exact z_zretM (⟨n, by omega, ⟨ar, B, zx E p t, me, lo, zu c p (c p - 1), zdr e p kd (c p - 1), rd, tk, g, by rw [hsz]; exact ⟨hOu37, hQu37, hFu37, hspu37⟩, hC38, zI_drop hI hp hkd, hZ, hV, zNs_drop hN hkd (zI_c hI)⟩⟩) hx hb hr (by decide) hlocks hS dL_act_124
      · have hpo : po e p q (c p) = none := Classical.byContradiction fun h9 => c80 ((zo_nn (fun q9 hq9 => by have := (zd_po_lt hq9).1; have := zI_c hI p; omega)).mpr h9)
        have hc4 := zI_c hI p
        refine lv_aload_n hx hb dL_act_83 rfl (lv_at hl 4 rfl) ?_
        refine va_get (D := D) (ci := 6) (v := .ref ar) (C := RX6) (T := TX6) (N := 3) hx hb hts hinX6 hown hK hO 0 rfl rfl 0 (by decide) (hts _ (List.mem_of_getElem? (i := 1) rfl)) (fun _ h9 => h9) rfl dL_act_84 ?_
        refine lv_iload hx hb dL_act_87 (lv_at hl 1 rfl) ?_
        refine z_aald (a := ar) (n := n) (f := (zbf n B)) (j := p) hx hb hK hQ 0 1 rfl rfl rfl rfl (by omega) (by omega) (zbf_in (by omega)) dL_act_89 ?_
        refine va_get (D := D) (ci := 5) (v := .ref (E p)) (C := RX5) (T := TX5) (N := 7) hx hb hts hinX5 hown hK hBdm26 0 rfl rfl 6 (by decide) (hts _ (List.mem_of_getElem? (i := 2) rfl)) (fun _ h9 => h9) rfl dL_act_90 ?_
        refine z_alen (n := (c p)) (f := (zer e p)) hx hb hK hEam26 0 0 rfl rfl dL_act_93 ?_
        refine lv_iconst (v := 4) hx hb dL_act_94 (by decide) ?_
        refine lv_icmp_ne (tgt := 100) hx hb dL_act_95 (by decide) (fun c95 => ?_) (fun c95 => ?_)
        · have c95 := z_ne (a := (c p)) (b := 4) c95 (by omega) (by omega)
          refine lv_aload_n hx hb dL_act_100 rfl (lv_at hl 3 rfl) ?_
          refine lv_iload hx hb dL_act_101 (lv_at hl 1 rfl) ?_
          refine lv_iload hx hb dL_act_103 (lv_at hl 0 rfl) ?_
          refine z_mi (va_runV (As := [.int (nI p), .int (nI q)]) (rest := []) hfix (zcX4_listen_ka l D cI H b n me lo c e rd tk g p q hC hI (by omega) (by omega) hpq hpo (by omega)) (cwV 2 hts gL_act_X4_listen rfl rfl rfl (by decide +kernel) ⟨Nat.le_of_ble_eq_true rfl, Nat.le_of_ble_eq_true rfl⟩) (z_preV hK hK1 hC.1 (ci := 4) (q0 := 0) rfl rfl rfl) rfl rfl hl.1 rfl (lv_room (Nat.le_of_ble_eq_true rfl)) dL_act_105 ⟨by omega, by omega⟩) hS (fun q _ h => by simp only [zF] at h; show b ≤ q; omega) (fun q h => by simp only [zF] at h; show b ≤ q; omega) (fun H39 lo40 hB hz1 hk1 hS => ?_)
          have hz : H.size ≤ H39.size := by have h9 := hB.2; omega
          have hsz : H39.size = t + 0 := hB.2.trans hsz
          have hO41 := zOb_kept hO (fun q h1 h2 h3 => hk1 q h1 (by simp only [zF]; omega))
          have hQ42 := zQr_kept hQ (fun q h1 h2 h3 => hk1 q h1 (by simp only [zF]; omega))
          have hF43 := zFm_kept hsp hF (fun q h1 h2 h3 => hk1 q h1 (by simp only [zF]; omega))
          have hC44 : zCW D cI b n me lo (zu c p (c p + 1)) (zu e (p * 4 + c p) q) rd tk g H39 := hB.1
          have hBdm45 := zBw_kept hBdm26 (fun q h1 h2 h3 => hk1 q h1 (by simp only [zF]; omega))
          have hEam46 := zAr_kept hEam26 (fun q h1 h2 h3 => hk1 q h1 (by simp only [zF]; omega))
          refine lv_aload_n hx hb dL_act_108 rfl (lv_at hl 4 rfl) ?_
          refine lv_iload hx hb dL_act_109 (lv_at hl 1 rfl) ?_
          refine lv_iload hx hb dL_act_111 (lv_at hl 0 rfl) ?_
          refine z_mi (va_runV (As := [.int (nI p), .int (nI q)]) (rest := [.int (nI (c p + 1))]) hfix (zcX6_listen_a l D cI cR H39 o t ar n B E me lo c e rd tk g p q (⟨hO41, hQ42, hF43, hsp⟩) hI (by omega) (by omega) (by omega) hpo (by omega)) (cwV 2 hts gL_act_X6_listen rfl rfl rfl (by decide +kernel) ⟨Nat.le_of_ble_eq_true rfl, Nat.le_of_ble_eq_true rfl⟩) (z_kpreV hKw hK hK hO41 (ci := 6) (q0 := 0) rfl rfl rfl) rfl rfl hl.1 rfl (lv_room (Nat.le_of_ble_eq_true rfl)) dL_act_113 ⟨Nat.le_of_ble_eq_true rfl, Nat.le_of_ble_eq_true rfl⟩) hS (fun q _ h => by have h8 : o ≤ q := h; show b ≤ q; omega) (fun q h => by have h8 : o ≤ q := h; show b ≤ q; omega) (fun H47 lo48 hB hz1 hk1 hS => ?_)
          obtain ⟨⟨hOu49, hQu49, hFu49, hspu49⟩, hsu49⟩ := hB
          obtain ⟨⟨ho1, ho2, ho3⟩, -, -⟩ := id hspu49
          have hsz : H47.size = t + 1 := hsu49
          have hz : H.size ≤ H47.size := by omega
          have hC50 := zCW_kept hC44 (fun q h1 h2 h3 => hk1 q h1 (fun h8 => by have h7 : o ≤ q := h8; omega))
          refine lv_icmp_ne (tgt := 123) hx hb dL_act_116 (by decide) (fun c116 => ?_) (fun c116 => ?_)
          · have c116 := z_ne (a := c p + 1) (b := c p + 1) c116 (by omega) (by omega)
            exact absurd rfl c116
          · have c116 := z_eq (a := c p + 1) (b := c p + 1) c116 (by omega) (by omega)
            refine lv_iconst (v := 1) hx hb dL_act_119 (by decide) ?_
            refine lv_goto (tgt := 124) hx hb dL_act_120 (by decide) ?_
            refine W.widen (k := 6) (n := 26) (by omega) (by omega) ?_
            exact z_zretM (⟨n, by omega, ⟨ar, B, zx E p t, me, lo, zu c p (c p + 1), zu e (p * 4 + c p) q, rd, tk, g, by rw [hsz]; exact ⟨hOu49, hQu49, hFu49, hspu49⟩, hC50, zI_add hI hp hq (by omega), hZ, hV, zNs_add hN hpq (by omega) (zI_c hI)⟩⟩) hx hb hr (by decide) hlocks hS dL_act_124
        · have c95 := z_eq (a := (c p)) (b := 4) c95 (by omega) (by omega)
          refine lv_iconst (v := 1) hx hb dL_act_98 (by decide) ?_
          refine W.widen (k := 6) (n := 26) (by omega) (by omega) ?_
          exact z_zretM (⟨n, by omega, ⟨ar, B, E, me, lo, c, e, rd, tk, g, by rw [hsz]; exact ⟨hO, hQ, hF, hsp⟩, hC, hI, hZ, hV, hN⟩⟩) hx hb hr (by decide) hlocks hS dL_act_99
  · refine lv_tableIn (x := nI w6) (off := 103) (tgt := 125) hx hb dL_act_22 (by rw [hsw]; decide) (by rw [hsw]; decide) (by rw [hsw]; rfl) (by decide) ?_
    refine lv_aload_n hx hb dL_act_125 rfl (lv_at hl 3 rfl) ?_
    refine va_get (D := D) (ci := 6) (v := .ref ar) (C := RX6) (T := TX6) (N := 3) hx hb hts hinX6 hown hK hO 0 rfl rfl 0 (by decide) (hts _ (List.mem_of_getElem? (i := 1) rfl)) (fun _ h9 => h9) rfl dL_act_126 ?_
    refine lv_iload hx hb dL_act_129 (lv_at hl 0 rfl) ?_
    refine z_aald (a := ar) (n := n) (f := (zbf n B)) (j := p) hx hb hK hQ 0 1 rfl rfl rfl rfl (by omega) (by omega) (zbf_in (by omega)) dL_act_131 ?_
    obtain ⟨hBdm51, hEam51⟩ := hF p (by omega)
    obtain ⟨⟨sb1m51, sb2m51⟩, ⟨se1m51, se2m51⟩, sam51⟩ := hsp.2.1 p (by omega)
    refine va_get (D := D) (ci := 5) (v := .int (lo p)) (C := RX5) (T := TX5) (N := 7) hx hb hts hinX5 hown hK hBdm51 0 rfl rfl 5 (by decide) (hts _ (List.mem_of_getElem? (i := 3) rfl)) (fun _ h9 => h9) rfl dL_act_132 ?_
    refine lv_istore (lv' := [(6, .int (lo p)), (4, .int (nI p)), (3, .int (nI n)), (0, .ref b), (1, .ref o), (2, .int x)]) hx hb dL_act_135 hl (by decide) rfl (fun ls hl => ?_)
    refine lv_aload_n hx hb dL_act_137 rfl (lv_at hl 4 rfl) ?_
    refine va_get (D := D) (ci := 6) (v := .ref ar) (C := RX6) (T := TX6) (N := 3) hx hb hts hinX6 hown hK hO 0 rfl rfl 0 (by decide) (hts _ (List.mem_of_getElem? (i := 1) rfl)) (fun _ h9 => h9) rfl dL_act_138 ?_
    refine lv_iload hx hb dL_act_141 (lv_at hl 1 rfl) ?_
    refine z_aald (a := ar) (n := n) (f := (zbf n B)) (j := p) hx hb hK hQ 0 1 rfl rfl rfl rfl (by omega) (by omega) (zbf_in (by omega)) dL_act_143 ?_
    refine lv_iconst (v := 1) hx hb dL_act_144 (by decide) ?_
    refine lv_iload_n hx hb dL_act_145 rfl (lv_at hl 5 rfl) ?_
    refine lv_iconst (v := 4) hx hb dL_act_146 (by decide) ?_
    refine lv_ishr hx hb dL_act_147 ?_
    refine lv_iconst (v := 5) hx hb dL_act_148 (by decide) ?_
    refine z_ki (va_runS (As := [.int (x >>> (4 &&& 31)), .int 5]) (rest := [.int 1, .ref (B p)]) hfix (zcL_below l D cI H (x >>> (4 &&& 31)) 5 (by omega) (by omega)) (va_cwS 2 hts gL_act_L_below rfl rfl rfl (by decide +kernel) ⟨Nat.le_of_ble_eq_true rfl, Nat.le_of_ble_eq_true rfl⟩) (z_preS hK1) rfl rfl hl.1 rfl (lv_room (Nat.le_of_ble_eq_true rfl)) dL_act_149 ⟨by omega, by omega⟩) ?_
    obtain ⟨v5, hv5e⟩ : ∃ v5, blN (x >>> (4 &&& 31)) 5 = v5 := ⟨_, rfl⟩
    have hv5 : v5 < 5 := hv5e ▸ blN_lt (by omega)
    refine z_toi (y := nI v5) (congrArg nI hv5e) ?_
    refine lv_iadd hx hb dL_act_152 ?_
    refine z_toi (y := nI (1 + v5)) (nI_add 1 v5) ?_
    refine z_put (D := D) (ci := 5) (v := .int (nI (1 + v5))) (ty := .int) (C := RX5) (T := TX5) (N := 7) hx hb hts hinX5 tyX5 tyX5_ok nmX5 hown hK hBdm51 (by show b ≤ _; omega) hS 0 rfl rfl 5 (by decide) (hts _ (List.mem_of_getElem? (i := 3) rfl)) (fun _ h9 => h9) rfl (by decide +kernel) rfl rfl (Nat.le_of_ble_eq_true rfl) dL_act_153 (fun H52 lo53 hP1 hz1 hk1 hS => ?_)
    have hsz : H52.size = t + 0 := by omega
    have hz : H.size ≤ H52.size := by omega
    have hO54 := zOb_kept hO (fun q h1 h2 h3 => (fun q _ h => hk1 q h) q h1 (by omega))
    have hQ55 := zQr_kept hQ (fun q h1 h2 h3 => (fun q _ h => hk1 q h) q h1 (by omega))
    have hC56 := zCW_kept hC (fun q h1 h2 h3 => (fun q _ h => hk1 q h) q h1 (by omega))
    have hBdm57 : va_P D vwCl (zBw cI (B p) (E p) (zcb g 0 p) (zcb g 2 p) (zcb g 4 p) (g 6 p) (me p) (nI (1 + v5))) H52 := z_set zBw_c hBdm51 0 rfl hP1 (fun q _ h => hk1 q h)
    have hF58 : zFm D cI n B E me (upd lo p (nI (1 + v5))) c e g H52 := zFm_set hsp hF (p := p) (by omega) (zBw_to hBdm57 (fun _ _ => rfl) (fun _ _ => rfl) (fun _ _ => rfl) rfl rfl pk_us.symm) (fun q _ h2 => hk1 q (by omega)) (fun j hj _ => ⟨fun _ _ => rfl, rfl, pk_un hj⟩)
    refine lv_aload_n hx hb dL_act_156 rfl (lv_at hl 3 rfl) ?_
    refine lv_iload hx hb dL_act_157 (lv_at hl 1 rfl) ?_
    refine lv_aload_n hx hb dL_act_159 rfl (lv_at hl 4 rfl) ?_
    refine va_get (D := D) (ci := 6) (v := .ref ar) (C := RX6) (T := TX6) (N := 3) hx hb hts hinX6 hown hK hO54 0 rfl rfl 0 (by decide) (hts _ (List.mem_of_getElem? (i := 1) rfl)) (fun _ h9 => h9) rfl dL_act_160 ?_
    refine lv_iload hx hb dL_act_163 (lv_at hl 1 rfl) ?_
    refine z_aald (a := ar) (n := n) (f := (zbf n B)) (j := p) hx hb hK hQ55 0 1 rfl rfl rfl rfl (by omega) (by omega) (zbf_in (by omega)) dL_act_165 ?_
    refine va_get (D := D) (ci := 5) (v := .int (nI (1 + v5))) (C := RX5) (T := TX5) (N := 7) hx hb hts hinX5 hown hK hBdm57 0 rfl rfl 5 (by decide) (hts _ (List.mem_of_getElem? (i := 3) rfl)) (fun _ h9 => h9) rfl dL_act_166 ?_
    refine z_mi (va_runV (As := [.int (nI p), .int (nI (1 + v5))]) (rest := []) hfix (zcX4_raise_k l D cI H52 b n me lo c e rd tk g p (1 + v5) hC56 hI (by omega) (by omega) (by omega)) (cwV 2 hts gL_act_X4_raise rfl rfl rfl (by decide +kernel) ⟨Nat.le_of_ble_eq_true rfl, Nat.le_of_ble_eq_true rfl⟩) (z_preV hK hK1 hC56.1 (ci := 4) (q0 := 0) rfl rfl rfl) rfl rfl hl.1 rfl (lv_room (Nat.le_of_ble_eq_true rfl)) dL_act_169 ⟨by omega, by omega⟩) hS (fun q _ h => by simp only [zF] at h; show b ≤ q; omega) (fun q h => by simp only [zF] at h; show b ≤ q; omega) (fun H59 lo60 hB hz1 hk1 hS => ?_)
    have hz : H.size ≤ H59.size := by have h9 := hB.2; omega
    have hsz : H59.size = t + 0 := hB.2.trans hsz
    have hO61 := zOb_kept hO54 (fun q h1 h2 h3 => hk1 q h1 (by simp only [zF]; omega))
    have hQ62 := zQr_kept hQ55 (fun q h1 h2 h3 => hk1 q h1 (by simp only [zF]; omega))
    have hC63 : zCW D cI b n me (upd lo p (nI (1 + v5))) c e rd tk g H59 := hB.1
    have hBdm64 := zBw_kept hBdm57 (fun q h1 h2 h3 => hk1 q h1 (by simp only [zF]; omega))
    have hF65 := zFm_kept hsp hF58 (fun q h1 h2 h3 => hk1 q h1 (by simp only [zF]; omega))
    refine lv_iload hx hb dL_act_172 (lv_at hl 0 rfl) ?_
    refine lv_icmp_ne (tgt := 181) hx hb dL_act_174 (by decide) (fun c174 => ?_) (fun c174 => ?_)
    · exact absurd rfl c174
    · refine lv_iconst (v := 1) hx hb dL_act_177 (by decide) ?_
      refine lv_goto (tgt := 182) hx hb dL_act_178 (by decide) ?_
      refine W.widen (k := 6) (n := 26) (by omega) (by omega) ?_
      exact z_zretM (⟨n, by omega, ⟨ar, B, E, me, upd lo p (nI (1 + v5)), c, e, rd, tk, g, by rw [hsz]; exact ⟨hO61, hQ62, hF65, hsp⟩, hC63, zI_raise hI (by omega) (by omega), hZ, hV, hN⟩⟩) hx hb hr (by decide) hlocks hS dL_act_182
  · refine lv_tableIn (x := nI w6) (off := 161) (tgt := 183) hx hb dL_act_22 (by rw [hsw]; decide) (by rw [hsw]; decide) (by rw [hsw]; rfl) (by decide) ?_
    refine lv_iload_n hx hb dL_act_183 rfl (lv_at hl 1 rfl) ?_
    refine lv_bipush (v := 12) hx hb dL_act_184 (by decide) ?_
    refine lv_icmp_ne (tgt := 191) hx hb dL_act_186 (by decide) (fun c186 => ?_) (fun c186 => ?_)
    · have c186 := z_ne (a := n) (b := 12) c186 (by omega) (by omega)
      refine lv_aload_n hx hb dL_act_191 rfl (lv_at hl 3 rfl) ?_
      refine lv_iconst (v := 1) hx hb dL_act_192 (by decide) ?_
      refine lv_iload_n hx hb dL_act_193 rfl (lv_at hl 4 rfl) ?_
      refine lv_iconst (v := 2) hx hb dL_act_194 (by decide) ?_
      refine lv_ishr hx hb dL_act_195 ?_
      refine lv_bipush (v := 9) hx hb dL_act_196 (by decide) ?_
      refine z_ki (va_runS (As := [.int (x >>> (2 &&& 31)), .int 9]) (rest := [.int 1, .ref o]) hfix (zcL_below l D cI H (x >>> (2 &&& 31)) 9 (by omega) (by omega)) (va_cwS 2 hts gL_act_L_below rfl rfl rfl (by decide +kernel) ⟨Nat.le_of_ble_eq_true rfl, Nat.le_of_ble_eq_true rfl⟩) (z_preS hK1) rfl rfl hl.1 rfl (lv_room (Nat.le_of_ble_eq_true rfl)) dL_act_198 ⟨by omega, by omega⟩) ?_
      obtain ⟨a9, ha9e⟩ : ∃ a9, blN (x >>> (2 &&& 31)) 9 = a9 := ⟨_, rfl⟩
      have ha9 : a9 < 9 := ha9e ▸ blN_lt (by omega)
      refine z_toi (y := nI a9) (congrArg nI ha9e) ?_
      refine lv_iadd hx hb dL_act_201 ?_
      refine z_toi (y := nI (1 + a9)) (nI_add 1 a9) ?_
      refine lv_iconst (v := 1) hx hb dL_act_202 (by decide) ?_
      refine lv_iload_n hx hb dL_act_203 rfl (lv_at hl 4 rfl) ?_
      refine lv_iconst (v := 5) hx hb dL_act_204 (by decide) ?_
      refine lv_ishr hx hb dL_act_205 ?_
      refine lv_iconst (v := 5) hx hb dL_act_206 (by decide) ?_
      refine z_ki (va_runS (As := [.int (x >>> (5 &&& 31)), .int 5]) (rest := [.int 1, .int (nI (1 + a9)), .ref o]) hfix (zcL_below l D cI H (x >>> (5 &&& 31)) 5 (by omega) (by omega)) (va_cwS 2 hts gL_act_L_below rfl rfl rfl (by decide +kernel) ⟨Nat.le_of_ble_eq_true rfl, Nat.le_of_ble_eq_true rfl⟩) (z_preS hK1) rfl rfl hl.1 rfl (lv_room (Nat.le_of_ble_eq_true rfl)) dL_act_207 ⟨by omega, by omega⟩) ?_
      obtain ⟨b5, hb5e⟩ : ∃ b5, blN (x >>> (5 &&& 31)) 5 = b5 := ⟨_, rfl⟩
      have hb5 : b5 < 5 := hb5e ▸ blN_lt (by omega)
      refine z_toi (y := nI b5) (congrArg nI hb5e) ?_
      refine lv_iadd hx hb dL_act_210 ?_
      refine z_toi (y := nI (1 + b5)) (nI_add 1 b5) ?_
      refine z_mv (va_runV (As := [.int (nI (1 + a9)), .int (nI (1 + b5))]) (rest := []) hfix (zcX6_come l D cI cR H o t ar n B E me lo c e rd tk g (1 + a9) (1 + b5) (⟨hO, hQ, hF, hsp⟩) hI (by omega) (by omega)) (cwV 2 hts gL_act_X6_come rfl rfl rfl (by decide +kernel) ⟨Nat.le_of_ble_eq_true rfl, Nat.le_of_ble_eq_true rfl⟩) (z_kpreV hKw hK hK hO (ci := 6) (q0 := 0) rfl rfl rfl) rfl rfl hl.1 rfl (lv_room (Nat.le_of_ble_eq_true rfl)) dL_act_211 ⟨Nat.le_of_ble_eq_true rfl, Nat.le_of_ble_eq_true rfl⟩) hS (fun q _ h => by have h8 : o ≤ q := h; show b ≤ q; omega) (fun q h => by have h8 : o ≤ q := h; show b ≤ q; omega) (fun H66 lo67 hB hz1 hk1 hS => ?_)
      obtain ⟨⟨hOu68, hQu68, hFu68, hspu68⟩, hsu68⟩ := hB
      obtain ⟨⟨ho1, ho2, ho3⟩, -, -⟩ := id hspu68
      have hsz : H66.size = t + 6 := hsu68
      have hz : H.size ≤ H66.size := by omega
      have hC69 := zCW_kept hC (fun q h1 h2 h3 => hk1 q h1 (fun h8 => by have h7 : o ≤ q := h8; omega))
      refine lv_aload_n hx hb dL_act_214 rfl (lv_at hl 2 rfl) ?_
      refine lv_iconst (v := 1) hx hb dL_act_215 (by decide) ?_
      refine lv_iload_n hx hb dL_act_216 rfl (lv_at hl 4 rfl) ?_
      refine lv_iconst (v := 2) hx hb dL_act_217 (by decide) ?_
      refine lv_ishr hx hb dL_act_218 ?_
      refine lv_bipush (v := 9) hx hb dL_act_219 (by decide) ?_
      refine z_ki (va_runS (As := [.int (x >>> (2 &&& 31)), .int 9]) (rest := [.int 1, .ref b]) hfix (zcL_below l D cI H66 (x >>> (2 &&& 31)) 9 (by omega) (by omega)) (va_cwS 2 hts gL_act_L_below rfl rfl rfl (by decide +kernel) ⟨Nat.le_of_ble_eq_true rfl, Nat.le_of_ble_eq_true rfl⟩) (z_preS hK1) rfl rfl hl.1 rfl (lv_room (Nat.le_of_ble_eq_true rfl)) dL_act_221 ⟨Nat.le_of_ble_eq_true rfl, Nat.le_of_ble_eq_true rfl⟩) ?_
      refine z_toi (y := nI a9) (congrArg nI ha9e) ?_
      refine lv_iadd hx hb dL_act_224 ?_
      refine z_toi (y := nI (1 + a9)) (nI_add 1 a9) ?_
      refine lv_iconst (v := 1) hx hb dL_act_225 (by decide) ?_
      refine lv_iload_n hx hb dL_act_226 rfl (lv_at hl 4 rfl) ?_
      refine lv_iconst (v := 5) hx hb dL_act_227 (by decide) ?_
      refine lv_ishr hx hb dL_act_228 ?_
      refine lv_iconst (v := 5) hx hb dL_act_229 (by decide) ?_
      refine z_ki (va_runS (As := [.int (x >>> (5 &&& 31)), .int 5]) (rest := [.int 1, .int (nI (1 + a9)), .ref b]) hfix (zcL_below l D cI H66 (x >>> (5 &&& 31)) 5 (by omega) (by omega)) (va_cwS 2 hts gL_act_L_below rfl rfl rfl (by decide +kernel) ⟨Nat.le_of_ble_eq_true rfl, Nat.le_of_ble_eq_true rfl⟩) (z_preS hK1) rfl rfl hl.1 rfl (lv_room (Nat.le_of_ble_eq_true rfl)) dL_act_230 ⟨Nat.le_of_ble_eq_true rfl, Nat.le_of_ble_eq_true rfl⟩) ?_
      refine z_toi (y := nI b5) (congrArg nI hb5e) ?_
      refine lv_iadd hx hb dL_act_233 ?_
      refine z_toi (y := nI (1 + b5)) (nI_add 1 b5) ?_
      refine z_mi (va_runV (As := [.int (nI (1 + a9)), .int (nI (1 + b5))]) (rest := []) hfix (zcX4_come_k l D cI H66 b n me lo c e rd tk g (1 + a9) (1 + b5) hC69 hI (by omega) (by omega) (by omega) (by omega) (by omega)) (cwV 2 hts gL_act_X4_come rfl rfl rfl (by decide +kernel) ⟨Nat.le_of_ble_eq_true rfl, Nat.le_of_ble_eq_true rfl⟩) (z_preV hK hK1 hC69.1 (ci := 4) (q0 := 0) rfl rfl rfl) rfl rfl hl.1 rfl (lv_room (Nat.le_of_ble_eq_true rfl)) dL_act_234 ⟨Nat.le_of_ble_eq_true rfl, Nat.le_of_ble_eq_true rfl⟩) hS (fun q _ h => by simp only [zF] at h; show b ≤ q; omega) (fun q h => by simp only [zF] at h; show b ≤ q; omega) (fun H70 lo71 hB hz1 hk1 hS => ?_)
      have hz : H.size ≤ H70.size := by have h9 := hB.2; omega
      have hsz : H70.size = t + 6 := hB.2.trans hsz
      have hOu72 := zOb_kept hOu68 (fun q h1 h2 h3 => hk1 q h1 (by simp only [zF]; omega))
      have hQu73 := zQr_kept hQu68 (fun q h1 h2 h3 => hk1 q h1 (by simp only [zF]; omega))
      have hFu74 := zFm_kept hspu68 hFu68 (fun q h1 h2 h3 => hk1 q h1 (by simp only [zF]; omega))
      have hC75 : zCW D cI b (n + 1) (upd me n (nI (1 + a9))) (upd lo n (nI (1 + b5))) c e rd tk (wh g n 0 0) H70 := hB.1
      refine lv_iload_n hx hb dL_act_237 rfl (lv_at hl 1 rfl) ?_
      refine lv_icmp_ne (tgt := 245) hx hb dL_act_238 (by decide) (fun c238 => ?_) (fun c238 => ?_)
      · have c238 := z_ne (a := n) (b := n) c238 (by omega) (by omega)
        exact absurd rfl c238
      · have c238 := z_eq (a := n) (b := n) c238 (by omega) (by omega)
        refine lv_iconst (v := 1) hx hb dL_act_241 (by decide) ?_
        refine lv_goto (tgt := 246) hx hb dL_act_242 (by decide) ?_
        refine W.widen (k := 6) (n := 26) (by omega) (by omega) ?_
        exact z_zretM (⟨n + 1, by omega, ⟨t, zx B n (t + 1), zx E n (t + 5), upd me n (nI (1 + a9)), upd lo n (nI (1 + b5)), c, e, rd, tk, wh g n 0 0, by rw [hsz]; exact ⟨hOu72, hQu73, hFu74, hspu68⟩, hC75, zI_come hI (by omega) (by omega) (by omega) (by omega) (by omega), zJ_come hZ, zV_come hV, hN⟩⟩) hx hb hr (by decide) hlocks hS dL_act_246
    · have c186 := z_eq (a := n) (b := 12) c186 (by omega) (by omega)
      refine lv_iconst (v := 1) hx hb dL_act_189 (by decide) ?_
      refine W.widen (k := 6) (n := 26) (by omega) (by omega) ?_
      exact z_zretM (⟨n, by omega, ⟨ar, B, E, me, lo, c, e, rd, tk, g, by rw [hsz]; exact ⟨hO, hQ, hF, hsp⟩, hC, hI, hZ, hV, hN⟩⟩) hx hb hr (by decide) hlocks hS dL_act_190
  · refine lv_tableOut (x := nI w6) (tgt := 247) hx hb dL_act_22 (by rw [hsw]; decide) (by decide) ?_
    refine lv_iload_n hx hb dL_act_247 rfl (lv_at hl 4 rfl) ?_
    refine lv_iconst (v := 4) hx hb dL_act_248 (by decide) ?_
    refine lv_ishr hx hb dL_act_249 ?_
    refine lv_iconst (v := 2) hx hb dL_act_250 (by decide) ?_
    refine z_ki (va_runS (As := [.int (x >>> (4 &&& 31)), .int 2]) (rest := []) hfix (zcL_below l D cI H (x >>> (4 &&& 31)) 2 (by omega) (by omega)) (va_cwS 2 hts gL_act_L_below rfl rfl rfl (by decide +kernel) ⟨Nat.le_of_ble_eq_true rfl, Nat.le_of_ble_eq_true rfl⟩) (z_preS hK1) rfl rfl hl.1 rfl (lv_room (Nat.le_of_ble_eq_true rfl)) dL_act_251 ⟨by omega, by omega⟩) ?_
    obtain ⟨w2, hw2e⟩ : ∃ w2, blN (x >>> (4 &&& 31)) 2 = w2 := ⟨_, rfl⟩
    have hw2 : w2 < 2 := hw2e ▸ blN_lt (by omega)
    refine z_toi (y := nI w2) (congrArg nI hw2e) ?_
    refine lv_if_ne (tgt := 270) hx hb dL_act_254 (by decide) (fun c254 => ?_) (fun c254 => ?_)
    · have c254 := z_ne (a := w2) (b := 0) c254 (by omega) (by omega)
      refine lv_bipush (v := 101) hx hb dL_act_270 (by decide) ?_
      refine lv_iload_n hx hb dL_act_272 rfl (lv_at hl 4 rfl) ?_
      refine lv_iconst (v := 2) hx hb dL_act_273 (by decide) ?_
      refine lv_ishr hx hb dL_act_274 ?_
      refine lv_iconst (v := 4) hx hb dL_act_275 (by decide) ?_
      refine z_ki (va_runS (As := [.int (x >>> (2 &&& 31)), .int 4]) (rest := [.int 101]) hfix (zcL_below l D cI H (x >>> (2 &&& 31)) 4 (by omega) (by omega)) (va_cwS 2 hts gL_act_L_below rfl rfl rfl (by decide +kernel) ⟨Nat.le_of_ble_eq_true rfl, Nat.le_of_ble_eq_true rfl⟩) (z_preS hK1) rfl rfl hl.1 rfl (lv_room (Nat.le_of_ble_eq_true rfl)) dL_act_276 ⟨by omega, by omega⟩) ?_
      obtain ⟨a4, ha4e⟩ : ∃ a4, blN (x >>> (2 &&& 31)) 4 = a4 := ⟨_, rfl⟩
      have ha4 : a4 < 4 := ha4e ▸ blN_lt (by omega)
      refine z_toi (y := nI a4) (congrArg nI ha4e) ?_
      refine lv_imul hx hb dL_act_279 ?_
      refine z_toi (y := nI (a4 * 101)) ((pk_mul 101 a4).trans (congrArg nI (Nat.mul_comm _ _))) ?_
      refine lv_iload_n hx hb dL_act_280 rfl (lv_at hl 4 rfl) ?_
      refine lv_iconst (v := 5) hx hb dL_act_281 (by decide) ?_
      refine lv_ishr hx hb dL_act_282 ?_
      refine lv_iconst (v := 3) hx hb dL_act_283 (by decide) ?_
      refine z_ki (va_runS (As := [.int (x >>> (5 &&& 31)), .int 3]) (rest := [.int (nI (a4 * 101))]) hfix (zcL_below l D cI H (x >>> (5 &&& 31)) 3 (by omega) (by omega)) (va_cwS 2 hts gL_act_L_below rfl rfl rfl (by decide +kernel) ⟨Nat.le_of_ble_eq_true rfl, Nat.le_of_ble_eq_true rfl⟩) (z_preS hK1) rfl rfl hl.1 rfl (lv_room (Nat.le_of_ble_eq_true rfl)) dL_act_284 ⟨by omega, by omega⟩) ?_
      obtain ⟨b3, hb3e⟩ : ∃ b3, blN (x >>> (5 &&& 31)) 3 = b3 := ⟨_, rfl⟩
      have hb3 : b3 < 3 := hb3e ▸ blN_lt (by omega)
      refine z_toi (y := nI b3) (congrArg nI hb3e) ?_
      refine lv_iadd hx hb dL_act_287 ?_
      refine z_toi (y := nI (a4 * 101 + b3)) (nI_add (a4 * 101) b3) ?_
      refine lv_istore (lv' := [(7, .int (nI (a4 * 101 + b3))), (4, .int (nI p)), (3, .int (nI n)), (0, .ref b), (1, .ref o), (2, .int x)]) hx hb dL_act_288 hl (by decide) rfl (fun ls hl => ?_)
      refine lv_aload_n hx hb dL_act_290 rfl (lv_at hl 4 rfl) ?_
      refine va_get (D := D) (ci := 6) (v := .ref ar) (C := RX6) (T := TX6) (N := 3) hx hb hts hinX6 hown hK hO 0 rfl rfl 0 (by decide) (hts _ (List.mem_of_getElem? (i := 1) rfl)) (fun _ h9 => h9) rfl dL_act_291 ?_
      refine lv_iload hx hb dL_act_294 (lv_at hl 1 rfl) ?_
      refine z_aald (a := ar) (n := n) (f := (zbf n B)) (j := p) hx hb hK hQ 0 1 rfl rfl rfl rfl (by omega) (by omega) (zbf_in (by omega)) dL_act_296 ?_
      obtain ⟨hBdm76, hEam76⟩ := hF p (by omega)
      obtain ⟨⟨sb1m76, sb2m76⟩, ⟨se1m76, se2m76⟩, sam76⟩ := hsp.2.1 p (by omega)
      refine z_ki (va_runV (As := []) (rest := []) hfix (zcX5_word l D cI H (B p) (E p) (zcb g 0 p) (zcb g 2 p) (zcb g 4 p) (g 6 p) (me p) (lo p) hBdm76) (cwV 0 hts gL_act_X5_word rfl rfl rfl (by decide +kernel) ⟨Nat.le_of_ble_eq_true rfl, Nat.le_of_ble_eq_true rfl⟩) (z_preV hK hK1 hBdm76 (ci := 5) (q0 := 0) rfl rfl rfl) rfl rfl hl.1 rfl (lv_room (Nat.le_of_ble_eq_true rfl)) dL_act_297 ⟨by omega, by omega⟩) ?_
      refine z_toi (y := wd g p) (zb_wd g p) ?_
      refine lv_istore (lv' := [(8, .int (wd g p)), (7, .int (nI (a4 * 101 + b3))), (4, .int (nI p)), (3, .int (nI n)), (0, .ref b), (1, .ref o), (2, .int x)]) hx hb dL_act_300 hl (by decide) rfl (fun ls hl => ?_)
      refine lv_aload_n hx hb dL_act_302 rfl (lv_at hl 5 rfl) ?_
      refine va_get (D := D) (ci := 6) (v := .ref ar) (C := RX6) (T := TX6) (N := 3) hx hb hts hinX6 hown hK hO 0 rfl rfl 0 (by decide) (hts _ (List.mem_of_getElem? (i := 1) rfl)) (fun _ h9 => h9) rfl dL_act_303 ?_
      refine lv_iload hx hb dL_act_306 (lv_at hl 2 rfl) ?_
      refine z_aald (a := ar) (n := n) (f := (zbf n B)) (j := p) hx hb hK hQ 0 1 rfl rfl rfl rfl (by omega) (by omega) (zbf_in (by omega)) dL_act_308 ?_
      refine lv_iload hx hb dL_act_309 (lv_at hl 1 rfl) ?_
      refine lv_iload_n hx hb dL_act_311 rfl (lv_at hl 6 rfl) ?_
      refine lv_iconst (v := 3) hx hb dL_act_312 (by decide) ?_
      refine lv_ishr hx hb dL_act_313 ?_
      refine lv_bipush (v := 10) hx hb dL_act_314 (by decide) ?_
      refine z_ki (va_runS (As := [.int (x >>> (3 &&& 31)), .int 10]) (rest := [.int (nI (a4 * 101 + b3)), .ref (B p)]) hfix (zcL_below l D cI H (x >>> (3 &&& 31)) 10 (by omega) (by omega)) (va_cwS 2 hts gL_act_L_below rfl rfl rfl (by decide +kernel) ⟨Nat.le_of_ble_eq_true rfl, Nat.le_of_ble_eq_true rfl⟩) (z_preS hK1) rfl rfl hl.1 rfl (lv_room (Nat.le_of_ble_eq_true rfl)) dL_act_316 ⟨by omega, by omega⟩) ?_
      obtain ⟨z, hze⟩ : ∃ z, blN (x >>> (3 &&& 31)) 10 = z := ⟨_, rfl⟩
      have hz : z < 10 := hze ▸ blN_lt (by omega)
      refine z_toi (y := nI z) (congrArg nI hze) ?_
      refine z_mv (va_runV (As := [.int (nI (a4 * 101 + b3)), .int (nI z)]) (rest := []) hfix (zcX5_say l D cI H (B p) (E p) (zcb g 0 p) (zcb g 2 p) (zcb g 4 p) (g 6 p) (me p) (lo p) (nI (a4 * 101 + b3)) (nI z) hBdm76) (cwV 2 hts gL_act_X5_say rfl rfl rfl (by decide +kernel) ⟨Nat.le_of_ble_eq_true rfl, Nat.le_of_ble_eq_true rfl⟩) (z_preV hK hK1 hBdm76 (ci := 5) (q0 := 0) rfl rfl rfl) rfl rfl hl.1 rfl (lv_room (Nat.le_of_ble_eq_true rfl)) dL_act_319 ⟨by omega, by omega⟩) hS (fun q _ h => by simp only [zF] at h; show b ≤ q; omega) (fun q h => by simp only [zF] at h; show b ≤ q; omega) (fun H77 lo78 hB hz1 hk1 hS => ?_)
      have hz : H.size ≤ H77.size := by have h9 := hB.2; omega
      have hsz : H77.size = t + 0 := hB.2.trans hsz
      have hF79 : zFm D cI n B E me lo c e (wh g p (nI (a4 * 101 + b3)) (nI z)) H77 := zFm_set hsp hF (p := p) (by omega) (zBw_wh hB.1) (fun q h1 h2 => hk1 q h1 h2) (fun j hj _ => ⟨fun k _ => wh_row _ hj, rfl, rfl⟩)
      have hO80 := zOb_kept hO (fun q h1 h2 h3 => hk1 q h1 (by simp only [zF]; omega))
      have hQ81 := zQr_kept hQ (fun q h1 h2 h3 => hk1 q h1 (by simp only [zF]; omega))
      have hC82 := zCW_kept hC (fun q h1 h2 h3 => hk1 q h1 (by simp only [zF]; omega))
      refine lv_aload_n hx hb dL_act_322 rfl (lv_at hl 4 rfl) ?_
      refine lv_iload hx hb dL_act_323 (lv_at hl 2 rfl) ?_
      refine lv_iload hx hb dL_act_325 (lv_at hl 1 rfl) ?_
      refine lv_iload_n hx hb dL_act_327 rfl (lv_at hl 6 rfl) ?_
      refine lv_iconst (v := 3) hx hb dL_act_328 (by decide) ?_
      refine lv_ishr hx hb dL_act_329 ?_
      refine lv_bipush (v := 10) hx hb dL_act_330 (by decide) ?_
      refine z_ki (va_runS (As := [.int (x >>> (3 &&& 31)), .int 10]) (rest := [.int (nI (a4 * 101 + b3)), .int (nI p), .ref b]) hfix (zcL_below l D cI H77 (x >>> (3 &&& 31)) 10 (by omega) (by omega)) (va_cwS 2 hts gL_act_L_below rfl rfl rfl (by decide +kernel) ⟨Nat.le_of_ble_eq_true rfl, Nat.le_of_ble_eq_true rfl⟩) (z_preS hK1) rfl rfl hl.1 rfl (lv_room (Nat.le_of_ble_eq_true rfl)) dL_act_332 ⟨by omega, by omega⟩) ?_
      refine z_toi (y := nI z) (congrArg nI hze) ?_
      refine z_mi (va_runV (As := [.int (nI p), .int (nI (a4 * 101 + b3)), .int (nI z)]) (rest := []) hfix (zcX4_whisper_k l D cI H77 b n me lo c e rd tk g p (a4 * 101 + b3) z hC82 hI (by omega) (by omega) (by omega)) (cwV 3 hts gL_act_X4_whisper rfl rfl rfl (by decide +kernel) ⟨Nat.le_of_ble_eq_true rfl, Nat.le_of_ble_eq_true rfl⟩) (z_preV hK hK1 hC82.1 (ci := 4) (q0 := 0) rfl rfl rfl) rfl rfl hl.1 rfl (lv_room (Nat.le_of_ble_eq_true rfl)) dL_act_335 ⟨by omega, by omega⟩) hS (fun q _ h => by simp only [zF] at h; show b ≤ q; omega) (fun q h => by simp only [zF] at h; show b ≤ q; omega) (fun H83 lo84 hB hz1 hk1 hS => ?_)
      have hz : H.size ≤ H83.size := by have h9 := hB.2; omega
      have hsz : H83.size = t + 0 := hB.2.trans hsz
      have hF85 := zFm_kept hsp hF79 (fun q h1 h2 h3 => hk1 q h1 (by simp only [zF]; omega))
      have hO86 := zOb_kept hO80 (fun q h1 h2 h3 => hk1 q h1 (by simp only [zF]; omega))
      have hQ87 := zQr_kept hQ81 (fun q h1 h2 h3 => hk1 q h1 (by simp only [zF]; omega))
      have hC88 : zCW D cI b n me lo c e rd tk (wh g p (nI (a4 * 101 + b3)) (nI z)) H83 := hB.1
      refine lv_iload hx hb dL_act_338 (lv_at hl 0 rfl) ?_
      refine lv_icmp_ne (tgt := 347) hx hb dL_act_340 (by decide) (fun c340 => ?_) (fun c340 => ?_)
      · exact absurd rfl c340
      · refine lv_iconst (v := 1) hx hb dL_act_343 (by decide) ?_
        refine lv_goto (tgt := 348) hx hb dL_act_344 (by decide) ?_
        refine W.widen (k := 6) (n := 26) (by omega) (by omega) ?_
        exact z_zretM (⟨n, by omega, ⟨ar, B, E, me, lo, c, e, rd, tk, wh g p (nI (a4 * 101 + b3)) (nI z), by rw [hsz]; exact ⟨hO86, hQ87, hF85, hsp⟩, hC88, hI, zJ_wh hZ (by omega) (by omega), zV_wh hV, hN⟩⟩) hx hb hr (by decide) hlocks hS dL_act_348
    · have c254 := z_eq (a := w2) (b := 0) c254 (by omega) (by omega)
      refine lv_bipush (v := 31) hx hb dL_act_257 (by decide) ?_
      refine lv_iload_n hx hb dL_act_259 rfl (lv_at hl 4 rfl) ?_
      refine lv_imul hx hb dL_act_260 ?_
      refine lv_sipush (v := 10000) hx hb dL_act_261 (by decide) ?_
      refine z_ki (va_runS (As := [.int (31 * x), .int 10000]) (rest := []) hfix (zcL_below l D cI H (31 * x) 10000 (by omega) (by omega)) (va_cwS 2 hts gL_act_L_below rfl rfl rfl (by decide +kernel) ⟨Nat.le_of_ble_eq_true rfl, Nat.le_of_ble_eq_true rfl⟩) (z_preS hK1) rfl rfl hl.1 rfl (lv_room (Nat.le_of_ble_eq_true rfl)) dL_act_264 ⟨by omega, by omega⟩) ?_
      obtain ⟨y, hye⟩ : ∃ y, blN (31 * x) 10000 = y := ⟨_, rfl⟩
      have hy : y < 10000 := hye ▸ blN_lt (by omega)
      refine z_toi (y := nI y) (congrArg nI hye) ?_
      refine lv_goto (tgt := 288) hx hb dL_act_267 (by decide) ?_
      refine lv_istore (lv' := [(7, .int (nI y)), (4, .int (nI p)), (3, .int (nI n)), (0, .ref b), (1, .ref o), (2, .int x)]) hx hb dL_act_288 hl (by decide) rfl (fun ls hl => ?_)
      refine lv_aload_n hx hb dL_act_290 rfl (lv_at hl 4 rfl) ?_
      refine va_get (D := D) (ci := 6) (v := .ref ar) (C := RX6) (T := TX6) (N := 3) hx hb hts hinX6 hown hK hO 0 rfl rfl 0 (by decide) (hts _ (List.mem_of_getElem? (i := 1) rfl)) (fun _ h9 => h9) rfl dL_act_291 ?_
      refine lv_iload hx hb dL_act_294 (lv_at hl 1 rfl) ?_
      refine z_aald (a := ar) (n := n) (f := (zbf n B)) (j := p) hx hb hK hQ 0 1 rfl rfl rfl rfl (by omega) (by omega) (zbf_in (by omega)) dL_act_296 ?_
      obtain ⟨hBdm89, hEam89⟩ := hF p (by omega)
      obtain ⟨⟨sb1m89, sb2m89⟩, ⟨se1m89, se2m89⟩, sam89⟩ := hsp.2.1 p (by omega)
      refine z_ki (va_runV (As := []) (rest := []) hfix (zcX5_word l D cI H (B p) (E p) (zcb g 0 p) (zcb g 2 p) (zcb g 4 p) (g 6 p) (me p) (lo p) hBdm89) (cwV 0 hts gL_act_X5_word rfl rfl rfl (by decide +kernel) ⟨Nat.le_of_ble_eq_true rfl, Nat.le_of_ble_eq_true rfl⟩) (z_preV hK hK1 hBdm89 (ci := 5) (q0 := 0) rfl rfl rfl) rfl rfl hl.1 rfl (lv_room (Nat.le_of_ble_eq_true rfl)) dL_act_297 ⟨by omega, by omega⟩) ?_
      refine z_toi (y := wd g p) (zb_wd g p) ?_
      refine lv_istore (lv' := [(8, .int (wd g p)), (7, .int (nI y)), (4, .int (nI p)), (3, .int (nI n)), (0, .ref b), (1, .ref o), (2, .int x)]) hx hb dL_act_300 hl (by decide) rfl (fun ls hl => ?_)
      refine lv_aload_n hx hb dL_act_302 rfl (lv_at hl 5 rfl) ?_
      refine va_get (D := D) (ci := 6) (v := .ref ar) (C := RX6) (T := TX6) (N := 3) hx hb hts hinX6 hown hK hO 0 rfl rfl 0 (by decide) (hts _ (List.mem_of_getElem? (i := 1) rfl)) (fun _ h9 => h9) rfl dL_act_303 ?_
      refine lv_iload hx hb dL_act_306 (lv_at hl 2 rfl) ?_
      refine z_aald (a := ar) (n := n) (f := (zbf n B)) (j := p) hx hb hK hQ 0 1 rfl rfl rfl rfl (by omega) (by omega) (zbf_in (by omega)) dL_act_308 ?_
      refine lv_iload hx hb dL_act_309 (lv_at hl 1 rfl) ?_
      refine lv_iload_n hx hb dL_act_311 rfl (lv_at hl 6 rfl) ?_
      refine lv_iconst (v := 3) hx hb dL_act_312 (by decide) ?_
      refine lv_ishr hx hb dL_act_313 ?_
      refine lv_bipush (v := 10) hx hb dL_act_314 (by decide) ?_
      refine z_ki (va_runS (As := [.int (x >>> (3 &&& 31)), .int 10]) (rest := [.int (nI y), .ref (B p)]) hfix (zcL_below l D cI H (x >>> (3 &&& 31)) 10 (by omega) (by omega)) (va_cwS 2 hts gL_act_L_below rfl rfl rfl (by decide +kernel) ⟨Nat.le_of_ble_eq_true rfl, Nat.le_of_ble_eq_true rfl⟩) (z_preS hK1) rfl rfl hl.1 rfl (lv_room (Nat.le_of_ble_eq_true rfl)) dL_act_316 ⟨by omega, by omega⟩) ?_
      obtain ⟨z, hze⟩ : ∃ z, blN (x >>> (3 &&& 31)) 10 = z := ⟨_, rfl⟩
      have hz : z < 10 := hze ▸ blN_lt (by omega)
      refine z_toi (y := nI z) (congrArg nI hze) ?_
      refine z_mv (va_runV (As := [.int (nI y), .int (nI z)]) (rest := []) hfix (zcX5_say l D cI H (B p) (E p) (zcb g 0 p) (zcb g 2 p) (zcb g 4 p) (g 6 p) (me p) (lo p) (nI y) (nI z) hBdm89) (cwV 2 hts gL_act_X5_say rfl rfl rfl (by decide +kernel) ⟨Nat.le_of_ble_eq_true rfl, Nat.le_of_ble_eq_true rfl⟩) (z_preV hK hK1 hBdm89 (ci := 5) (q0 := 0) rfl rfl rfl) rfl rfl hl.1 rfl (lv_room (Nat.le_of_ble_eq_true rfl)) dL_act_319 ⟨by omega, by omega⟩) hS (fun q _ h => by simp only [zF] at h; show b ≤ q; omega) (fun q h => by simp only [zF] at h; show b ≤ q; omega) (fun H90 lo91 hB hz1 hk1 hS => ?_)
      have hz : H.size ≤ H90.size := by have h9 := hB.2; omega
      have hsz : H90.size = t + 0 := hB.2.trans hsz
      have hF92 : zFm D cI n B E me lo c e (wh g p (nI y) (nI z)) H90 := zFm_set hsp hF (p := p) (by omega) (zBw_wh hB.1) (fun q h1 h2 => hk1 q h1 h2) (fun j hj _ => ⟨fun k _ => wh_row _ hj, rfl, rfl⟩)
      have hO93 := zOb_kept hO (fun q h1 h2 h3 => hk1 q h1 (by simp only [zF]; omega))
      have hQ94 := zQr_kept hQ (fun q h1 h2 h3 => hk1 q h1 (by simp only [zF]; omega))
      have hC95 := zCW_kept hC (fun q h1 h2 h3 => hk1 q h1 (by simp only [zF]; omega))
      refine lv_aload_n hx hb dL_act_322 rfl (lv_at hl 4 rfl) ?_
      refine lv_iload hx hb dL_act_323 (lv_at hl 2 rfl) ?_
      refine lv_iload hx hb dL_act_325 (lv_at hl 1 rfl) ?_
      refine lv_iload_n hx hb dL_act_327 rfl (lv_at hl 6 rfl) ?_
      refine lv_iconst (v := 3) hx hb dL_act_328 (by decide) ?_
      refine lv_ishr hx hb dL_act_329 ?_
      refine lv_bipush (v := 10) hx hb dL_act_330 (by decide) ?_
      refine z_ki (va_runS (As := [.int (x >>> (3 &&& 31)), .int 10]) (rest := [.int (nI y), .int (nI p), .ref b]) hfix (zcL_below l D cI H90 (x >>> (3 &&& 31)) 10 (by omega) (by omega)) (va_cwS 2 hts gL_act_L_below rfl rfl rfl (by decide +kernel) ⟨Nat.le_of_ble_eq_true rfl, Nat.le_of_ble_eq_true rfl⟩) (z_preS hK1) rfl rfl hl.1 rfl (lv_room (Nat.le_of_ble_eq_true rfl)) dL_act_332 ⟨by omega, by omega⟩) ?_
      refine z_toi (y := nI z) (congrArg nI hze) ?_
      refine z_mi (va_runV (As := [.int (nI p), .int (nI y), .int (nI z)]) (rest := []) hfix (zcX4_whisper_k l D cI H90 b n me lo c e rd tk g p y z hC95 hI (by omega) (by omega) (by omega)) (cwV 3 hts gL_act_X4_whisper rfl rfl rfl (by decide +kernel) ⟨Nat.le_of_ble_eq_true rfl, Nat.le_of_ble_eq_true rfl⟩) (z_preV hK hK1 hC95.1 (ci := 4) (q0 := 0) rfl rfl rfl) rfl rfl hl.1 rfl (lv_room (Nat.le_of_ble_eq_true rfl)) dL_act_335 ⟨by omega, by omega⟩) hS (fun q _ h => by simp only [zF] at h; show b ≤ q; omega) (fun q h => by simp only [zF] at h; show b ≤ q; omega) (fun H96 lo97 hB hz1 hk1 hS => ?_)
      have hz : H.size ≤ H96.size := by have h9 := hB.2; omega
      have hsz : H96.size = t + 0 := hB.2.trans hsz
      have hF98 := zFm_kept hsp hF92 (fun q h1 h2 h3 => hk1 q h1 (by simp only [zF]; omega))
      have hO99 := zOb_kept hO93 (fun q h1 h2 h3 => hk1 q h1 (by simp only [zF]; omega))
      have hQ100 := zQr_kept hQ94 (fun q h1 h2 h3 => hk1 q h1 (by simp only [zF]; omega))
      have hC101 : zCW D cI b n me lo c e rd tk (wh g p (nI y) (nI z)) H96 := hB.1
      refine lv_iload hx hb dL_act_338 (lv_at hl 0 rfl) ?_
      refine lv_icmp_ne (tgt := 347) hx hb dL_act_340 (by decide) (fun c340 => ?_) (fun c340 => ?_)
      · exact absurd rfl c340
      · refine lv_iconst (v := 1) hx hb dL_act_343 (by decide) ?_
        refine lv_goto (tgt := 348) hx hb dL_act_344 (by decide) ?_
        refine W.widen (k := 6) (n := 26) (by omega) (by omega) ?_
        exact z_zretM (⟨n, by omega, ⟨ar, B, E, me, lo, c, e, rd, tk, wh g p (nI y) (nI z), by rw [hsz]; exact ⟨hO99, hQ100, hF98, hsp⟩, hC101, hI, zJ_wh hZ (by omega) (by omega), zV_wh hV, hN⟩⟩) hx hb hr (by decide) hlocks hS dL_act_348
  · refine lv_tableOut (x := nI w6) (tgt := 247) hx hb dL_act_22 (by rw [hsw]; decide) (by decide) ?_
    refine lv_iload_n hx hb dL_act_247 rfl (lv_at hl 4 rfl) ?_
    refine lv_iconst (v := 4) hx hb dL_act_248 (by decide) ?_
    refine lv_ishr hx hb dL_act_249 ?_
    refine lv_iconst (v := 2) hx hb dL_act_250 (by decide) ?_
    refine z_ki (va_runS (As := [.int (x >>> (4 &&& 31)), .int 2]) (rest := []) hfix (zcL_below l D cI H (x >>> (4 &&& 31)) 2 (by omega) (by omega)) (va_cwS 2 hts gL_act_L_below rfl rfl rfl (by decide +kernel) ⟨Nat.le_of_ble_eq_true rfl, Nat.le_of_ble_eq_true rfl⟩) (z_preS hK1) rfl rfl hl.1 rfl (lv_room (Nat.le_of_ble_eq_true rfl)) dL_act_251 ⟨by omega, by omega⟩) ?_
    obtain ⟨w2, hw2e⟩ : ∃ w2, blN (x >>> (4 &&& 31)) 2 = w2 := ⟨_, rfl⟩
    have hw2 : w2 < 2 := hw2e ▸ blN_lt (by omega)
    refine z_toi (y := nI w2) (congrArg nI hw2e) ?_
    refine lv_if_ne (tgt := 270) hx hb dL_act_254 (by decide) (fun c254 => ?_) (fun c254 => ?_)
    · have c254 := z_ne (a := w2) (b := 0) c254 (by omega) (by omega)
      refine lv_bipush (v := 101) hx hb dL_act_270 (by decide) ?_
      refine lv_iload_n hx hb dL_act_272 rfl (lv_at hl 4 rfl) ?_
      refine lv_iconst (v := 2) hx hb dL_act_273 (by decide) ?_
      refine lv_ishr hx hb dL_act_274 ?_
      refine lv_iconst (v := 4) hx hb dL_act_275 (by decide) ?_
      refine z_ki (va_runS (As := [.int (x >>> (2 &&& 31)), .int 4]) (rest := [.int 101]) hfix (zcL_below l D cI H (x >>> (2 &&& 31)) 4 (by omega) (by omega)) (va_cwS 2 hts gL_act_L_below rfl rfl rfl (by decide +kernel) ⟨Nat.le_of_ble_eq_true rfl, Nat.le_of_ble_eq_true rfl⟩) (z_preS hK1) rfl rfl hl.1 rfl (lv_room (Nat.le_of_ble_eq_true rfl)) dL_act_276 ⟨by omega, by omega⟩) ?_
      obtain ⟨a4, ha4e⟩ : ∃ a4, blN (x >>> (2 &&& 31)) 4 = a4 := ⟨_, rfl⟩
      have ha4 : a4 < 4 := ha4e ▸ blN_lt (by omega)
      refine z_toi (y := nI a4) (congrArg nI ha4e) ?_
      refine lv_imul hx hb dL_act_279 ?_
      refine z_toi (y := nI (a4 * 101)) ((pk_mul 101 a4).trans (congrArg nI (Nat.mul_comm _ _))) ?_
      refine lv_iload_n hx hb dL_act_280 rfl (lv_at hl 4 rfl) ?_
      refine lv_iconst (v := 5) hx hb dL_act_281 (by decide) ?_
      refine lv_ishr hx hb dL_act_282 ?_
      refine lv_iconst (v := 3) hx hb dL_act_283 (by decide) ?_
      refine z_ki (va_runS (As := [.int (x >>> (5 &&& 31)), .int 3]) (rest := [.int (nI (a4 * 101))]) hfix (zcL_below l D cI H (x >>> (5 &&& 31)) 3 (by omega) (by omega)) (va_cwS 2 hts gL_act_L_below rfl rfl rfl (by decide +kernel) ⟨Nat.le_of_ble_eq_true rfl, Nat.le_of_ble_eq_true rfl⟩) (z_preS hK1) rfl rfl hl.1 rfl (lv_room (Nat.le_of_ble_eq_true rfl)) dL_act_284 ⟨by omega, by omega⟩) ?_
      obtain ⟨b3, hb3e⟩ : ∃ b3, blN (x >>> (5 &&& 31)) 3 = b3 := ⟨_, rfl⟩
      have hb3 : b3 < 3 := hb3e ▸ blN_lt (by omega)
      refine z_toi (y := nI b3) (congrArg nI hb3e) ?_
      refine lv_iadd hx hb dL_act_287 ?_
      refine z_toi (y := nI (a4 * 101 + b3)) (nI_add (a4 * 101) b3) ?_
      refine lv_istore (lv' := [(7, .int (nI (a4 * 101 + b3))), (4, .int (nI p)), (3, .int (nI n)), (0, .ref b), (1, .ref o), (2, .int x)]) hx hb dL_act_288 hl (by decide) rfl (fun ls hl => ?_)
      refine lv_aload_n hx hb dL_act_290 rfl (lv_at hl 4 rfl) ?_
      refine va_get (D := D) (ci := 6) (v := .ref ar) (C := RX6) (T := TX6) (N := 3) hx hb hts hinX6 hown hK hO 0 rfl rfl 0 (by decide) (hts _ (List.mem_of_getElem? (i := 1) rfl)) (fun _ h9 => h9) rfl dL_act_291 ?_
      refine lv_iload hx hb dL_act_294 (lv_at hl 1 rfl) ?_
      refine z_aald (a := ar) (n := n) (f := (zbf n B)) (j := p) hx hb hK hQ 0 1 rfl rfl rfl rfl (by omega) (by omega) (zbf_in (by omega)) dL_act_296 ?_
      obtain ⟨hBdm102, hEam102⟩ := hF p (by omega)
      obtain ⟨⟨sb1m102, sb2m102⟩, ⟨se1m102, se2m102⟩, sam102⟩ := hsp.2.1 p (by omega)
      refine z_ki (va_runV (As := []) (rest := []) hfix (zcX5_word l D cI H (B p) (E p) (zcb g 0 p) (zcb g 2 p) (zcb g 4 p) (g 6 p) (me p) (lo p) hBdm102) (cwV 0 hts gL_act_X5_word rfl rfl rfl (by decide +kernel) ⟨Nat.le_of_ble_eq_true rfl, Nat.le_of_ble_eq_true rfl⟩) (z_preV hK hK1 hBdm102 (ci := 5) (q0 := 0) rfl rfl rfl) rfl rfl hl.1 rfl (lv_room (Nat.le_of_ble_eq_true rfl)) dL_act_297 ⟨by omega, by omega⟩) ?_
      refine z_toi (y := wd g p) (zb_wd g p) ?_
      refine lv_istore (lv' := [(8, .int (wd g p)), (7, .int (nI (a4 * 101 + b3))), (4, .int (nI p)), (3, .int (nI n)), (0, .ref b), (1, .ref o), (2, .int x)]) hx hb dL_act_300 hl (by decide) rfl (fun ls hl => ?_)
      refine lv_aload_n hx hb dL_act_302 rfl (lv_at hl 5 rfl) ?_
      refine va_get (D := D) (ci := 6) (v := .ref ar) (C := RX6) (T := TX6) (N := 3) hx hb hts hinX6 hown hK hO 0 rfl rfl 0 (by decide) (hts _ (List.mem_of_getElem? (i := 1) rfl)) (fun _ h9 => h9) rfl dL_act_303 ?_
      refine lv_iload hx hb dL_act_306 (lv_at hl 2 rfl) ?_
      refine z_aald (a := ar) (n := n) (f := (zbf n B)) (j := p) hx hb hK hQ 0 1 rfl rfl rfl rfl (by omega) (by omega) (zbf_in (by omega)) dL_act_308 ?_
      refine lv_iload hx hb dL_act_309 (lv_at hl 1 rfl) ?_
      refine lv_iload_n hx hb dL_act_311 rfl (lv_at hl 6 rfl) ?_
      refine lv_iconst (v := 3) hx hb dL_act_312 (by decide) ?_
      refine lv_ishr hx hb dL_act_313 ?_
      refine lv_bipush (v := 10) hx hb dL_act_314 (by decide) ?_
      refine z_ki (va_runS (As := [.int (x >>> (3 &&& 31)), .int 10]) (rest := [.int (nI (a4 * 101 + b3)), .ref (B p)]) hfix (zcL_below l D cI H (x >>> (3 &&& 31)) 10 (by omega) (by omega)) (va_cwS 2 hts gL_act_L_below rfl rfl rfl (by decide +kernel) ⟨Nat.le_of_ble_eq_true rfl, Nat.le_of_ble_eq_true rfl⟩) (z_preS hK1) rfl rfl hl.1 rfl (lv_room (Nat.le_of_ble_eq_true rfl)) dL_act_316 ⟨by omega, by omega⟩) ?_
      obtain ⟨z, hze⟩ : ∃ z, blN (x >>> (3 &&& 31)) 10 = z := ⟨_, rfl⟩
      have hz : z < 10 := hze ▸ blN_lt (by omega)
      refine z_toi (y := nI z) (congrArg nI hze) ?_
      refine z_mv (va_runV (As := [.int (nI (a4 * 101 + b3)), .int (nI z)]) (rest := []) hfix (zcX5_say l D cI H (B p) (E p) (zcb g 0 p) (zcb g 2 p) (zcb g 4 p) (g 6 p) (me p) (lo p) (nI (a4 * 101 + b3)) (nI z) hBdm102) (cwV 2 hts gL_act_X5_say rfl rfl rfl (by decide +kernel) ⟨Nat.le_of_ble_eq_true rfl, Nat.le_of_ble_eq_true rfl⟩) (z_preV hK hK1 hBdm102 (ci := 5) (q0 := 0) rfl rfl rfl) rfl rfl hl.1 rfl (lv_room (Nat.le_of_ble_eq_true rfl)) dL_act_319 ⟨by omega, by omega⟩) hS (fun q _ h => by simp only [zF] at h; show b ≤ q; omega) (fun q h => by simp only [zF] at h; show b ≤ q; omega) (fun H103 lo104 hB hz1 hk1 hS => ?_)
      have hz : H.size ≤ H103.size := by have h9 := hB.2; omega
      have hsz : H103.size = t + 0 := hB.2.trans hsz
      have hF105 : zFm D cI n B E me lo c e (wh g p (nI (a4 * 101 + b3)) (nI z)) H103 := zFm_set hsp hF (p := p) (by omega) (zBw_wh hB.1) (fun q h1 h2 => hk1 q h1 h2) (fun j hj _ => ⟨fun k _ => wh_row _ hj, rfl, rfl⟩)
      have hO106 := zOb_kept hO (fun q h1 h2 h3 => hk1 q h1 (by simp only [zF]; omega))
      have hQ107 := zQr_kept hQ (fun q h1 h2 h3 => hk1 q h1 (by simp only [zF]; omega))
      have hC108 := zCW_kept hC (fun q h1 h2 h3 => hk1 q h1 (by simp only [zF]; omega))
      refine lv_aload_n hx hb dL_act_322 rfl (lv_at hl 4 rfl) ?_
      refine lv_iload hx hb dL_act_323 (lv_at hl 2 rfl) ?_
      refine lv_iload hx hb dL_act_325 (lv_at hl 1 rfl) ?_
      refine lv_iload_n hx hb dL_act_327 rfl (lv_at hl 6 rfl) ?_
      refine lv_iconst (v := 3) hx hb dL_act_328 (by decide) ?_
      refine lv_ishr hx hb dL_act_329 ?_
      refine lv_bipush (v := 10) hx hb dL_act_330 (by decide) ?_
      refine z_ki (va_runS (As := [.int (x >>> (3 &&& 31)), .int 10]) (rest := [.int (nI (a4 * 101 + b3)), .int (nI p), .ref b]) hfix (zcL_below l D cI H103 (x >>> (3 &&& 31)) 10 (by omega) (by omega)) (va_cwS 2 hts gL_act_L_below rfl rfl rfl (by decide +kernel) ⟨Nat.le_of_ble_eq_true rfl, Nat.le_of_ble_eq_true rfl⟩) (z_preS hK1) rfl rfl hl.1 rfl (lv_room (Nat.le_of_ble_eq_true rfl)) dL_act_332 ⟨by omega, by omega⟩) ?_
      refine z_toi (y := nI z) (congrArg nI hze) ?_
      refine z_mi (va_runV (As := [.int (nI p), .int (nI (a4 * 101 + b3)), .int (nI z)]) (rest := []) hfix (zcX4_whisper_k l D cI H103 b n me lo c e rd tk g p (a4 * 101 + b3) z hC108 hI (by omega) (by omega) (by omega)) (cwV 3 hts gL_act_X4_whisper rfl rfl rfl (by decide +kernel) ⟨Nat.le_of_ble_eq_true rfl, Nat.le_of_ble_eq_true rfl⟩) (z_preV hK hK1 hC108.1 (ci := 4) (q0 := 0) rfl rfl rfl) rfl rfl hl.1 rfl (lv_room (Nat.le_of_ble_eq_true rfl)) dL_act_335 ⟨by omega, by omega⟩) hS (fun q _ h => by simp only [zF] at h; show b ≤ q; omega) (fun q h => by simp only [zF] at h; show b ≤ q; omega) (fun H109 lo110 hB hz1 hk1 hS => ?_)
      have hz : H.size ≤ H109.size := by have h9 := hB.2; omega
      have hsz : H109.size = t + 0 := hB.2.trans hsz
      have hF111 := zFm_kept hsp hF105 (fun q h1 h2 h3 => hk1 q h1 (by simp only [zF]; omega))
      have hO112 := zOb_kept hO106 (fun q h1 h2 h3 => hk1 q h1 (by simp only [zF]; omega))
      have hQ113 := zQr_kept hQ107 (fun q h1 h2 h3 => hk1 q h1 (by simp only [zF]; omega))
      have hC114 : zCW D cI b n me lo c e rd tk (wh g p (nI (a4 * 101 + b3)) (nI z)) H109 := hB.1
      refine lv_iload hx hb dL_act_338 (lv_at hl 0 rfl) ?_
      refine lv_icmp_ne (tgt := 347) hx hb dL_act_340 (by decide) (fun c340 => ?_) (fun c340 => ?_)
      · exact absurd rfl c340
      · refine lv_iconst (v := 1) hx hb dL_act_343 (by decide) ?_
        refine lv_goto (tgt := 348) hx hb dL_act_344 (by decide) ?_
        refine W.widen (k := 6) (n := 26) (by omega) (by omega) ?_
        exact z_zretM (⟨n, by omega, ⟨ar, B, E, me, lo, c, e, rd, tk, wh g p (nI (a4 * 101 + b3)) (nI z), by rw [hsz]; exact ⟨hO112, hQ113, hF111, hsp⟩, hC114, hI, zJ_wh hZ (by omega) (by omega), zV_wh hV, hN⟩⟩) hx hb hr (by decide) hlocks hS dL_act_348
    · have c254 := z_eq (a := w2) (b := 0) c254 (by omega) (by omega)
      refine lv_bipush (v := 31) hx hb dL_act_257 (by decide) ?_
      refine lv_iload_n hx hb dL_act_259 rfl (lv_at hl 4 rfl) ?_
      refine lv_imul hx hb dL_act_260 ?_
      refine lv_sipush (v := 10000) hx hb dL_act_261 (by decide) ?_
      refine z_ki (va_runS (As := [.int (31 * x), .int 10000]) (rest := []) hfix (zcL_below l D cI H (31 * x) 10000 (by omega) (by omega)) (va_cwS 2 hts gL_act_L_below rfl rfl rfl (by decide +kernel) ⟨Nat.le_of_ble_eq_true rfl, Nat.le_of_ble_eq_true rfl⟩) (z_preS hK1) rfl rfl hl.1 rfl (lv_room (Nat.le_of_ble_eq_true rfl)) dL_act_264 ⟨by omega, by omega⟩) ?_
      obtain ⟨y, hye⟩ : ∃ y, blN (31 * x) 10000 = y := ⟨_, rfl⟩
      have hy : y < 10000 := hye ▸ blN_lt (by omega)
      refine z_toi (y := nI y) (congrArg nI hye) ?_
      refine lv_goto (tgt := 288) hx hb dL_act_267 (by decide) ?_
      refine lv_istore (lv' := [(7, .int (nI y)), (4, .int (nI p)), (3, .int (nI n)), (0, .ref b), (1, .ref o), (2, .int x)]) hx hb dL_act_288 hl (by decide) rfl (fun ls hl => ?_)
      refine lv_aload_n hx hb dL_act_290 rfl (lv_at hl 4 rfl) ?_
      refine va_get (D := D) (ci := 6) (v := .ref ar) (C := RX6) (T := TX6) (N := 3) hx hb hts hinX6 hown hK hO 0 rfl rfl 0 (by decide) (hts _ (List.mem_of_getElem? (i := 1) rfl)) (fun _ h9 => h9) rfl dL_act_291 ?_
      refine lv_iload hx hb dL_act_294 (lv_at hl 1 rfl) ?_
      refine z_aald (a := ar) (n := n) (f := (zbf n B)) (j := p) hx hb hK hQ 0 1 rfl rfl rfl rfl (by omega) (by omega) (zbf_in (by omega)) dL_act_296 ?_
      obtain ⟨hBdm115, hEam115⟩ := hF p (by omega)
      obtain ⟨⟨sb1m115, sb2m115⟩, ⟨se1m115, se2m115⟩, sam115⟩ := hsp.2.1 p (by omega)
      refine z_ki (va_runV (As := []) (rest := []) hfix (zcX5_word l D cI H (B p) (E p) (zcb g 0 p) (zcb g 2 p) (zcb g 4 p) (g 6 p) (me p) (lo p) hBdm115) (cwV 0 hts gL_act_X5_word rfl rfl rfl (by decide +kernel) ⟨Nat.le_of_ble_eq_true rfl, Nat.le_of_ble_eq_true rfl⟩) (z_preV hK hK1 hBdm115 (ci := 5) (q0 := 0) rfl rfl rfl) rfl rfl hl.1 rfl (lv_room (Nat.le_of_ble_eq_true rfl)) dL_act_297 ⟨by omega, by omega⟩) ?_
      refine z_toi (y := wd g p) (zb_wd g p) ?_
      refine lv_istore (lv' := [(8, .int (wd g p)), (7, .int (nI y)), (4, .int (nI p)), (3, .int (nI n)), (0, .ref b), (1, .ref o), (2, .int x)]) hx hb dL_act_300 hl (by decide) rfl (fun ls hl => ?_)
      refine lv_aload_n hx hb dL_act_302 rfl (lv_at hl 5 rfl) ?_
      refine va_get (D := D) (ci := 6) (v := .ref ar) (C := RX6) (T := TX6) (N := 3) hx hb hts hinX6 hown hK hO 0 rfl rfl 0 (by decide) (hts _ (List.mem_of_getElem? (i := 1) rfl)) (fun _ h9 => h9) rfl dL_act_303 ?_
      refine lv_iload hx hb dL_act_306 (lv_at hl 2 rfl) ?_
      refine z_aald (a := ar) (n := n) (f := (zbf n B)) (j := p) hx hb hK hQ 0 1 rfl rfl rfl rfl (by omega) (by omega) (zbf_in (by omega)) dL_act_308 ?_
      refine lv_iload hx hb dL_act_309 (lv_at hl 1 rfl) ?_
      refine lv_iload_n hx hb dL_act_311 rfl (lv_at hl 6 rfl) ?_
      refine lv_iconst (v := 3) hx hb dL_act_312 (by decide) ?_
      refine lv_ishr hx hb dL_act_313 ?_
      refine lv_bipush (v := 10) hx hb dL_act_314 (by decide) ?_
      refine z_ki (va_runS (As := [.int (x >>> (3 &&& 31)), .int 10]) (rest := [.int (nI y), .ref (B p)]) hfix (zcL_below l D cI H (x >>> (3 &&& 31)) 10 (by omega) (by omega)) (va_cwS 2 hts gL_act_L_below rfl rfl rfl (by decide +kernel) ⟨Nat.le_of_ble_eq_true rfl, Nat.le_of_ble_eq_true rfl⟩) (z_preS hK1) rfl rfl hl.1 rfl (lv_room (Nat.le_of_ble_eq_true rfl)) dL_act_316 ⟨by omega, by omega⟩) ?_
      obtain ⟨z, hze⟩ : ∃ z, blN (x >>> (3 &&& 31)) 10 = z := ⟨_, rfl⟩
      have hz : z < 10 := hze ▸ blN_lt (by omega)
      refine z_toi (y := nI z) (congrArg nI hze) ?_
      refine z_mv (va_runV (As := [.int (nI y), .int (nI z)]) (rest := []) hfix (zcX5_say l D cI H (B p) (E p) (zcb g 0 p) (zcb g 2 p) (zcb g 4 p) (g 6 p) (me p) (lo p) (nI y) (nI z) hBdm115) (cwV 2 hts gL_act_X5_say rfl rfl rfl (by decide +kernel) ⟨Nat.le_of_ble_eq_true rfl, Nat.le_of_ble_eq_true rfl⟩) (z_preV hK hK1 hBdm115 (ci := 5) (q0 := 0) rfl rfl rfl) rfl rfl hl.1 rfl (lv_room (Nat.le_of_ble_eq_true rfl)) dL_act_319 ⟨by omega, by omega⟩) hS (fun q _ h => by simp only [zF] at h; show b ≤ q; omega) (fun q h => by simp only [zF] at h; show b ≤ q; omega) (fun H116 lo117 hB hz1 hk1 hS => ?_)
      have hz : H.size ≤ H116.size := by have h9 := hB.2; omega
      have hsz : H116.size = t + 0 := hB.2.trans hsz
      have hF118 : zFm D cI n B E me lo c e (wh g p (nI y) (nI z)) H116 := zFm_set hsp hF (p := p) (by omega) (zBw_wh hB.1) (fun q h1 h2 => hk1 q h1 h2) (fun j hj _ => ⟨fun k _ => wh_row _ hj, rfl, rfl⟩)
      have hO119 := zOb_kept hO (fun q h1 h2 h3 => hk1 q h1 (by simp only [zF]; omega))
      have hQ120 := zQr_kept hQ (fun q h1 h2 h3 => hk1 q h1 (by simp only [zF]; omega))
      have hC121 := zCW_kept hC (fun q h1 h2 h3 => hk1 q h1 (by simp only [zF]; omega))
      refine lv_aload_n hx hb dL_act_322 rfl (lv_at hl 4 rfl) ?_
      refine lv_iload hx hb dL_act_323 (lv_at hl 2 rfl) ?_
      refine lv_iload hx hb dL_act_325 (lv_at hl 1 rfl) ?_
      refine lv_iload_n hx hb dL_act_327 rfl (lv_at hl 6 rfl) ?_
      refine lv_iconst (v := 3) hx hb dL_act_328 (by decide) ?_
      refine lv_ishr hx hb dL_act_329 ?_
      refine lv_bipush (v := 10) hx hb dL_act_330 (by decide) ?_
      refine z_ki (va_runS (As := [.int (x >>> (3 &&& 31)), .int 10]) (rest := [.int (nI y), .int (nI p), .ref b]) hfix (zcL_below l D cI H116 (x >>> (3 &&& 31)) 10 (by omega) (by omega)) (va_cwS 2 hts gL_act_L_below rfl rfl rfl (by decide +kernel) ⟨Nat.le_of_ble_eq_true rfl, Nat.le_of_ble_eq_true rfl⟩) (z_preS hK1) rfl rfl hl.1 rfl (lv_room (Nat.le_of_ble_eq_true rfl)) dL_act_332 ⟨by omega, by omega⟩) ?_
      refine z_toi (y := nI z) (congrArg nI hze) ?_
      refine z_mi (va_runV (As := [.int (nI p), .int (nI y), .int (nI z)]) (rest := []) hfix (zcX4_whisper_k l D cI H116 b n me lo c e rd tk g p y z hC121 hI (by omega) (by omega) (by omega)) (cwV 3 hts gL_act_X4_whisper rfl rfl rfl (by decide +kernel) ⟨Nat.le_of_ble_eq_true rfl, Nat.le_of_ble_eq_true rfl⟩) (z_preV hK hK1 hC121.1 (ci := 4) (q0 := 0) rfl rfl rfl) rfl rfl hl.1 rfl (lv_room (Nat.le_of_ble_eq_true rfl)) dL_act_335 ⟨by omega, by omega⟩) hS (fun q _ h => by simp only [zF] at h; show b ≤ q; omega) (fun q h => by simp only [zF] at h; show b ≤ q; omega) (fun H122 lo123 hB hz1 hk1 hS => ?_)
      have hz : H.size ≤ H122.size := by have h9 := hB.2; omega
      have hsz : H122.size = t + 0 := hB.2.trans hsz
      have hF124 := zFm_kept hsp hF118 (fun q h1 h2 h3 => hk1 q h1 (by simp only [zF]; omega))
      have hO125 := zOb_kept hO119 (fun q h1 h2 h3 => hk1 q h1 (by simp only [zF]; omega))
      have hQ126 := zQr_kept hQ120 (fun q h1 h2 h3 => hk1 q h1 (by simp only [zF]; omega))
      have hC127 : zCW D cI b n me lo c e rd tk (wh g p (nI y) (nI z)) H122 := hB.1
      refine lv_iload hx hb dL_act_338 (lv_at hl 0 rfl) ?_
      refine lv_icmp_ne (tgt := 347) hx hb dL_act_340 (by decide) (fun c340 => ?_) (fun c340 => ?_)
      · exact absurd rfl c340
      · refine lv_iconst (v := 1) hx hb dL_act_343 (by decide) ?_
        refine lv_goto (tgt := 348) hx hb dL_act_344 (by decide) ?_
        refine W.widen (k := 6) (n := 26) (by omega) (by omega) ?_
        exact z_zretM (⟨n, by omega, ⟨ar, B, E, me, lo, c, e, rd, tk, wh g p (nI y) (nI z), by rw [hsz]; exact ⟨hO125, hQ126, hF124, hsp⟩, hC127, hI, zJ_wh hZ (by omega) (by omega), zV_wh hV, hN⟩⟩) hx hb hr (by decide) hlocks hS dL_act_348
