set_option maxHeartbeats 4000000 in
set_option maxRecDepth 100000 in
/-- Sim.pass -/
theorem zcX6_pass (l : Launch) (D : va_G) (cI : ClassId) (cR : ClassId) (H : Heap) (o : Nat) (t : Nat) (ar : Nat) (n : Nat) (B : Nat → Nat) (E : Nat → Nat) (me : Nat → Int32) (lo : Nat → Int32) (c : Nat → Nat) (e : Nat → Nat) (rd : Int32) (tk : Int32) (g : zG) (hSm : zSm D cI cR o t ar n B E me lo c e rd tk g H) (hI : zI n me lo c e) (hsz : H.size = t) (hZ : zJ n g) (hV : zV n g) : Met l yX6_pass wsX6_pass ({ frames := 3, cells := 61, slots := 168, locals := 54 } : Room) (zPk D [(cI, .int), (cR, .object zBC)] H [.ref o]) (zM (fun H1 => zSm D cI cR o (t + 1 + 5 * n) t n (zN t) E me lo c e (rN n me lo c e (rd, tk, g) 1).1 (rN n me lo c e (rd, tk, g) 1).2.1 (rN n me lo c e (rd, tk, g) 1).2.2 H1 ∧ H1.size = t + 1 + 5 * n) (some (.int ((hA lo c e g (0, g) n).1))) (fun q => q = o ∨ t ≤ q)) 61 168 (fun q => q = o ∨ t ≤ q) := by
  refine z_kenter (cc := cX6_pass) (maxL := 8) (ret := (some .int)) (by decide) rfl (Nat.le_of_ble_eq_true rfl) ?_
  intro pg ev s m args below meth cd hfix hr hlocks hname hK hHs hKw ls hl
  have hK1 : va_K D vwCl [(cI, .int)] s := hK.sub [0] rfl
  obtain ⟨hx, hb, hml, hown, hts⟩ := id hfix
  have hl : lv_has ls 8 [(0, .ref o)] := hl
  have hS : va_S (fun q => q = o ∨ t ≤ q) s.heap H [] := by rw [hHs]; exact va_S.rf
  have hz : H.size ≤ H.size := Nat.le_refl _
  have hinX5 : ∀ w ∈ wsX50, w ∈ wsX6_pass := by decide +kernel
  have hinX6 : ∀ w ∈ wsX60, w ∈ wsX6_pass := by decide +kernel
  obtain ⟨hO, hQ, hF, hsp⟩ := id hSm
  obtain ⟨⟨ho1, ho2, ho3⟩, -, -⟩ := id hsp
  have hn := zI_n hI
  refine lv_aload_n hx hb dX6_pass_0 rfl (lv_at hl 0 rfl) ?_
  refine va_get (D := D) (ci := 6) (v := .ref ar) (C := RX6) (T := TX6) (N := 3) hx hb hts hinX6 hown hK hO 0 rfl rfl 0 (by decide) (hts _ (List.mem_of_getElem? (i := 1) rfl)) (fun _ h9 => h9) rfl dX6_pass_1 ?_
  refine z_qlen (n := n) (f := (zbf n B)) hx hb hK hQ 0 1 rfl rfl dX6_pass_4 ?_
  refine z_newq (N := n) (C := RX5) hx hb hown (hts _ (List.mem_of_getElem? (i := 2) rfl)) hKw.1 hK 1 rfl rfl (by omega) (by show _ ≤ 61; omega) (by show _ ≤ 168; omega) dX6_pass_5 (h := t + 0) hsz (fun H1 hQn2 hz1 hk1 => ?_)
  have hS := z_Sgrow hS (by omega) (fun q h => hk1 q (by omega))
  have hsz : H1.size = t + 1 := by omega
  have hz : H.size ≤ H1.size := by omega
  have hO3 := zOb_kept hO (fun q h1 h2 h3 => (fun q (h9 : q < H.size) (_ : True) => hk1 q (by omega)) q h1 (trivial))
  have hQ4 := zQr_kept hQ (fun q h1 h2 h3 => (fun q (h9 : q < H.size) (_ : True) => hk1 q (by omega)) q h1 (trivial))
  have hF5 := zFm_kept hsp hF (fun q h1 h2 h3 => (fun q (h9 : q < H.size) (_ : True) => hk1 q (by omega)) q h1 (trivial))
  refine lv_astore_n (lv' := [(1, .ref t), (0, .ref o)]) hx hb dX6_pass_8 rfl hl (by decide) rfl (fun ls hl => ?_)
  have hFN0 : zFm D cI 0 (zN t) E me lo c e (zgP n me lo c e rd tk g) H1 := zFmN_0
  have hkn : (0 : Nat) ≤ n := Nat.zero_le _
  refine lv_iconst (v := 0) hx hb dX6_pass_9 (by decide) ?_
  refine lv_istore_n (lv' := [(2, .int 0), (1, .ref t), (0, .ref o)]) hx hb dX6_pass_10 rfl hl (by decide) rfl (fun ls hl => ?_)
  refine lv_iconst (v := 0) hx hb dX6_pass_11 (by decide) ?_
  refine lv_istore_n (lv' := [(3, .int 0), (2, .int 0), (1, .ref t), (0, .ref o)]) hx hb dX6_pass_12 rfl hl (by decide) rfl (fun ls hl => ?_)
  have loop13 : ∀ (fu : Nat) (k : Nat), n - k < fu → (k ≤ n) → ∀ (x3 : Int32), x3 = (nI k) → ∀ (x2 : Int32), x2 = ((hA lo c e g (0, g) k).1) → ∀ (H6 : Heap) (lo7 : List Loc), va_P D vwCl [(o, .inr (6, [.ref ar, .int rd, .int tk]))] H6 → va_P D vwCl (zQr cR ar n (zbf n B)) H6 → zFm D cI n B E me lo c e g H6 → va_P D vwCl (zQr cR t n (zbf k (zN t))) H6 → zFm D cI k (zN t) E me lo c e (zgP n me lo c e rd tk g) H6 → (H6.size = t + 1 + 5 * k) → H.size ≤ H6.size → va_S (fun q => q = o ∨ t ≤ q) s.heap H6 lo7 → ∀ ls : Array Slot, lv_has ls 8 [(3, .int x3), (2, .int x2), (1, .ref t), (0, .ref o)] → W pg l ev ({ frames := 3, cells := 61, slots := 168, locals := 54 } : Room) s m args below meth cd H6 lo7 (1 + 5 * k) (n + 13 * k) (MQ below (zM (fun H1 => zSm D cI cR o (t + 1 + 5 * n) t n (zN t) E me lo c e (rN n me lo c e (rd, tk, g) 1).1 (rN n me lo c e (rd, tk, g) 1).2.1 (rN n me lo c e (rd, tk, g) 1).2.2 H1 ∧ H1.size = t + 1 + 5 * n) (some (.int ((hA lo c e g (0, g) n).1))) (fun q => q = o ∨ t ≤ q)) args s 61 168 (fun q => q = o ∨ t ≤ q)) (F0 m 13 ls []) := by
    intro fu
    induction fu with
    | zero => intro k hfu; exact absurd hfu (Nat.not_lt_zero _)
    | succ fu ih =>
      intro k hfu hi13_0 x3 ex3 x2 ex2 H6 lo7 hO8 hQ9 hF10 hQn11 hFN12 hh13_0 hz hS ls hl
      subst ex3
      subst ex2
      have hsz : _ := hh13_0
      have hkn : k ≤ n := hi13_0
      refine lv_iload_n hx hb dX6_pass_13 rfl (lv_at hl 0 rfl) ?_
      refine lv_aload_n hx hb dX6_pass_14 rfl (lv_at hl 3 rfl) ?_
      refine va_get (D := D) (ci := 6) (v := .ref ar) (C := RX6) (T := TX6) (N := 3) hx hb hts hinX6 hown hK hO8 0 rfl rfl 0 (by decide) (hts _ (List.mem_of_getElem? (i := 1) rfl)) (fun _ h9 => h9) rfl dX6_pass_15 ?_
      refine z_qlen (n := n) (f := (zbf n B)) hx hb hK hQ9 0 1 rfl rfl dX6_pass_18 ?_
      refine lv_icmp_ge (tgt := 240) hx hb dX6_pass_19 (by decide) (fun c19 => ?_) (fun c19 => ?_)
      · have c19 := z_le (a := n) (b := k) c19 (by omega) (by omega)
        have hkn9 : k = n := by omega
        refine lv_aload_n hx hb dX6_pass_240 rfl (lv_at hl 3 rfl) ?_
        refine lv_aload_n hx hb dX6_pass_241 rfl (lv_at hl 2 rfl) ?_
        refine z_put (D := D) (ci := 6) (v := .ref t) (ty := (.array (.object "ParrotJuryLaw$Bird"))) (C := RX6) (T := TX6) (N := 3) hx hb hts hinX6 tyX6 tyX6_ok nmX6 hown hK hO8 (by show _ = o ∨ t ≤ _; omega) hS 0 rfl rfl 0 (by decide) (hts _ (List.mem_of_getElem? (i := 1) rfl)) (fun _ h9 => h9) rfl (by decide +kernel) rfl rfl (Nat.le_of_ble_eq_true rfl) dX6_pass_242 (fun H13 lo14 hP1 hz1 hk1 hS => ?_)
        have hsz : H13.size = (t + 1 + 5 * k) + 0 := by omega
        have hz : H.size ≤ H13.size := by omega
        have hO15 : va_P D vwCl [(o, .inr (6, [.ref t, .int rd, .int tk]))] H13 := z_set zOb_c hO8 0 rfl hP1 (fun q _ h => hk1 q h)
        have hQ16 := zQr_kept hQ9 (fun q h1 h2 h3 => (fun q _ h => hk1 q h) q h1 (by omega))
        have hF17 := zFm_kept hsp hF10 (fun q h1 h2 h3 => (fun q _ h => hk1 q h) q h1 (by omega))
        have hQn18 := zQr_kept hQn11 (fun q h1 h2 h3 => (fun q _ h => hk1 q h) q h1 (by omega))
        have hFN19 := zFmN_kept hsp hkn hFN12 (fun q h1 h2 h3 => (fun q _ h => hk1 q h) q h1 (by omega))
        refine lv_aload_n hx hb dX6_pass_245 rfl (lv_at hl 3 rfl) ?_
        refine lv_dup hx hb dX6_pass_246 rfl ?_
        refine va_get (D := D) (ci := 6) (v := .int rd) (C := RX6) (T := TX6) (N := 3) hx hb hts hinX6 hown hK hO15 0 rfl rfl 1 (by decide) (hts _ (List.mem_of_getElem? (i := 7) rfl)) (fun _ h9 => h9) rfl dX6_pass_247 ?_
        refine lv_iconst (v := 1) hx hb dX6_pass_250 (by decide) ?_
        refine lv_iadd hx hb dX6_pass_251 ?_
        refine z_put (D := D) (ci := 6) (v := .int (rd + 1)) (ty := .int) (C := RX6) (T := TX6) (N := 3) hx hb hts hinX6 tyX6 tyX6_ok nmX6 hown hK hO15 (by show _ = o ∨ t ≤ _; omega) hS 0 rfl rfl 1 (by decide) (hts _ (List.mem_of_getElem? (i := 7) rfl)) (fun _ h9 => h9) rfl (by decide +kernel) rfl rfl (Nat.le_of_ble_eq_true rfl) dX6_pass_252 (fun H20 lo21 hP1 hz1 hk1 hS => ?_)
        have hsz : H20.size = (t + 1 + 5 * k) + 0 := by omega
        have hz : H.size ≤ H20.size := by omega
        have hO22 : va_P D vwCl [(o, .inr (6, [.ref t, .int (rd + 1), .int tk]))] H20 := z_set zOb_c hO15 0 rfl hP1 (fun q _ h => hk1 q h)
        have hQ23 := zQr_kept hQ16 (fun q h1 h2 h3 => (fun q _ h => hk1 q h) q h1 (by omega))
        have hF24 := zFm_kept hsp hF17 (fun q h1 h2 h3 => (fun q _ h => hk1 q h) q h1 (by omega))
        have hQn25 := zQr_kept hQn18 (fun q h1 h2 h3 => (fun q _ h => hk1 q h) q h1 (by omega))
        have hFN26 := zFmN_kept hsp hkn hFN19 (fun q h1 h2 h3 => (fun q _ h => hk1 q h) q h1 (by omega))
        refine lv_aload_n hx hb dX6_pass_255 rfl (lv_at hl 3 rfl) ?_
        refine lv_dup hx hb dX6_pass_256 rfl ?_
        refine va_get (D := D) (ci := 6) (v := .int tk) (C := RX6) (T := TX6) (N := 3) hx hb hts hinX6 hown hK hO22 0 rfl rfl 2 (by decide) (hts _ (List.mem_of_getElem? (i := 9) rfl)) (fun _ h9 => h9) rfl dX6_pass_257 ?_
        refine lv_iload_n hx hb dX6_pass_260 rfl (lv_at hl 1 rfl) ?_
        refine lv_iadd hx hb dX6_pass_261 ?_
        refine z_put (D := D) (ci := 6) (v := .int (tk + ((hA lo c e g (0, g) k).1))) (ty := .int) (C := RX6) (T := TX6) (N := 3) hx hb hts hinX6 tyX6 tyX6_ok nmX6 hown hK hO22 (by show _ = o ∨ t ≤ _; omega) hS 0 rfl rfl 2 (by decide) (hts _ (List.mem_of_getElem? (i := 9) rfl)) (fun _ h9 => h9) rfl (by decide +kernel) rfl rfl (Nat.le_of_ble_eq_true rfl) dX6_pass_262 (fun H27 lo28 hP1 hz1 hk1 hS => ?_)
        have hsz : H27.size = (t + 1 + 5 * k) + 0 := by omega
        have hz : H.size ≤ H27.size := by omega
        have hO29 : va_P D vwCl [(o, .inr (6, [.ref t, .int (rd + 1), .int (tk + ((hA lo c e g (0, g) k).1))]))] H27 := z_set zOb_c hO22 0 rfl hP1 (fun q _ h => hk1 q h)
        have hQ30 := zQr_kept hQ23 (fun q h1 h2 h3 => (fun q _ h => hk1 q h) q h1 (by omega))
        have hF31 := zFm_kept hsp hF24 (fun q h1 h2 h3 => (fun q _ h => hk1 q h) q h1 (by omega))
        have hQn32 := zQr_kept hQn25 (fun q h1 h2 h3 => (fun q _ h => hk1 q h) q h1 (by omega))
        have hFN33 := zFmN_kept hsp hkn hFN26 (fun q h1 h2 h3 => (fun q _ h => hk1 q h) q h1 (by omega))
        refine lv_iload_n hx hb dX6_pass_265 rfl (lv_at hl 1 rfl) ?_
        refine z_toi (y := ((hA lo c e g (0, g) n).1)) (by rw [hkn9]) ?_
        refine W.widen (k := 61) (n := 168) (by omega) (by omega) ?_
        exact z_iretM (⟨⟨zO_to hO29 rfl (by rw [hkn9]; exact (hA_cnt0 n).symm), zQ_pass hQn32 hkn9, by have h9 := hFN33; rw [hkn9] at h9; exact h9, zSp_pass hsp⟩, by omega⟩) hx hb hr hlocks hS dX6_pass_266
      · have c19 := z_nle (a := n) (b := k) c19 (by omega) (by omega)
        refine lv_aload_n hx hb dX6_pass_22 rfl (lv_at hl 3 rfl) ?_
        refine va_get (D := D) (ci := 6) (v := .ref ar) (C := RX6) (T := TX6) (N := 3) hx hb hts hinX6 hown hK hO8 0 rfl rfl 0 (by decide) (hts _ (List.mem_of_getElem? (i := 1) rfl)) (fun _ h9 => h9) rfl dX6_pass_23 ?_
        refine lv_iload_n hx hb dX6_pass_26 rfl (lv_at hl 0 rfl) ?_
        refine z_aald (a := ar) (n := n) (f := (zbf n B)) (j := k) hx hb hK hQ9 0 1 rfl rfl rfl rfl (by omega) (by omega) (zbf_in (by omega)) dX6_pass_27 ?_
        obtain ⟨hBdm34, hEam34⟩ := hF10 k (by omega)
        obtain ⟨⟨sb1m34, sb2m34⟩, ⟨se1m34, se2m34⟩, sam34⟩ := hsp.2.1 k (by omega)
        have hz6 := (hZ k (by omega)).2.2
        refine z_mr (va_runV (As := []) (rest := []) hfix (zcX5_copy l D cI H6 (B k) (E k) (zcb g 0 k) (zcb g 2 k) (zcb g 4 k) (g 6 k) (me k) (lo k) (t + 1 + 5 * k) hBdm34 (by omega) (by omega)) (cwV 0 hts gX6_pass_X5_copy rfl rfl rfl (by decide +kernel) ⟨Nat.le_of_ble_eq_true rfl, Nat.le_of_ble_eq_true rfl⟩) (z_preV hK hK1 hBdm34 (ci := 5) (q0 := 0) rfl rfl rfl) rfl rfl hl.1 rfl (lv_room (Nat.le_of_ble_eq_true rfl)) dX6_pass_28 ⟨by show 1 + 5 * k + 5 ≤ 61; omega, by show n + 13 * k + 13 ≤ 168; omega⟩) hS (fun q _ h => by have h8 : (t + 1 + 5 * k) ≤ q := h; show q = o ∨ t ≤ q; omega) (fun q h => by have h8 : (t + 1 + 5 * k) ≤ q := h; show q = o ∨ t ≤ q; omega) (fun H35 lo36 hB hz1 hk1 hS => ?_)
        have hsz : H35.size = (t + 1 + 5 * k) + 5 := by have h9 := hB.2; omega
        have hz : H.size ≤ H35.size := by omega
        have hO37 := zOb_kept hO8 (fun q h1 h2 h3 => hk1 q h1 (fun h8 => by have h7 : (t + 1 + 5 * k) ≤ q := h8; omega))
        have hQ38 := zQr_kept hQ9 (fun q h1 h2 h3 => hk1 q h1 (fun h8 => by have h7 : (t + 1 + 5 * k) ≤ q := h8; omega))
        have hF39 := zFm_kept hsp hF10 (fun q h1 h2 h3 => hk1 q h1 (fun h8 => by have h7 : (t + 1 + 5 * k) ≤ q := h8; omega))
        have hQn40 := zQr_kept hQn11 (fun q h1 h2 h3 => hk1 q h1 (fun h8 => by have h7 : (t + 1 + 5 * k) ≤ q := h8; omega))
        have hFN41 := zFmN_kept hsp hkn hFN12 (fun q h1 h2 h3 => hk1 q h1 (fun h8 => by have h7 : (t + 1 + 5 * k) ≤ q := h8; omega))
        have hBdm42 := zBw_kept hBdm34 (fun q h1 h2 h3 => hk1 q h1 (fun h8 => by have h7 : (t + 1 + 5 * k) ≤ q := h8; omega))
        have hEam43 := zAr_kept hEam34 (fun q h1 h2 h3 => hk1 q h1 (fun h8 => by have h7 : (t + 1 + 5 * k) ≤ q := h8; omega))
        have hW44 : va_P D vwCl (zBw cI (t + 1 + 5 * k) (E k) (zcb g 0 k) (zcb g 2 k) (zcb g 4 k) (g 6 k) (me k) (lo k)) H35 := hB.1
        refine lv_astore (lv' := [(4, .ref (t + 1 + 5 * k)), (3, .int (nI k)), (2, .int ((hA lo c e g (0, g) k).1)), (1, .ref t), (0, .ref o)]) hx hb dX6_pass_31 hl (by decide) rfl (fun ls hl => ?_)
        refine lv_aload_n hx hb dX6_pass_33 rfl (lv_at hl 3 rfl) ?_
        refine lv_iload_n hx hb dX6_pass_34 rfl (lv_at hl 1 rfl) ?_
        refine lv_aload hx hb dX6_pass_35 (lv_at hl 0 rfl) ?_
        refine z_aast (n := n) (f := (zbf k (zN t))) (j := k) (r := (RX5, TX5, 7)) hx hb hK hQn40 hW44 (by show _ = o ∨ t ≤ _; omega) hS 0 0 1 5 rfl rfl rfl rfl rfl (by omega) (by omega) dX6_pass_37 (fun H45 lo46 hP1 hz1 hk1 hS => ?_)
        have hsz : H45.size = (t + 1 + 5 * k) + 5 := by omega
        have hz : H.size ≤ H45.size := by omega
        have hO47 := zOb_kept hO37 (fun q h1 h2 h3 => (fun q _ h => hk1 q h) q h1 (by omega))
        have hQ48 := zQr_kept hQ38 (fun q h1 h2 h3 => (fun q _ h => hk1 q h) q h1 (by omega))
        have hF49 := zFm_kept hsp hF39 (fun q h1 h2 h3 => (fun q _ h => hk1 q h) q h1 (by omega))
        have hQ50 : va_P D vwCl (zQr cR t n (va_up (zbf k (zN t)) k (some (t + 1 + 5 * k)))) H45 := hP1
        have hFN51 := zFmN_kept hsp hkn hFN41 (fun q h1 h2 h3 => (fun q _ h => hk1 q h) q h1 (by omega))
        have hBdm52 := zBw_kept hBdm42 (fun q h1 h2 h3 => (fun q _ h => hk1 q h) q h1 (by omega))
        have hEam53 := zAr_kept hEam43 (fun q h1 h2 h3 => (fun q _ h => hk1 q h) q h1 (by omega))
        have hW54 := zBw_kept hW44 (fun q h1 h2 h3 => (fun q _ h => hk1 q h) q h1 (by omega))
        refine lv_aload_n hx hb dX6_pass_38 rfl (lv_at hl 4 rfl) ?_
        refine lv_aload hx hb dX6_pass_39 (lv_at hl 0 rfl) ?_
        refine z_ki (va_runV (As := [.ref (t + 1 + 5 * k)]) (rest := []) hfix (zcX6_heard l D cI cR H45 o t ar n B E me lo c e rd tk g (t + 1 + 5 * k) (E k) (zcb g 0 k) (zcb g 2 k) (zcb g 4 k) (g 6 k) (me k) (lo k) k (⟨hO47, hQ48, hF49, hsp⟩) hI hW54 hEam53 (by omega)) (cwV 1 hts gX6_pass_X6_heard rfl rfl rfl (by decide +kernel) ⟨Nat.le_of_ble_eq_true rfl, Nat.le_of_ble_eq_true rfl⟩) (z_kpreV hKw hK hK hO47 (ci := 6) (q0 := 0) rfl rfl rfl) rfl rfl hl.1 rfl (lv_room (Nat.le_of_ble_eq_true rfl)) dX6_pass_41 ⟨by show 1 + 5 * k + 5 + 0 ≤ 61; omega, by show n + 13 * k + 13 + 0 ≤ 168; omega⟩) ?_
        refine lv_istore (lv' := [(5, .int (zo (hd lo e k (c k)))), (4, .ref (t + 1 + 5 * k)), (3, .int (nI k)), (2, .int ((hA lo c e g (0, g) k).1)), (1, .ref t), (0, .ref o)]) hx hb dX6_pass_44 hl (by decide) rfl (fun ls hl => ?_)
        refine lv_iload hx hb dX6_pass_46 (lv_at hl 0 rfl) ?_
        refine lv_if_lt (tgt := 200) hx hb dX6_pass_48 (by decide) (fun c48 => ?_) (fun c48 => ?_)
        · have c48 := (zo_neg (fun q hq => by have := zI_hd hI hq; omega)).mp c48
          have hmid : zMid lo c e g k (zcb g 0 k) (zcb g 2 k) (zcb g 4 k) (g 6 k) 0 := zmid_N c48 hz6
          refine lv_aload_n hx hb dX6_pass_200 rfl (lv_at hl 5 rfl) ?_
          refine va_get (D := D) (ci := 6) (v := .int rd) (C := RX6) (T := TX6) (N := 3) hx hb hts hinX6 hown hK hO47 0 rfl rfl 1 (by decide) (hts _ (List.mem_of_getElem? (i := 7) rfl)) (fun _ h9 => h9) rfl dX6_pass_201 ?_
          refine lv_aload hx hb dX6_pass_204 (lv_at hl 1 rfl) ?_
          refine va_get (D := D) (ci := 5) (v := .int (me k)) (C := RX5) (T := TX5) (N := 7) hx hb hts hinX5 hown hK hW54 0 rfl rfl 4 (by decide) (hts _ (List.mem_of_getElem? (i := 8) rfl)) (fun _ h9 => h9) rfl dX6_pass_206 ?_
          refine lv_iconst (v := 1) hx hb dX6_pass_209 (by decide) ?_
          refine lv_iadd hx hb dX6_pass_210 ?_
          refine lv_irem hx hb dX6_pass_211 (zI_span0 hI (by omega)) ?_
          refine z_toi (y := zrem rd ((me k) + 1)) rfl ?_
          refine lv_if_ne (tgt := 234) hx hb dX6_pass_212 (by decide) (fun c212 => ?_) (fun c212 => ?_)
          · refine lv_iinc (v := (nI (k + 1))) (lv' := [(3, .int (nI (k + 1))), (5, .int (zo (hd lo e k (c k)))), (4, .ref (t + 1 + 5 * k)), (2, .int ((hA lo c e g (0, g) k).1)), (1, .ref t), (0, .ref o)]) hx hb dX6_pass_234 hl (k := 2) rfl (nI_1 _) (by decide) rfl (fun ls hl => ?_)
            refine lv_goto (tgt := 13) hx hb dX6_pass_237 (by decide) ?_
            refine W.widen (k := 1 + 5 * (k + 1)) (n := n + 13 * (k + 1)) (by omega) (by omega) ?_
            exact ih (k + 1) (by omega) (by omega) _ (rfl) _ (by rw [hA_cnt, ← hmid.2.1, Int32.add_zero]) _ _ (hO47) (hQ48) (hF49) (by rw [← zbf_upN]; exact hQ50) (zFmN_push hFN51 hW54 hEam53 (zcol_fin (by omega) hmid (zfs_ne c212))) (by omega) hz hS _ (lv_sub hl [0, 3, 4, 5] rfl)
          · refine lv_aload hx hb dX6_pass_215 (lv_at hl 1 rfl) ?_
            refine va_get (D := D) (ci := 5) (v := .int (g 6 k)) (C := RX5) (T := TX5) (N := 7) hx hb hts hinX5 hown hK hW54 0 rfl rfl 3 (by decide) (hts _ (List.mem_of_getElem? (i := 3) rfl)) (fun _ h9 => h9) rfl dX6_pass_217 ?_
            refine lv_if_le (tgt := 234) hx hb dX6_pass_220 (by decide) (fun c220 => ?_) (fun c220 => ?_)
            · refine lv_iinc (v := (nI (k + 1))) (lv' := [(3, .int (nI (k + 1))), (5, .int (zo (hd lo e k (c k)))), (4, .ref (t + 1 + 5 * k)), (2, .int ((hA lo c e g (0, g) k).1)), (1, .ref t), (0, .ref o)]) hx hb dX6_pass_234 hl (k := 2) rfl (nI_1 _) (by decide) rfl (fun ls hl => ?_)
              refine lv_goto (tgt := 13) hx hb dX6_pass_237 (by decide) ?_
              refine W.widen (k := 1 + 5 * (k + 1)) (n := n + 13 * (k + 1)) (by omega) (by omega) ?_
              exact ih (k + 1) (by omega) (by omega) _ (rfl) _ (by rw [hA_cnt, ← hmid.2.1, Int32.add_zero]) _ _ (hO47) (hQ48) (hF49) (by rw [← zbf_upN]; exact hQ50) (zFmN_push hFN51 hW54 hEam53 (zcol_fin (by omega) hmid (zfs_le c212 c220 hmid.2.2))) (by omega) hz hS _ (lv_sub hl [0, 3, 4, 5] rfl)
            · refine lv_aload hx hb dX6_pass_223 (lv_at hl 1 rfl) ?_
              refine lv_dup hx hb dX6_pass_225 rfl ?_
              refine va_get (D := D) (ci := 5) (v := .int (g 6 k)) (C := RX5) (T := TX5) (N := 7) hx hb hts hinX5 hown hK hW54 0 rfl rfl 3 (by decide) (hts _ (List.mem_of_getElem? (i := 3) rfl)) (fun _ h9 => h9) rfl dX6_pass_226 ?_
              refine lv_iconst (v := 1) hx hb dX6_pass_229 (by decide) ?_
              refine lv_isub hx hb dX6_pass_230 ?_
              refine z_put (D := D) (ci := 5) (v := .int ((g 6 k) - 1)) (ty := .int) (C := RX5) (T := TX5) (N := 7) hx hb hts hinX5 tyX5 tyX5_ok nmX5 hown hK hW54 (by show _ = o ∨ t ≤ _; omega) hS 0 rfl rfl 3 (by decide) (hts _ (List.mem_of_getElem? (i := 3) rfl)) (fun _ h9 => h9) rfl (by decide +kernel) rfl rfl (Nat.le_of_ble_eq_true rfl) dX6_pass_231 (fun H55 lo56 hP1 hz1 hk1 hS => ?_)
              have hsz : H55.size = (t + 1 + 5 * k) + 5 := by omega
              have hz : H.size ≤ H55.size := by omega
              have hO57 := zOb_kept hO47 (fun q h1 h2 h3 => (fun q _ h => hk1 q h) q h1 (by omega))
              have hQ58 := zQr_kept hQ48 (fun q h1 h2 h3 => (fun q _ h => hk1 q h) q h1 (by omega))
              have hF59 := zFm_kept hsp hF49 (fun q h1 h2 h3 => (fun q _ h => hk1 q h) q h1 (by omega))
              have hQ60 := zQr_kept hQ50 (fun q h1 h2 h3 => (fun q _ h => hk1 q h) q h1 (by omega))
              have hFN61 := zFmN_kept hsp hkn hFN51 (fun q h1 h2 h3 => (fun q _ h => hk1 q h) q h1 (by omega))
              have hBdm62 := zBw_kept hBdm52 (fun q h1 h2 h3 => (fun q _ h => hk1 q h) q h1 (by omega))
              have hEam63 := zAr_kept hEam53 (fun q h1 h2 h3 => (fun q _ h => hk1 q h) q h1 (by omega))
              have hW64 : va_P D vwCl (zBw cI (t + 1 + 5 * k) (E k) (zcb g 0 k) (zcb g 2 k) (zcb g 4 k) ((g 6 k) - 1) (me k) (lo k)) H55 := z_set zBw_c hW54 0 rfl hP1 (fun q _ h => hk1 q h)
              refine lv_iinc (v := (nI (k + 1))) (lv' := [(3, .int (nI (k + 1))), (5, .int (zo (hd lo e k (c k)))), (4, .ref (t + 1 + 5 * k)), (2, .int ((hA lo c e g (0, g) k).1)), (1, .ref t), (0, .ref o)]) hx hb dX6_pass_234 hl (k := 2) rfl (nI_1 _) (by decide) rfl (fun ls hl => ?_)
              refine lv_goto (tgt := 13) hx hb dX6_pass_237 (by decide) ?_
              refine W.widen (k := 1 + 5 * (k + 1)) (n := n + 13 * (k + 1)) (by omega) (by omega) ?_
              exact ih (k + 1) (by omega) (by omega) _ (rfl) _ (by rw [hA_cnt, ← hmid.2.1, Int32.add_zero]) _ _ (hO57) (hQ58) (hF59) (by rw [← zbf_upN]; exact hQ60) (zFmN_push hFN61 hW64 hEam63 (zcol_fin (by omega) hmid (zfs_gt c212 c220 hmid.2.2))) (by omega) hz hS _ (lv_sub hl [0, 3, 4, 5] rfl)
        · obtain ⟨ob, hho⟩ : ∃ ob, hd lo e k (c k) = some ob := Option.ne_none_iff_exists'.mp (fun h => c48 ((zo_neg (fun q hq => by have := zI_hd hI hq; omega)).mpr h))
          have hob := zI_hd hI hho
          have hzo6 := (hZ ob hob).2.2
          have hl : lv_has ls 8 [(5, .int (nI ob)), (4, .ref (t + 1 + 5 * k)), (3, .int (nI k)), (2, .int ((hA lo c e g (0, g) k).1)), (1, .ref t), (0, .ref o)] := by rw [hho] at hl; exact hl
          refine lv_aload_n hx hb dX6_pass_51 rfl (lv_at hl 5 rfl) ?_
          refine va_get (D := D) (ci := 6) (v := .ref ar) (C := RX6) (T := TX6) (N := 3) hx hb hts hinX6 hown hK hO47 0 rfl rfl 0 (by decide) (hts _ (List.mem_of_getElem? (i := 1) rfl)) (fun _ h9 => h9) rfl dX6_pass_52 ?_
          refine lv_iload hx hb dX6_pass_55 (lv_at hl 0 rfl) ?_
          refine z_aald (a := ar) (n := n) (f := (zbf n B)) (j := ob) hx hb hK hQ48 0 1 rfl rfl rfl rfl (by omega) (by omega) (zbf_in (by omega)) dX6_pass_57 ?_
          obtain ⟨hBdm65, hEam65⟩ := hF49 ob (by omega)
          obtain ⟨⟨sb1m65, sb2m65⟩, ⟨se1m65, se2m65⟩, sam65⟩ := hsp.2.1 ob (by omega)
          refine lv_astore (lv' := [(6, .ref (B ob)), (5, .int (nI ob)), (4, .ref (t + 1 + 5 * k)), (3, .int (nI k)), (2, .int ((hA lo c e g (0, g) k).1)), (1, .ref t), (0, .ref o)]) hx hb dX6_pass_58 hl (by decide) rfl (fun ls hl => ?_)
          refine lv_iload_n hx hb dX6_pass_60 rfl (lv_at hl 3 rfl) ?_
          refine lv_iconst (v := 2) hx hb dX6_pass_61 (by decide) ?_
          refine lv_irem hx hb dX6_pass_62 (by decide) ?_
          refine z_toi (y := zrem (nI k) 2) rfl ?_
          refine z_toi (y := nI (k % 2)) (zrem2 k (by omega)) ?_
          refine lv_istore (lv' := [(7, .int (nI (k % 2))), (6, .ref (B ob)), (5, .int (nI ob)), (4, .ref (t + 1 + 5 * k)), (3, .int (nI k)), (2, .int ((hA lo c e g (0, g) k).1)), (1, .ref t), (0, .ref o)]) hx hb dX6_pass_63 hl (by decide) rfl (fun ls hl => ?_)
          have h7 : k % 2 < 2 := by omega
          refine lv_aload hx hb dX6_pass_65 (lv_at hl 3 rfl) ?_
          refine z_ki (va_runV (As := []) (rest := []) hfix (zcX5_word l D cI H45 (t + 1 + 5 * k) (E k) (zcb g 0 k) (zcb g 2 k) (zcb g 4 k) (g 6 k) (me k) (lo k) hW54) (cwV 0 hts gX6_pass_X5_word rfl rfl rfl (by decide +kernel) ⟨Nat.le_of_ble_eq_true rfl, Nat.le_of_ble_eq_true rfl⟩) (z_preV hK hK1 hW54 (ci := 5) (q0 := 0) rfl rfl rfl) rfl rfl hl.1 rfl (lv_room (Nat.le_of_ble_eq_true rfl)) dX6_pass_67 ⟨by show 1 + 5 * k + 5 + 0 ≤ 61; omega, by show n + 13 * k + 13 + 0 ≤ 168; omega⟩) ?_
          refine z_toi (y := wd g k) (zb_wd g k) ?_
          refine lv_aload hx hb dX6_pass_70 (lv_at hl 1 rfl) ?_
          refine z_ki (va_runV (As := []) (rest := [.int (wd g k)]) hfix (zcX5_word l D cI H45 (B ob) (E ob) (zcb g 0 ob) (zcb g 2 ob) (zcb g 4 ob) (g 6 ob) (me ob) (lo ob) hBdm65) (cwV 0 hts gX6_pass_X5_word rfl rfl rfl (by decide +kernel) ⟨Nat.le_of_ble_eq_true rfl, Nat.le_of_ble_eq_true rfl⟩) (z_preV hK hK1 hBdm65 (ci := 5) (q0 := 0) rfl rfl rfl) rfl rfl hl.1 rfl (lv_room (Nat.le_of_ble_eq_true rfl)) dX6_pass_72 ⟨by show 1 + 5 * k + 5 + 0 ≤ 61; omega, by show n + 13 * k + 13 + 0 ≤ 168; omega⟩) ?_
          refine z_toi (y := wd g ob) (zb_wd g ob) ?_
          refine lv_icmp_ne (tgt := 102) hx hb dX6_pass_75 (by decide) (fun c75 => ?_) (fun c75 => ?_)
          · refine lv_aload hx hb dX6_pass_102 (lv_at hl 3 rfl) ?_
            refine va_get (D := D) (ci := 5) (v := .int (g 6 k)) (C := RX5) (T := TX5) (N := 7) hx hb hts hinX5 hown hK hW54 0 rfl rfl 3 (by decide) (hts _ (List.mem_of_getElem? (i := 3) rfl)) (fun _ h9 => h9) rfl dX6_pass_104 ?_
            refine lv_aload hx hb dX6_pass_107 (lv_at hl 1 rfl) ?_
            refine va_get (D := D) (ci := 5) (v := .int (g 6 ob)) (C := RX5) (T := TX5) (N := 7) hx hb hts hinX5 hown hK hBdm65 0 rfl rfl 3 (by decide) (hts _ (List.mem_of_getElem? (i := 3) rfl)) (fun _ h9 => h9) rfl dX6_pass_109 ?_
            refine lv_icmp_le (tgt := 129) hx hb dX6_pass_112 (by decide) (fun c112 => ?_) (fun c112 => ?_)
            · refine lv_aload hx hb dX6_pass_129 (lv_at hl 3 rfl) ?_
              refine va_get (D := D) (ci := 5) (v := .ref ((t + 1 + 5 * k) + 1)) (C := RX5) (T := TX5) (N := 7) hx hb hts hinX5 hown hK hW54 0 rfl rfl 0 (by decide) (hts _ (List.mem_of_getElem? (i := 4) rfl)) (fun _ h9 => h9) rfl dX6_pass_131 ?_
              refine lv_iload hx hb dX6_pass_134 (lv_at hl 0 rfl) ?_
              refine lv_aload hx hb dX6_pass_136 (lv_at hl 1 rfl) ?_
              refine va_get (D := D) (ci := 5) (v := .ref ((B ob) + 1)) (C := RX5) (T := TX5) (N := 7) hx hb hts hinX5 hown hK hBdm65 0 rfl rfl 0 (by decide) (hts _ (List.mem_of_getElem? (i := 4) rfl)) (fun _ h9 => h9) rfl dX6_pass_138 ?_
              refine lv_iload hx hb dX6_pass_141 (lv_at hl 0 rfl) ?_
              refine z_iald (a := ((B ob) + 1)) (n := 2) (f := (zcb g 0 ob)) (j := (k % 2)) hx hb hK hBdm65 1 0 rfl rfl rfl (by omega) (by omega) dX6_pass_143 ?_
              refine z_iast (n := 2) (f := (zcb g 0 k)) (x := (zcb g 0 ob (k % 2))) (j := (k % 2)) hx hb hK hW54 (by show _ = o ∨ t ≤ _; omega) hS 1 0 rfl rfl rfl (by omega) (by omega) dX6_pass_144 (fun H66 lo67 hP1 hz1 hk1 hS => ?_)
              have hsz : H66.size = (t + 1 + 5 * k) + 5 := by omega
              have hz : H.size ≤ H66.size := by omega
              have hO68 := zOb_kept hO47 (fun q h1 h2 h3 => (fun q _ h => hk1 q h) q h1 (by omega))
              have hQ69 := zQr_kept hQ48 (fun q h1 h2 h3 => (fun q _ h => hk1 q h) q h1 (by omega))
              have hF70 := zFm_kept hsp hF49 (fun q h1 h2 h3 => (fun q _ h => hk1 q h) q h1 (by omega))
              have hQ71 := zQr_kept hQ50 (fun q h1 h2 h3 => (fun q _ h => hk1 q h) q h1 (by omega))
              have hFN72 := zFmN_kept hsp hkn hFN51 (fun q h1 h2 h3 => (fun q _ h => hk1 q h) q h1 (by omega))
              have hBdm73 := zBw_kept hBdm52 (fun q h1 h2 h3 => (fun q _ h => hk1 q h) q h1 (by omega))
              have hEam74 := zAr_kept hEam53 (fun q h1 h2 h3 => (fun q _ h => hk1 q h) q h1 (by omega))
              have hW75 : va_P D vwCl (zBw cI (t + 1 + 5 * k) (E k) (upd (zcb g 0 k) (k % 2) (zcb g 0 ob (k % 2))) (zcb g 2 k) (zcb g 4 k) (g 6 k) (me k) (lo k)) H66 := z_set zBw_c hW54 1 rfl hP1 (fun q _ h => hk1 q h)
              have hBdm76 := zBw_kept hBdm65 (fun q h1 h2 h3 => (fun q _ h => hk1 q h) q h1 (by omega))
              have hEam77 := zAr_kept hEam65 (fun q h1 h2 h3 => (fun q _ h => hk1 q h) q h1 (by omega))
              refine lv_aload hx hb dX6_pass_145 (lv_at hl 3 rfl) ?_
              refine va_get (D := D) (ci := 5) (v := .ref ((t + 1 + 5 * k) + 2)) (C := RX5) (T := TX5) (N := 7) hx hb hts hinX5 hown hK hW75 0 rfl rfl 1 (by decide) (hts _ (List.mem_of_getElem? (i := 5) rfl)) (fun _ h9 => h9) rfl dX6_pass_147 ?_
              refine lv_iload hx hb dX6_pass_150 (lv_at hl 0 rfl) ?_
              refine lv_iload hx hb dX6_pass_152 (lv_at hl 2 rfl) ?_
              refine z_iast (n := 2) (f := (zcb g 2 k)) (x := (nI ob)) (j := (k % 2)) hx hb hK hW75 (by show _ = o ∨ t ≤ _; omega) hS 2 0 rfl rfl rfl (by omega) (by omega) dX6_pass_154 (fun H78 lo79 hP1 hz1 hk1 hS => ?_)
              have hsz : H78.size = (t + 1 + 5 * k) + 5 := by omega
              have hz : H.size ≤ H78.size := by omega
              have hO80 := zOb_kept hO68 (fun q h1 h2 h3 => (fun q _ h => hk1 q h) q h1 (by omega))
              have hQ81 := zQr_kept hQ69 (fun q h1 h2 h3 => (fun q _ h => hk1 q h) q h1 (by omega))
              have hF82 := zFm_kept hsp hF70 (fun q h1 h2 h3 => (fun q _ h => hk1 q h) q h1 (by omega))
              have hQ83 := zQr_kept hQ71 (fun q h1 h2 h3 => (fun q _ h => hk1 q h) q h1 (by omega))
              have hFN84 := zFmN_kept hsp hkn hFN72 (fun q h1 h2 h3 => (fun q _ h => hk1 q h) q h1 (by omega))
              have hBdm85 := zBw_kept hBdm73 (fun q h1 h2 h3 => (fun q _ h => hk1 q h) q h1 (by omega))
              have hEam86 := zAr_kept hEam74 (fun q h1 h2 h3 => (fun q _ h => hk1 q h) q h1 (by omega))
              have hW87 : va_P D vwCl (zBw cI (t + 1 + 5 * k) (E k) (upd (zcb g 0 k) (k % 2) (zcb g 0 ob (k % 2))) (upd (zcb g 2 k) (k % 2) (nI ob)) (zcb g 4 k) (g 6 k) (me k) (lo k)) H78 := z_set zBw_c hW75 2 rfl hP1 (fun q _ h => hk1 q h)
              have hBdm88 := zBw_kept hBdm76 (fun q h1 h2 h3 => (fun q _ h => hk1 q h) q h1 (by omega))
              have hEam89 := zAr_kept hEam77 (fun q h1 h2 h3 => (fun q _ h => hk1 q h) q h1 (by omega))
              refine lv_aload hx hb dX6_pass_155 (lv_at hl 3 rfl) ?_
              refine va_get (D := D) (ci := 5) (v := .ref ((t + 1 + 5 * k) + 3)) (C := RX5) (T := TX5) (N := 7) hx hb hts hinX5 hown hK hW87 0 rfl rfl 2 (by decide) (hts _ (List.mem_of_getElem? (i := 6) rfl)) (fun _ h9 => h9) rfl dX6_pass_157 ?_
              refine lv_iload hx hb dX6_pass_160 (lv_at hl 0 rfl) ?_
              refine lv_aload hx hb dX6_pass_162 (lv_at hl 1 rfl) ?_
              refine va_get (D := D) (ci := 5) (v := .ref ((B ob) + 3)) (C := RX5) (T := TX5) (N := 7) hx hb hts hinX5 hown hK hBdm88 0 rfl rfl 2 (by decide) (hts _ (List.mem_of_getElem? (i := 6) rfl)) (fun _ h9 => h9) rfl dX6_pass_164 ?_
              refine lv_iload hx hb dX6_pass_167 (lv_at hl 0 rfl) ?_
              refine z_iald (a := ((B ob) + 3)) (n := 2) (f := (zcb g 4 ob)) (j := (k % 2)) hx hb hK hBdm88 3 0 rfl rfl rfl (by omega) (by omega) dX6_pass_169 ?_
              refine lv_bipush (v := 99) hx hb dX6_pass_170 (by decide) ?_
              refine lv_icmp_ge (tgt := 188) hx hb dX6_pass_172 (by decide) (fun c172 => ?_) (fun c172 => ?_)
              · refine lv_bipush (v := 99) hx hb dX6_pass_188 (by decide) ?_
                refine z_iast (n := 2) (f := (zcb g 4 k)) (x := 99) (j := (k % 2)) hx hb hK hW87 (by show _ = o ∨ t ≤ _; omega) hS 3 0 rfl rfl rfl (by omega) (by omega) dX6_pass_190 (fun H90 lo91 hP1 hz1 hk1 hS => ?_)
                have hsz : H90.size = (t + 1 + 5 * k) + 5 := by omega
                have hz : H.size ≤ H90.size := by omega
                have hO92 := zOb_kept hO80 (fun q h1 h2 h3 => (fun q _ h => hk1 q h) q h1 (by omega))
                have hQ93 := zQr_kept hQ81 (fun q h1 h2 h3 => (fun q _ h => hk1 q h) q h1 (by omega))
                have hF94 := zFm_kept hsp hF82 (fun q h1 h2 h3 => (fun q _ h => hk1 q h) q h1 (by omega))
                have hQ95 := zQr_kept hQ83 (fun q h1 h2 h3 => (fun q _ h => hk1 q h) q h1 (by omega))
                have hFN96 := zFmN_kept hsp hkn hFN84 (fun q h1 h2 h3 => (fun q _ h => hk1 q h) q h1 (by omega))
                have hBdm97 := zBw_kept hBdm85 (fun q h1 h2 h3 => (fun q _ h => hk1 q h) q h1 (by omega))
                have hEam98 := zAr_kept hEam86 (fun q h1 h2 h3 => (fun q _ h => hk1 q h) q h1 (by omega))
                have hW99 : va_P D vwCl (zBw cI (t + 1 + 5 * k) (E k) (upd (zcb g 0 k) (k % 2) (zcb g 0 ob (k % 2))) (upd (zcb g 2 k) (k % 2) (nI ob)) (upd (zcb g 4 k) (k % 2) 99) (g 6 k) (me k) (lo k)) H90 := z_set zBw_c hW87 3 rfl hP1 (fun q _ h => hk1 q h)
                have hBdm100 := zBw_kept hBdm88 (fun q h1 h2 h3 => (fun q _ h => hk1 q h) q h1 (by omega))
                have hEam101 := zAr_kept hEam89 (fun q h1 h2 h3 => (fun q _ h => hk1 q h) q h1 (by omega))
                refine lv_aload hx hb dX6_pass_191 (lv_at hl 3 rfl) ?_
                refine lv_iconst (v := 1) hx hb dX6_pass_193 (by decide) ?_
                refine z_put (D := D) (ci := 5) (v := .int 1) (ty := .int) (C := RX5) (T := TX5) (N := 7) hx hb hts hinX5 tyX5 tyX5_ok nmX5 hown hK hW99 (by show _ = o ∨ t ≤ _; omega) hS 0 rfl rfl 3 (by decide) (hts _ (List.mem_of_getElem? (i := 3) rfl)) (fun _ h9 => h9) rfl (by decide +kernel) rfl rfl (Nat.le_of_ble_eq_true rfl) dX6_pass_194 (fun H102 lo103 hP1 hz1 hk1 hS => ?_)
                have hsz : H102.size = (t + 1 + 5 * k) + 5 := by omega
                have hz : H.size ≤ H102.size := by omega
                have hO104 := zOb_kept hO92 (fun q h1 h2 h3 => (fun q _ h => hk1 q h) q h1 (by omega))
                have hQ105 := zQr_kept hQ93 (fun q h1 h2 h3 => (fun q _ h => hk1 q h) q h1 (by omega))
                have hF106 := zFm_kept hsp hF94 (fun q h1 h2 h3 => (fun q _ h => hk1 q h) q h1 (by omega))
                have hQ107 := zQr_kept hQ95 (fun q h1 h2 h3 => (fun q _ h => hk1 q h) q h1 (by omega))
                have hFN108 := zFmN_kept hsp hkn hFN96 (fun q h1 h2 h3 => (fun q _ h => hk1 q h) q h1 (by omega))
                have hBdm109 := zBw_kept hBdm97 (fun q h1 h2 h3 => (fun q _ h => hk1 q h) q h1 (by omega))
                have hEam110 := zAr_kept hEam98 (fun q h1 h2 h3 => (fun q _ h => hk1 q h) q h1 (by omega))
                have hW111 : va_P D vwCl (zBw cI (t + 1 + 5 * k) (E k) (upd (zcb g 0 k) (k % 2) (zcb g 0 ob (k % 2))) (upd (zcb g 2 k) (k % 2) (nI ob)) (upd (zcb g 4 k) (k % 2) 99) 1 (me k) (lo k)) H102 := z_set zBw_c hW99 0 rfl hP1 (fun q _ h => hk1 q h)
                have hBdm112 := zBw_kept hBdm100 (fun q h1 h2 h3 => (fun q _ h => hk1 q h) q h1 (by omega))
                have hEam113 := zAr_kept hEam101 (fun q h1 h2 h3 => (fun q _ h => hk1 q h) q h1 (by omega))
                refine lv_iinc (v := (((hA lo c e g (0, g) k).1) + 1)) (lv' := [(2, .int (((hA lo c e g (0, g) k).1) + 1)), (7, .int (nI (k % 2))), (6, .ref (B ob)), (5, .int (nI ob)), (4, .ref (t + 1 + 5 * k)), (3, .int (nI k)), (1, .ref t), (0, .ref o)]) hx hb dX6_pass_197 hl (k := 5) rfl rfl (by decide) rfl (fun ls hl => ?_)
                have hmid : zMid lo c e g k (upd (zcb g 0 k) (k % 2) (zcb g 0 ob (k % 2))) (upd (zcb g 2 k) (k % 2) (nI ob)) (upd (zcb g 4 k) (k % 2) 99) 1 1 := zmid_T hho c75 c112 (zov_y hV hob h7 c172)
                refine lv_aload_n hx hb dX6_pass_200 rfl (lv_at hl 7 rfl) ?_
                refine va_get (D := D) (ci := 6) (v := .int rd) (C := RX6) (T := TX6) (N := 3) hx hb hts hinX6 hown hK hO104 0 rfl rfl 1 (by decide) (hts _ (List.mem_of_getElem? (i := 7) rfl)) (fun _ h9 => h9) rfl dX6_pass_201 ?_
                refine lv_aload hx hb dX6_pass_204 (lv_at hl 4 rfl) ?_
                refine va_get (D := D) (ci := 5) (v := .int (me k)) (C := RX5) (T := TX5) (N := 7) hx hb hts hinX5 hown hK hW111 0 rfl rfl 4 (by decide) (hts _ (List.mem_of_getElem? (i := 8) rfl)) (fun _ h9 => h9) rfl dX6_pass_206 ?_
                refine lv_iconst (v := 1) hx hb dX6_pass_209 (by decide) ?_
                refine lv_iadd hx hb dX6_pass_210 ?_
                refine lv_irem hx hb dX6_pass_211 (zI_span0 hI (by omega)) ?_
                refine z_toi (y := zrem rd ((me k) + 1)) rfl ?_
                refine lv_if_ne (tgt := 234) hx hb dX6_pass_212 (by decide) (fun c212 => ?_) (fun c212 => ?_)
                · refine lv_iinc (v := (nI (k + 1))) (lv' := [(3, .int (nI (k + 1))), (2, .int (((hA lo c e g (0, g) k).1) + 1)), (7, .int (nI (k % 2))), (6, .ref (B ob)), (5, .int (nI ob)), (4, .ref (t + 1 + 5 * k)), (1, .ref t), (0, .ref o)]) hx hb dX6_pass_234 hl (k := 5) rfl (nI_1 _) (by decide) rfl (fun ls hl => ?_)
                  refine lv_goto (tgt := 13) hx hb dX6_pass_237 (by decide) ?_
                  refine W.widen (k := 1 + 5 * (k + 1)) (n := n + 13 * (k + 1)) (by omega) (by omega) ?_
                  exact ih (k + 1) (by omega) (by omega) _ (rfl) _ (by rw [hA_cnt, ← hmid.2.1]) _ _ (hO104) (hQ105) (hF106) (by rw [← zbf_upN]; exact hQ107) (zFmN_push hFN108 hW111 hEam110 (zcol_fin (by omega) hmid (zfs_ne c212))) (by omega) hz hS _ (lv_sub hl [0, 1, 6, 7] rfl)
                · refine lv_aload hx hb dX6_pass_215 (lv_at hl 4 rfl) ?_
                  refine va_get (D := D) (ci := 5) (v := .int 1) (C := RX5) (T := TX5) (N := 7) hx hb hts hinX5 hown hK hW111 0 rfl rfl 3 (by decide) (hts _ (List.mem_of_getElem? (i := 3) rfl)) (fun _ h9 => h9) rfl dX6_pass_217 ?_
                  refine lv_if_le (tgt := 234) hx hb dX6_pass_220 (by decide) (fun c220 => ?_) (fun c220 => ?_)
                  · exact absurd c220 (by decide)
                  · have c220 := z_nle (a := 1) (b := 0) c220 (by omega) (by omega)
                    refine lv_aload hx hb dX6_pass_223 (lv_at hl 4 rfl) ?_
                    refine lv_dup hx hb dX6_pass_225 rfl ?_
                    refine va_get (D := D) (ci := 5) (v := .int 1) (C := RX5) (T := TX5) (N := 7) hx hb hts hinX5 hown hK hW111 0 rfl rfl 3 (by decide) (hts _ (List.mem_of_getElem? (i := 3) rfl)) (fun _ h9 => h9) rfl dX6_pass_226 ?_
                    refine lv_iconst (v := 1) hx hb dX6_pass_229 (by decide) ?_
                    refine lv_isub hx hb dX6_pass_230 ?_
                    refine z_put (D := D) (ci := 5) (v := .int (1 - 1)) (ty := .int) (C := RX5) (T := TX5) (N := 7) hx hb hts hinX5 tyX5 tyX5_ok nmX5 hown hK hW111 (by show _ = o ∨ t ≤ _; omega) hS 0 rfl rfl 3 (by decide) (hts _ (List.mem_of_getElem? (i := 3) rfl)) (fun _ h9 => h9) rfl (by decide +kernel) rfl rfl (Nat.le_of_ble_eq_true rfl) dX6_pass_231 (fun H114 lo115 hP1 hz1 hk1 hS => ?_)
                    have hsz : H114.size = (t + 1 + 5 * k) + 5 := by omega
                    have hz : H.size ≤ H114.size := by omega
                    have hO116 := zOb_kept hO104 (fun q h1 h2 h3 => (fun q _ h => hk1 q h) q h1 (by omega))
                    have hQ117 := zQr_kept hQ105 (fun q h1 h2 h3 => (fun q _ h => hk1 q h) q h1 (by omega))
                    have hF118 := zFm_kept hsp hF106 (fun q h1 h2 h3 => (fun q _ h => hk1 q h) q h1 (by omega))
                    have hQ119 := zQr_kept hQ107 (fun q h1 h2 h3 => (fun q _ h => hk1 q h) q h1 (by omega))
                    have hFN120 := zFmN_kept hsp hkn hFN108 (fun q h1 h2 h3 => (fun q _ h => hk1 q h) q h1 (by omega))
                    have hBdm121 := zBw_kept hBdm109 (fun q h1 h2 h3 => (fun q _ h => hk1 q h) q h1 (by omega))
                    have hEam122 := zAr_kept hEam110 (fun q h1 h2 h3 => (fun q _ h => hk1 q h) q h1 (by omega))
                    have hW123 : va_P D vwCl (zBw cI (t + 1 + 5 * k) (E k) (upd (zcb g 0 k) (k % 2) (zcb g 0 ob (k % 2))) (upd (zcb g 2 k) (k % 2) (nI ob)) (upd (zcb g 4 k) (k % 2) 99) (1 - 1) (me k) (lo k)) H114 := z_set zBw_c hW111 0 rfl hP1 (fun q _ h => hk1 q h)
                    have hBdm124 := zBw_kept hBdm112 (fun q h1 h2 h3 => (fun q _ h => hk1 q h) q h1 (by omega))
                    have hEam125 := zAr_kept hEam113 (fun q h1 h2 h3 => (fun q _ h => hk1 q h) q h1 (by omega))
                    refine lv_iinc (v := (nI (k + 1))) (lv' := [(3, .int (nI (k + 1))), (2, .int (((hA lo c e g (0, g) k).1) + 1)), (7, .int (nI (k % 2))), (6, .ref (B ob)), (5, .int (nI ob)), (4, .ref (t + 1 + 5 * k)), (1, .ref t), (0, .ref o)]) hx hb dX6_pass_234 hl (k := 5) rfl (nI_1 _) (by decide) rfl (fun ls hl => ?_)
                    refine lv_goto (tgt := 13) hx hb dX6_pass_237 (by decide) ?_
                    refine W.widen (k := 1 + 5 * (k + 1)) (n := n + 13 * (k + 1)) (by omega) (by omega) ?_
                    exact ih (k + 1) (by omega) (by omega) _ (rfl) _ (by rw [hA_cnt, ← hmid.2.1]) _ _ (hO116) (hQ117) (hF118) (by rw [← zbf_upN]; exact hQ119) (zFmN_push hFN120 hW123 hEam122 (zcol_fin (by omega) hmid (zfs_gt c212 (by decide) hmid.2.2))) (by omega) hz hS _ (lv_sub hl [0, 1, 6, 7] rfl)
              · refine lv_aload hx hb dX6_pass_175 (lv_at hl 1 rfl) ?_
                refine va_get (D := D) (ci := 5) (v := .ref ((B ob) + 3)) (C := RX5) (T := TX5) (N := 7) hx hb hts hinX5 hown hK hBdm88 0 rfl rfl 2 (by decide) (hts _ (List.mem_of_getElem? (i := 6) rfl)) (fun _ h9 => h9) rfl dX6_pass_177 ?_
                refine lv_iload hx hb dX6_pass_180 (lv_at hl 0 rfl) ?_
                refine z_iald (a := ((B ob) + 3)) (n := 2) (f := (zcb g 4 ob)) (j := (k % 2)) hx hb hK hBdm88 3 0 rfl rfl rfl (by omega) (by omega) dX6_pass_182 ?_
                refine lv_iconst (v := 1) hx hb dX6_pass_183 (by decide) ?_
                refine lv_iadd hx hb dX6_pass_184 ?_
                refine lv_goto (tgt := 190) hx hb dX6_pass_185 (by decide) ?_
                refine z_iast (n := 2) (f := (zcb g 4 k)) (x := ((zcb g 4 ob (k % 2)) + 1)) (j := (k % 2)) hx hb hK hW87 (by show _ = o ∨ t ≤ _; omega) hS 3 0 rfl rfl rfl (by omega) (by omega) dX6_pass_190 (fun H126 lo127 hP1 hz1 hk1 hS => ?_)
                have hsz : H126.size = (t + 1 + 5 * k) + 5 := by omega
                have hz : H.size ≤ H126.size := by omega
                have hO128 := zOb_kept hO80 (fun q h1 h2 h3 => (fun q _ h => hk1 q h) q h1 (by omega))
                have hQ129 := zQr_kept hQ81 (fun q h1 h2 h3 => (fun q _ h => hk1 q h) q h1 (by omega))
                have hF130 := zFm_kept hsp hF82 (fun q h1 h2 h3 => (fun q _ h => hk1 q h) q h1 (by omega))
                have hQ131 := zQr_kept hQ83 (fun q h1 h2 h3 => (fun q _ h => hk1 q h) q h1 (by omega))
                have hFN132 := zFmN_kept hsp hkn hFN84 (fun q h1 h2 h3 => (fun q _ h => hk1 q h) q h1 (by omega))
                have hBdm133 := zBw_kept hBdm85 (fun q h1 h2 h3 => (fun q _ h => hk1 q h) q h1 (by omega))
                have hEam134 := zAr_kept hEam86 (fun q h1 h2 h3 => (fun q _ h => hk1 q h) q h1 (by omega))
                have hW135 : va_P D vwCl (zBw cI (t + 1 + 5 * k) (E k) (upd (zcb g 0 k) (k % 2) (zcb g 0 ob (k % 2))) (upd (zcb g 2 k) (k % 2) (nI ob)) (upd (zcb g 4 k) (k % 2) ((zcb g 4 ob (k % 2)) + 1)) (g 6 k) (me k) (lo k)) H126 := z_set zBw_c hW87 3 rfl hP1 (fun q _ h => hk1 q h)
                have hBdm136 := zBw_kept hBdm88 (fun q h1 h2 h3 => (fun q _ h => hk1 q h) q h1 (by omega))
                have hEam137 := zAr_kept hEam89 (fun q h1 h2 h3 => (fun q _ h => hk1 q h) q h1 (by omega))
                refine lv_aload hx hb dX6_pass_191 (lv_at hl 3 rfl) ?_
                refine lv_iconst (v := 1) hx hb dX6_pass_193 (by decide) ?_
                refine z_put (D := D) (ci := 5) (v := .int 1) (ty := .int) (C := RX5) (T := TX5) (N := 7) hx hb hts hinX5 tyX5 tyX5_ok nmX5 hown hK hW135 (by show _ = o ∨ t ≤ _; omega) hS 0 rfl rfl 3 (by decide) (hts _ (List.mem_of_getElem? (i := 3) rfl)) (fun _ h9 => h9) rfl (by decide +kernel) rfl rfl (Nat.le_of_ble_eq_true rfl) dX6_pass_194 (fun H138 lo139 hP1 hz1 hk1 hS => ?_)
                have hsz : H138.size = (t + 1 + 5 * k) + 5 := by omega
                have hz : H.size ≤ H138.size := by omega
                have hO140 := zOb_kept hO128 (fun q h1 h2 h3 => (fun q _ h => hk1 q h) q h1 (by omega))
                have hQ141 := zQr_kept hQ129 (fun q h1 h2 h3 => (fun q _ h => hk1 q h) q h1 (by omega))
                have hF142 := zFm_kept hsp hF130 (fun q h1 h2 h3 => (fun q _ h => hk1 q h) q h1 (by omega))
                have hQ143 := zQr_kept hQ131 (fun q h1 h2 h3 => (fun q _ h => hk1 q h) q h1 (by omega))
                have hFN144 := zFmN_kept hsp hkn hFN132 (fun q h1 h2 h3 => (fun q _ h => hk1 q h) q h1 (by omega))
                have hBdm145 := zBw_kept hBdm133 (fun q h1 h2 h3 => (fun q _ h => hk1 q h) q h1 (by omega))
                have hEam146 := zAr_kept hEam134 (fun q h1 h2 h3 => (fun q _ h => hk1 q h) q h1 (by omega))
                have hW147 : va_P D vwCl (zBw cI (t + 1 + 5 * k) (E k) (upd (zcb g 0 k) (k % 2) (zcb g 0 ob (k % 2))) (upd (zcb g 2 k) (k % 2) (nI ob)) (upd (zcb g 4 k) (k % 2) ((zcb g 4 ob (k % 2)) + 1)) 1 (me k) (lo k)) H138 := z_set zBw_c hW135 0 rfl hP1 (fun q _ h => hk1 q h)
                have hBdm148 := zBw_kept hBdm136 (fun q h1 h2 h3 => (fun q _ h => hk1 q h) q h1 (by omega))
                have hEam149 := zAr_kept hEam137 (fun q h1 h2 h3 => (fun q _ h => hk1 q h) q h1 (by omega))
                refine lv_iinc (v := (((hA lo c e g (0, g) k).1) + 1)) (lv' := [(2, .int (((hA lo c e g (0, g) k).1) + 1)), (7, .int (nI (k % 2))), (6, .ref (B ob)), (5, .int (nI ob)), (4, .ref (t + 1 + 5 * k)), (3, .int (nI k)), (1, .ref t), (0, .ref o)]) hx hb dX6_pass_197 hl (k := 5) rfl rfl (by decide) rfl (fun ls hl => ?_)
                have hmid : zMid lo c e g k (upd (zcb g 0 k) (k % 2) (zcb g 0 ob (k % 2))) (upd (zcb g 2 k) (k % 2) (nI ob)) (upd (zcb g 4 k) (k % 2) ((zcb g 4 ob (k % 2)) + 1)) 1 1 := zmid_T hho c75 c112 (zov_n hV hob h7 c172)
                refine lv_aload_n hx hb dX6_pass_200 rfl (lv_at hl 7 rfl) ?_
                refine va_get (D := D) (ci := 6) (v := .int rd) (C := RX6) (T := TX6) (N := 3) hx hb hts hinX6 hown hK hO140 0 rfl rfl 1 (by decide) (hts _ (List.mem_of_getElem? (i := 7) rfl)) (fun _ h9 => h9) rfl dX6_pass_201 ?_
                refine lv_aload hx hb dX6_pass_204 (lv_at hl 4 rfl) ?_
                refine va_get (D := D) (ci := 5) (v := .int (me k)) (C := RX5) (T := TX5) (N := 7) hx hb hts hinX5 hown hK hW147 0 rfl rfl 4 (by decide) (hts _ (List.mem_of_getElem? (i := 8) rfl)) (fun _ h9 => h9) rfl dX6_pass_206 ?_
                refine lv_iconst (v := 1) hx hb dX6_pass_209 (by decide) ?_
                refine lv_iadd hx hb dX6_pass_210 ?_
                refine lv_irem hx hb dX6_pass_211 (zI_span0 hI (by omega)) ?_
                refine z_toi (y := zrem rd ((me k) + 1)) rfl ?_
                refine lv_if_ne (tgt := 234) hx hb dX6_pass_212 (by decide) (fun c212 => ?_) (fun c212 => ?_)
                · refine lv_iinc (v := (nI (k + 1))) (lv' := [(3, .int (nI (k + 1))), (2, .int (((hA lo c e g (0, g) k).1) + 1)), (7, .int (nI (k % 2))), (6, .ref (B ob)), (5, .int (nI ob)), (4, .ref (t + 1 + 5 * k)), (1, .ref t), (0, .ref o)]) hx hb dX6_pass_234 hl (k := 5) rfl (nI_1 _) (by decide) rfl (fun ls hl => ?_)
                  refine lv_goto (tgt := 13) hx hb dX6_pass_237 (by decide) ?_
                  refine W.widen (k := 1 + 5 * (k + 1)) (n := n + 13 * (k + 1)) (by omega) (by omega) ?_
                  exact ih (k + 1) (by omega) (by omega) _ (rfl) _ (by rw [hA_cnt, ← hmid.2.1]) _ _ (hO140) (hQ141) (hF142) (by rw [← zbf_upN]; exact hQ143) (zFmN_push hFN144 hW147 hEam146 (zcol_fin (by omega) hmid (zfs_ne c212))) (by omega) hz hS _ (lv_sub hl [0, 1, 6, 7] rfl)
                · refine lv_aload hx hb dX6_pass_215 (lv_at hl 4 rfl) ?_
                  refine va_get (D := D) (ci := 5) (v := .int 1) (C := RX5) (T := TX5) (N := 7) hx hb hts hinX5 hown hK hW147 0 rfl rfl 3 (by decide) (hts _ (List.mem_of_getElem? (i := 3) rfl)) (fun _ h9 => h9) rfl dX6_pass_217 ?_
                  refine lv_if_le (tgt := 234) hx hb dX6_pass_220 (by decide) (fun c220 => ?_) (fun c220 => ?_)
                  · exact absurd c220 (by decide)
                  · have c220 := z_nle (a := 1) (b := 0) c220 (by omega) (by omega)
                    refine lv_aload hx hb dX6_pass_223 (lv_at hl 4 rfl) ?_
                    refine lv_dup hx hb dX6_pass_225 rfl ?_
                    refine va_get (D := D) (ci := 5) (v := .int 1) (C := RX5) (T := TX5) (N := 7) hx hb hts hinX5 hown hK hW147 0 rfl rfl 3 (by decide) (hts _ (List.mem_of_getElem? (i := 3) rfl)) (fun _ h9 => h9) rfl dX6_pass_226 ?_
                    refine lv_iconst (v := 1) hx hb dX6_pass_229 (by decide) ?_
                    refine lv_isub hx hb dX6_pass_230 ?_
                    refine z_put (D := D) (ci := 5) (v := .int (1 - 1)) (ty := .int) (C := RX5) (T := TX5) (N := 7) hx hb hts hinX5 tyX5 tyX5_ok nmX5 hown hK hW147 (by show _ = o ∨ t ≤ _; omega) hS 0 rfl rfl 3 (by decide) (hts _ (List.mem_of_getElem? (i := 3) rfl)) (fun _ h9 => h9) rfl (by decide +kernel) rfl rfl (Nat.le_of_ble_eq_true rfl) dX6_pass_231 (fun H150 lo151 hP1 hz1 hk1 hS => ?_)
                    have hsz : H150.size = (t + 1 + 5 * k) + 5 := by omega
                    have hz : H.size ≤ H150.size := by omega
                    have hO152 := zOb_kept hO140 (fun q h1 h2 h3 => (fun q _ h => hk1 q h) q h1 (by omega))
                    have hQ153 := zQr_kept hQ141 (fun q h1 h2 h3 => (fun q _ h => hk1 q h) q h1 (by omega))
                    have hF154 := zFm_kept hsp hF142 (fun q h1 h2 h3 => (fun q _ h => hk1 q h) q h1 (by omega))
                    have hQ155 := zQr_kept hQ143 (fun q h1 h2 h3 => (fun q _ h => hk1 q h) q h1 (by omega))
                    have hFN156 := zFmN_kept hsp hkn hFN144 (fun q h1 h2 h3 => (fun q _ h => hk1 q h) q h1 (by omega))
                    have hBdm157 := zBw_kept hBdm145 (fun q h1 h2 h3 => (fun q _ h => hk1 q h) q h1 (by omega))
                    have hEam158 := zAr_kept hEam146 (fun q h1 h2 h3 => (fun q _ h => hk1 q h) q h1 (by omega))
                    have hW159 : va_P D vwCl (zBw cI (t + 1 + 5 * k) (E k) (upd (zcb g 0 k) (k % 2) (zcb g 0 ob (k % 2))) (upd (zcb g 2 k) (k % 2) (nI ob)) (upd (zcb g 4 k) (k % 2) ((zcb g 4 ob (k % 2)) + 1)) (1 - 1) (me k) (lo k)) H150 := z_set zBw_c hW147 0 rfl hP1 (fun q _ h => hk1 q h)
                    have hBdm160 := zBw_kept hBdm148 (fun q h1 h2 h3 => (fun q _ h => hk1 q h) q h1 (by omega))
                    have hEam161 := zAr_kept hEam149 (fun q h1 h2 h3 => (fun q _ h => hk1 q h) q h1 (by omega))
                    refine lv_iinc (v := (nI (k + 1))) (lv' := [(3, .int (nI (k + 1))), (2, .int (((hA lo c e g (0, g) k).1) + 1)), (7, .int (nI (k % 2))), (6, .ref (B ob)), (5, .int (nI ob)), (4, .ref (t + 1 + 5 * k)), (1, .ref t), (0, .ref o)]) hx hb dX6_pass_234 hl (k := 5) rfl (nI_1 _) (by decide) rfl (fun ls hl => ?_)
                    refine lv_goto (tgt := 13) hx hb dX6_pass_237 (by decide) ?_
                    refine W.widen (k := 1 + 5 * (k + 1)) (n := n + 13 * (k + 1)) (by omega) (by omega) ?_
                    exact ih (k + 1) (by omega) (by omega) _ (rfl) _ (by rw [hA_cnt, ← hmid.2.1]) _ _ (hO152) (hQ153) (hF154) (by rw [← zbf_upN]; exact hQ155) (zFmN_push hFN156 hW159 hEam158 (zcol_fin (by omega) hmid (zfs_gt c212 (by decide) hmid.2.2))) (by omega) hz hS _ (lv_sub hl [0, 1, 6, 7] rfl)
            · refine lv_aload hx hb dX6_pass_115 (lv_at hl 3 rfl) ?_
              refine lv_dup hx hb dX6_pass_117 rfl ?_
              refine va_get (D := D) (ci := 5) (v := .int (g 6 k)) (C := RX5) (T := TX5) (N := 7) hx hb hts hinX5 hown hK hW54 0 rfl rfl 3 (by decide) (hts _ (List.mem_of_getElem? (i := 3) rfl)) (fun _ h9 => h9) rfl dX6_pass_118 ?_
              refine lv_iconst (v := 1) hx hb dX6_pass_121 (by decide) ?_
              refine lv_isub hx hb dX6_pass_122 ?_
              refine z_put (D := D) (ci := 5) (v := .int ((g 6 k) - 1)) (ty := .int) (C := RX5) (T := TX5) (N := 7) hx hb hts hinX5 tyX5 tyX5_ok nmX5 hown hK hW54 (by show _ = o ∨ t ≤ _; omega) hS 0 rfl rfl 3 (by decide) (hts _ (List.mem_of_getElem? (i := 3) rfl)) (fun _ h9 => h9) rfl (by decide +kernel) rfl rfl (Nat.le_of_ble_eq_true rfl) dX6_pass_123 (fun H162 lo163 hP1 hz1 hk1 hS => ?_)
              have hsz : H162.size = (t + 1 + 5 * k) + 5 := by omega
              have hz : H.size ≤ H162.size := by omega
              have hO164 := zOb_kept hO47 (fun q h1 h2 h3 => (fun q _ h => hk1 q h) q h1 (by omega))
              have hQ165 := zQr_kept hQ48 (fun q h1 h2 h3 => (fun q _ h => hk1 q h) q h1 (by omega))
              have hF166 := zFm_kept hsp hF49 (fun q h1 h2 h3 => (fun q _ h => hk1 q h) q h1 (by omega))
              have hQ167 := zQr_kept hQ50 (fun q h1 h2 h3 => (fun q _ h => hk1 q h) q h1 (by omega))
              have hFN168 := zFmN_kept hsp hkn hFN51 (fun q h1 h2 h3 => (fun q _ h => hk1 q h) q h1 (by omega))
              have hBdm169 := zBw_kept hBdm52 (fun q h1 h2 h3 => (fun q _ h => hk1 q h) q h1 (by omega))
              have hEam170 := zAr_kept hEam53 (fun q h1 h2 h3 => (fun q _ h => hk1 q h) q h1 (by omega))
              have hW171 : va_P D vwCl (zBw cI (t + 1 + 5 * k) (E k) (zcb g 0 k) (zcb g 2 k) (zcb g 4 k) ((g 6 k) - 1) (me k) (lo k)) H162 := z_set zBw_c hW54 0 rfl hP1 (fun q _ h => hk1 q h)
              have hBdm172 := zBw_kept hBdm65 (fun q h1 h2 h3 => (fun q _ h => hk1 q h) q h1 (by omega))
              have hEam173 := zAr_kept hEam65 (fun q h1 h2 h3 => (fun q _ h => hk1 q h) q h1 (by omega))
              refine lv_goto (tgt := 200) hx hb dX6_pass_126 (by decide) ?_
              have hmid : zMid lo c e g k (zcb g 0 k) (zcb g 2 k) (zcb g 4 k) ((g 6 k) - 1) 0 := zmid_K hho c75 c112 hz6 hzo6
              refine lv_aload_n hx hb dX6_pass_200 rfl (lv_at hl 7 rfl) ?_
              refine va_get (D := D) (ci := 6) (v := .int rd) (C := RX6) (T := TX6) (N := 3) hx hb hts hinX6 hown hK hO164 0 rfl rfl 1 (by decide) (hts _ (List.mem_of_getElem? (i := 7) rfl)) (fun _ h9 => h9) rfl dX6_pass_201 ?_
              refine lv_aload hx hb dX6_pass_204 (lv_at hl 3 rfl) ?_
              refine va_get (D := D) (ci := 5) (v := .int (me k)) (C := RX5) (T := TX5) (N := 7) hx hb hts hinX5 hown hK hW171 0 rfl rfl 4 (by decide) (hts _ (List.mem_of_getElem? (i := 8) rfl)) (fun _ h9 => h9) rfl dX6_pass_206 ?_
              refine lv_iconst (v := 1) hx hb dX6_pass_209 (by decide) ?_
              refine lv_iadd hx hb dX6_pass_210 ?_
              refine lv_irem hx hb dX6_pass_211 (zI_span0 hI (by omega)) ?_
              refine z_toi (y := zrem rd ((me k) + 1)) rfl ?_
              refine lv_if_ne (tgt := 234) hx hb dX6_pass_212 (by decide) (fun c212 => ?_) (fun c212 => ?_)
              · refine lv_iinc (v := (nI (k + 1))) (lv' := [(3, .int (nI (k + 1))), (7, .int (nI (k % 2))), (6, .ref (B ob)), (5, .int (nI ob)), (4, .ref (t + 1 + 5 * k)), (2, .int ((hA lo c e g (0, g) k).1)), (1, .ref t), (0, .ref o)]) hx hb dX6_pass_234 hl (k := 4) rfl (nI_1 _) (by decide) rfl (fun ls hl => ?_)
                refine lv_goto (tgt := 13) hx hb dX6_pass_237 (by decide) ?_
                refine W.widen (k := 1 + 5 * (k + 1)) (n := n + 13 * (k + 1)) (by omega) (by omega) ?_
                exact ih (k + 1) (by omega) (by omega) _ (rfl) _ (by rw [hA_cnt, ← hmid.2.1, Int32.add_zero]) _ _ (hO164) (hQ165) (hF166) (by rw [← zbf_upN]; exact hQ167) (zFmN_push hFN168 hW171 hEam170 (zcol_fin (by omega) hmid (zfs_ne c212))) (by omega) hz hS _ (lv_sub hl [0, 5, 6, 7] rfl)
              · refine lv_aload hx hb dX6_pass_215 (lv_at hl 3 rfl) ?_
                refine va_get (D := D) (ci := 5) (v := .int ((g 6 k) - 1)) (C := RX5) (T := TX5) (N := 7) hx hb hts hinX5 hown hK hW171 0 rfl rfl 3 (by decide) (hts _ (List.mem_of_getElem? (i := 3) rfl)) (fun _ h9 => h9) rfl dX6_pass_217 ?_
                refine lv_if_le (tgt := 234) hx hb dX6_pass_220 (by decide) (fun c220 => ?_) (fun c220 => ?_)
                · refine lv_iinc (v := (nI (k + 1))) (lv' := [(3, .int (nI (k + 1))), (7, .int (nI (k % 2))), (6, .ref (B ob)), (5, .int (nI ob)), (4, .ref (t + 1 + 5 * k)), (2, .int ((hA lo c e g (0, g) k).1)), (1, .ref t), (0, .ref o)]) hx hb dX6_pass_234 hl (k := 4) rfl (nI_1 _) (by decide) rfl (fun ls hl => ?_)
                  refine lv_goto (tgt := 13) hx hb dX6_pass_237 (by decide) ?_
                  refine W.widen (k := 1 + 5 * (k + 1)) (n := n + 13 * (k + 1)) (by omega) (by omega) ?_
                  exact ih (k + 1) (by omega) (by omega) _ (rfl) _ (by rw [hA_cnt, ← hmid.2.1, Int32.add_zero]) _ _ (hO164) (hQ165) (hF166) (by rw [← zbf_upN]; exact hQ167) (zFmN_push hFN168 hW171 hEam170 (zcol_fin (by omega) hmid (zfs_le c212 c220 hmid.2.2))) (by omega) hz hS _ (lv_sub hl [0, 5, 6, 7] rfl)
                · refine lv_aload hx hb dX6_pass_223 (lv_at hl 3 rfl) ?_
                  refine lv_dup hx hb dX6_pass_225 rfl ?_
                  refine va_get (D := D) (ci := 5) (v := .int ((g 6 k) - 1)) (C := RX5) (T := TX5) (N := 7) hx hb hts hinX5 hown hK hW171 0 rfl rfl 3 (by decide) (hts _ (List.mem_of_getElem? (i := 3) rfl)) (fun _ h9 => h9) rfl dX6_pass_226 ?_
                  refine lv_iconst (v := 1) hx hb dX6_pass_229 (by decide) ?_
                  refine lv_isub hx hb dX6_pass_230 ?_
                  refine z_put (D := D) (ci := 5) (v := .int (((g 6 k) - 1) - 1)) (ty := .int) (C := RX5) (T := TX5) (N := 7) hx hb hts hinX5 tyX5 tyX5_ok nmX5 hown hK hW171 (by show _ = o ∨ t ≤ _; omega) hS 0 rfl rfl 3 (by decide) (hts _ (List.mem_of_getElem? (i := 3) rfl)) (fun _ h9 => h9) rfl (by decide +kernel) rfl rfl (Nat.le_of_ble_eq_true rfl) dX6_pass_231 (fun H174 lo175 hP1 hz1 hk1 hS => ?_)
                  have hsz : H174.size = (t + 1 + 5 * k) + 5 := by omega
                  have hz : H.size ≤ H174.size := by omega
                  have hO176 := zOb_kept hO164 (fun q h1 h2 h3 => (fun q _ h => hk1 q h) q h1 (by omega))
                  have hQ177 := zQr_kept hQ165 (fun q h1 h2 h3 => (fun q _ h => hk1 q h) q h1 (by omega))
                  have hF178 := zFm_kept hsp hF166 (fun q h1 h2 h3 => (fun q _ h => hk1 q h) q h1 (by omega))
                  have hQ179 := zQr_kept hQ167 (fun q h1 h2 h3 => (fun q _ h => hk1 q h) q h1 (by omega))
                  have hFN180 := zFmN_kept hsp hkn hFN168 (fun q h1 h2 h3 => (fun q _ h => hk1 q h) q h1 (by omega))
                  have hBdm181 := zBw_kept hBdm169 (fun q h1 h2 h3 => (fun q _ h => hk1 q h) q h1 (by omega))
                  have hEam182 := zAr_kept hEam170 (fun q h1 h2 h3 => (fun q _ h => hk1 q h) q h1 (by omega))
                  have hW183 : va_P D vwCl (zBw cI (t + 1 + 5 * k) (E k) (zcb g 0 k) (zcb g 2 k) (zcb g 4 k) (((g 6 k) - 1) - 1) (me k) (lo k)) H174 := z_set zBw_c hW171 0 rfl hP1 (fun q _ h => hk1 q h)
                  have hBdm184 := zBw_kept hBdm172 (fun q h1 h2 h3 => (fun q _ h => hk1 q h) q h1 (by omega))
                  have hEam185 := zAr_kept hEam173 (fun q h1 h2 h3 => (fun q _ h => hk1 q h) q h1 (by omega))
                  refine lv_iinc (v := (nI (k + 1))) (lv' := [(3, .int (nI (k + 1))), (7, .int (nI (k % 2))), (6, .ref (B ob)), (5, .int (nI ob)), (4, .ref (t + 1 + 5 * k)), (2, .int ((hA lo c e g (0, g) k).1)), (1, .ref t), (0, .ref o)]) hx hb dX6_pass_234 hl (k := 4) rfl (nI_1 _) (by decide) rfl (fun ls hl => ?_)
                  refine lv_goto (tgt := 13) hx hb dX6_pass_237 (by decide) ?_
                  refine W.widen (k := 1 + 5 * (k + 1)) (n := n + 13 * (k + 1)) (by omega) (by omega) ?_
                  exact ih (k + 1) (by omega) (by omega) _ (rfl) _ (by rw [hA_cnt, ← hmid.2.1, Int32.add_zero]) _ _ (hO176) (hQ177) (hF178) (by rw [← zbf_upN]; exact hQ179) (zFmN_push hFN180 hW183 hEam182 (zcol_fin (by omega) hmid (zfs_gt c212 c220 hmid.2.2))) (by omega) hz hS _ (lv_sub hl [0, 5, 6, 7] rfl)
          · refine lv_aload hx hb dX6_pass_78 (lv_at hl 3 rfl) ?_
            refine va_get (D := D) (ci := 5) (v := .int (g 6 k)) (C := RX5) (T := TX5) (N := 7) hx hb hts hinX5 hown hK hW54 0 rfl rfl 3 (by decide) (hts _ (List.mem_of_getElem? (i := 3) rfl)) (fun _ h9 => h9) rfl dX6_pass_80 ?_
            refine lv_bipush (v := 9) hx hb dX6_pass_83 (by decide) ?_
            refine lv_icmp_ge (tgt := 200) hx hb dX6_pass_85 (by decide) (fun c85 => ?_) (fun c85 => ?_)
            · have hmid : zMid lo c e g k (zcb g 0 k) (zcb g 2 k) (zcb g 4 k) (g 6 k) 0 := zmid_9 hho c75 c85 hz6
              refine lv_aload_n hx hb dX6_pass_200 rfl (lv_at hl 7 rfl) ?_
              refine va_get (D := D) (ci := 6) (v := .int rd) (C := RX6) (T := TX6) (N := 3) hx hb hts hinX6 hown hK hO47 0 rfl rfl 1 (by decide) (hts _ (List.mem_of_getElem? (i := 7) rfl)) (fun _ h9 => h9) rfl dX6_pass_201 ?_
              refine lv_aload hx hb dX6_pass_204 (lv_at hl 3 rfl) ?_
              refine va_get (D := D) (ci := 5) (v := .int (me k)) (C := RX5) (T := TX5) (N := 7) hx hb hts hinX5 hown hK hW54 0 rfl rfl 4 (by decide) (hts _ (List.mem_of_getElem? (i := 8) rfl)) (fun _ h9 => h9) rfl dX6_pass_206 ?_
              refine lv_iconst (v := 1) hx hb dX6_pass_209 (by decide) ?_
              refine lv_iadd hx hb dX6_pass_210 ?_
              refine lv_irem hx hb dX6_pass_211 (zI_span0 hI (by omega)) ?_
              refine z_toi (y := zrem rd ((me k) + 1)) rfl ?_
              refine lv_if_ne (tgt := 234) hx hb dX6_pass_212 (by decide) (fun c212 => ?_) (fun c212 => ?_)
              · refine lv_iinc (v := (nI (k + 1))) (lv' := [(3, .int (nI (k + 1))), (7, .int (nI (k % 2))), (6, .ref (B ob)), (5, .int (nI ob)), (4, .ref (t + 1 + 5 * k)), (2, .int ((hA lo c e g (0, g) k).1)), (1, .ref t), (0, .ref o)]) hx hb dX6_pass_234 hl (k := 4) rfl (nI_1 _) (by decide) rfl (fun ls hl => ?_)
                refine lv_goto (tgt := 13) hx hb dX6_pass_237 (by decide) ?_
                refine W.widen (k := 1 + 5 * (k + 1)) (n := n + 13 * (k + 1)) (by omega) (by omega) ?_
                exact ih (k + 1) (by omega) (by omega) _ (rfl) _ (by rw [hA_cnt, ← hmid.2.1, Int32.add_zero]) _ _ (hO47) (hQ48) (hF49) (by rw [← zbf_upN]; exact hQ50) (zFmN_push hFN51 hW54 hEam53 (zcol_fin (by omega) hmid (zfs_ne c212))) (by omega) hz hS _ (lv_sub hl [0, 5, 6, 7] rfl)
              · refine lv_aload hx hb dX6_pass_215 (lv_at hl 3 rfl) ?_
                refine va_get (D := D) (ci := 5) (v := .int (g 6 k)) (C := RX5) (T := TX5) (N := 7) hx hb hts hinX5 hown hK hW54 0 rfl rfl 3 (by decide) (hts _ (List.mem_of_getElem? (i := 3) rfl)) (fun _ h9 => h9) rfl dX6_pass_217 ?_
                refine lv_if_le (tgt := 234) hx hb dX6_pass_220 (by decide) (fun c220 => ?_) (fun c220 => ?_)
                · refine lv_iinc (v := (nI (k + 1))) (lv' := [(3, .int (nI (k + 1))), (7, .int (nI (k % 2))), (6, .ref (B ob)), (5, .int (nI ob)), (4, .ref (t + 1 + 5 * k)), (2, .int ((hA lo c e g (0, g) k).1)), (1, .ref t), (0, .ref o)]) hx hb dX6_pass_234 hl (k := 4) rfl (nI_1 _) (by decide) rfl (fun ls hl => ?_)
                  refine lv_goto (tgt := 13) hx hb dX6_pass_237 (by decide) ?_
                  refine W.widen (k := 1 + 5 * (k + 1)) (n := n + 13 * (k + 1)) (by omega) (by omega) ?_
                  exact ih (k + 1) (by omega) (by omega) _ (rfl) _ (by rw [hA_cnt, ← hmid.2.1, Int32.add_zero]) _ _ (hO47) (hQ48) (hF49) (by rw [← zbf_upN]; exact hQ50) (zFmN_push hFN51 hW54 hEam53 (zcol_fin (by omega) hmid (zfs_le c212 c220 hmid.2.2))) (by omega) hz hS _ (lv_sub hl [0, 5, 6, 7] rfl)
                · refine lv_aload hx hb dX6_pass_223 (lv_at hl 3 rfl) ?_
                  refine lv_dup hx hb dX6_pass_225 rfl ?_
                  refine va_get (D := D) (ci := 5) (v := .int (g 6 k)) (C := RX5) (T := TX5) (N := 7) hx hb hts hinX5 hown hK hW54 0 rfl rfl 3 (by decide) (hts _ (List.mem_of_getElem? (i := 3) rfl)) (fun _ h9 => h9) rfl dX6_pass_226 ?_
                  refine lv_iconst (v := 1) hx hb dX6_pass_229 (by decide) ?_
                  refine lv_isub hx hb dX6_pass_230 ?_
                  refine z_put (D := D) (ci := 5) (v := .int ((g 6 k) - 1)) (ty := .int) (C := RX5) (T := TX5) (N := 7) hx hb hts hinX5 tyX5 tyX5_ok nmX5 hown hK hW54 (by show _ = o ∨ t ≤ _; omega) hS 0 rfl rfl 3 (by decide) (hts _ (List.mem_of_getElem? (i := 3) rfl)) (fun _ h9 => h9) rfl (by decide +kernel) rfl rfl (Nat.le_of_ble_eq_true rfl) dX6_pass_231 (fun H186 lo187 hP1 hz1 hk1 hS => ?_)
                  have hsz : H186.size = (t + 1 + 5 * k) + 5 := by omega
                  have hz : H.size ≤ H186.size := by omega
                  have hO188 := zOb_kept hO47 (fun q h1 h2 h3 => (fun q _ h => hk1 q h) q h1 (by omega))
                  have hQ189 := zQr_kept hQ48 (fun q h1 h2 h3 => (fun q _ h => hk1 q h) q h1 (by omega))
                  have hF190 := zFm_kept hsp hF49 (fun q h1 h2 h3 => (fun q _ h => hk1 q h) q h1 (by omega))
                  have hQ191 := zQr_kept hQ50 (fun q h1 h2 h3 => (fun q _ h => hk1 q h) q h1 (by omega))
                  have hFN192 := zFmN_kept hsp hkn hFN51 (fun q h1 h2 h3 => (fun q _ h => hk1 q h) q h1 (by omega))
                  have hBdm193 := zBw_kept hBdm52 (fun q h1 h2 h3 => (fun q _ h => hk1 q h) q h1 (by omega))
                  have hEam194 := zAr_kept hEam53 (fun q h1 h2 h3 => (fun q _ h => hk1 q h) q h1 (by omega))
                  have hW195 : va_P D vwCl (zBw cI (t + 1 + 5 * k) (E k) (zcb g 0 k) (zcb g 2 k) (zcb g 4 k) ((g 6 k) - 1) (me k) (lo k)) H186 := z_set zBw_c hW54 0 rfl hP1 (fun q _ h => hk1 q h)
                  have hBdm196 := zBw_kept hBdm65 (fun q h1 h2 h3 => (fun q _ h => hk1 q h) q h1 (by omega))
                  have hEam197 := zAr_kept hEam65 (fun q h1 h2 h3 => (fun q _ h => hk1 q h) q h1 (by omega))
                  refine lv_iinc (v := (nI (k + 1))) (lv' := [(3, .int (nI (k + 1))), (7, .int (nI (k % 2))), (6, .ref (B ob)), (5, .int (nI ob)), (4, .ref (t + 1 + 5 * k)), (2, .int ((hA lo c e g (0, g) k).1)), (1, .ref t), (0, .ref o)]) hx hb dX6_pass_234 hl (k := 4) rfl (nI_1 _) (by decide) rfl (fun ls hl => ?_)
                  refine lv_goto (tgt := 13) hx hb dX6_pass_237 (by decide) ?_
                  refine W.widen (k := 1 + 5 * (k + 1)) (n := n + 13 * (k + 1)) (by omega) (by omega) ?_
                  exact ih (k + 1) (by omega) (by omega) _ (rfl) _ (by rw [hA_cnt, ← hmid.2.1, Int32.add_zero]) _ _ (hO188) (hQ189) (hF190) (by rw [← zbf_upN]; exact hQ191) (zFmN_push hFN192 hW195 hEam194 (zcol_fin (by omega) hmid (zfs_gt c212 c220 hmid.2.2))) (by omega) hz hS _ (lv_sub hl [0, 5, 6, 7] rfl)
            · refine lv_aload hx hb dX6_pass_88 (lv_at hl 3 rfl) ?_
              refine lv_dup hx hb dX6_pass_90 rfl ?_
              refine va_get (D := D) (ci := 5) (v := .int (g 6 k)) (C := RX5) (T := TX5) (N := 7) hx hb hts hinX5 hown hK hW54 0 rfl rfl 3 (by decide) (hts _ (List.mem_of_getElem? (i := 3) rfl)) (fun _ h9 => h9) rfl dX6_pass_91 ?_
              refine lv_iconst (v := 1) hx hb dX6_pass_94 (by decide) ?_
              refine lv_iadd hx hb dX6_pass_95 ?_
              refine z_put (D := D) (ci := 5) (v := .int ((g 6 k) + 1)) (ty := .int) (C := RX5) (T := TX5) (N := 7) hx hb hts hinX5 tyX5 tyX5_ok nmX5 hown hK hW54 (by show _ = o ∨ t ≤ _; omega) hS 0 rfl rfl 3 (by decide) (hts _ (List.mem_of_getElem? (i := 3) rfl)) (fun _ h9 => h9) rfl (by decide +kernel) rfl rfl (Nat.le_of_ble_eq_true rfl) dX6_pass_96 (fun H198 lo199 hP1 hz1 hk1 hS => ?_)
              have hsz : H198.size = (t + 1 + 5 * k) + 5 := by omega
              have hz : H.size ≤ H198.size := by omega
              have hO200 := zOb_kept hO47 (fun q h1 h2 h3 => (fun q _ h => hk1 q h) q h1 (by omega))
              have hQ201 := zQr_kept hQ48 (fun q h1 h2 h3 => (fun q _ h => hk1 q h) q h1 (by omega))
              have hF202 := zFm_kept hsp hF49 (fun q h1 h2 h3 => (fun q _ h => hk1 q h) q h1 (by omega))
              have hQ203 := zQr_kept hQ50 (fun q h1 h2 h3 => (fun q _ h => hk1 q h) q h1 (by omega))
              have hFN204 := zFmN_kept hsp hkn hFN51 (fun q h1 h2 h3 => (fun q _ h => hk1 q h) q h1 (by omega))
              have hBdm205 := zBw_kept hBdm52 (fun q h1 h2 h3 => (fun q _ h => hk1 q h) q h1 (by omega))
              have hEam206 := zAr_kept hEam53 (fun q h1 h2 h3 => (fun q _ h => hk1 q h) q h1 (by omega))
              have hW207 : va_P D vwCl (zBw cI (t + 1 + 5 * k) (E k) (zcb g 0 k) (zcb g 2 k) (zcb g 4 k) ((g 6 k) + 1) (me k) (lo k)) H198 := z_set zBw_c hW54 0 rfl hP1 (fun q _ h => hk1 q h)
              have hBdm208 := zBw_kept hBdm65 (fun q h1 h2 h3 => (fun q _ h => hk1 q h) q h1 (by omega))
              have hEam209 := zAr_kept hEam65 (fun q h1 h2 h3 => (fun q _ h => hk1 q h) q h1 (by omega))
              refine lv_goto (tgt := 200) hx hb dX6_pass_99 (by decide) ?_
              have hmid : zMid lo c e g k (zcb g 0 k) (zcb g 2 k) (zcb g 4 k) ((g 6 k) + 1) 0 := zmid_A hho c75 c85 hz6
              refine lv_aload_n hx hb dX6_pass_200 rfl (lv_at hl 7 rfl) ?_
              refine va_get (D := D) (ci := 6) (v := .int rd) (C := RX6) (T := TX6) (N := 3) hx hb hts hinX6 hown hK hO200 0 rfl rfl 1 (by decide) (hts _ (List.mem_of_getElem? (i := 7) rfl)) (fun _ h9 => h9) rfl dX6_pass_201 ?_
              refine lv_aload hx hb dX6_pass_204 (lv_at hl 3 rfl) ?_
              refine va_get (D := D) (ci := 5) (v := .int (me k)) (C := RX5) (T := TX5) (N := 7) hx hb hts hinX5 hown hK hW207 0 rfl rfl 4 (by decide) (hts _ (List.mem_of_getElem? (i := 8) rfl)) (fun _ h9 => h9) rfl dX6_pass_206 ?_
              refine lv_iconst (v := 1) hx hb dX6_pass_209 (by decide) ?_
              refine lv_iadd hx hb dX6_pass_210 ?_
              refine lv_irem hx hb dX6_pass_211 (zI_span0 hI (by omega)) ?_
              refine z_toi (y := zrem rd ((me k) + 1)) rfl ?_
              refine lv_if_ne (tgt := 234) hx hb dX6_pass_212 (by decide) (fun c212 => ?_) (fun c212 => ?_)
              · refine lv_iinc (v := (nI (k + 1))) (lv' := [(3, .int (nI (k + 1))), (7, .int (nI (k % 2))), (6, .ref (B ob)), (5, .int (nI ob)), (4, .ref (t + 1 + 5 * k)), (2, .int ((hA lo c e g (0, g) k).1)), (1, .ref t), (0, .ref o)]) hx hb dX6_pass_234 hl (k := 4) rfl (nI_1 _) (by decide) rfl (fun ls hl => ?_)
                refine lv_goto (tgt := 13) hx hb dX6_pass_237 (by decide) ?_
                refine W.widen (k := 1 + 5 * (k + 1)) (n := n + 13 * (k + 1)) (by omega) (by omega) ?_
                exact ih (k + 1) (by omega) (by omega) _ (rfl) _ (by rw [hA_cnt, ← hmid.2.1, Int32.add_zero]) _ _ (hO200) (hQ201) (hF202) (by rw [← zbf_upN]; exact hQ203) (zFmN_push hFN204 hW207 hEam206 (zcol_fin (by omega) hmid (zfs_ne c212))) (by omega) hz hS _ (lv_sub hl [0, 5, 6, 7] rfl)
              · refine lv_aload hx hb dX6_pass_215 (lv_at hl 3 rfl) ?_
                refine va_get (D := D) (ci := 5) (v := .int ((g 6 k) + 1)) (C := RX5) (T := TX5) (N := 7) hx hb hts hinX5 hown hK hW207 0 rfl rfl 3 (by decide) (hts _ (List.mem_of_getElem? (i := 3) rfl)) (fun _ h9 => h9) rfl dX6_pass_217 ?_
                refine lv_if_le (tgt := 234) hx hb dX6_pass_220 (by decide) (fun c220 => ?_) (fun c220 => ?_)
                · refine lv_iinc (v := (nI (k + 1))) (lv' := [(3, .int (nI (k + 1))), (7, .int (nI (k % 2))), (6, .ref (B ob)), (5, .int (nI ob)), (4, .ref (t + 1 + 5 * k)), (2, .int ((hA lo c e g (0, g) k).1)), (1, .ref t), (0, .ref o)]) hx hb dX6_pass_234 hl (k := 4) rfl (nI_1 _) (by decide) rfl (fun ls hl => ?_)
                  refine lv_goto (tgt := 13) hx hb dX6_pass_237 (by decide) ?_
                  refine W.widen (k := 1 + 5 * (k + 1)) (n := n + 13 * (k + 1)) (by omega) (by omega) ?_
                  exact ih (k + 1) (by omega) (by omega) _ (rfl) _ (by rw [hA_cnt, ← hmid.2.1, Int32.add_zero]) _ _ (hO200) (hQ201) (hF202) (by rw [← zbf_upN]; exact hQ203) (zFmN_push hFN204 hW207 hEam206 (zcol_fin (by omega) hmid (zfs_le c212 c220 hmid.2.2))) (by omega) hz hS _ (lv_sub hl [0, 5, 6, 7] rfl)
                · refine lv_aload hx hb dX6_pass_223 (lv_at hl 3 rfl) ?_
                  refine lv_dup hx hb dX6_pass_225 rfl ?_
                  refine va_get (D := D) (ci := 5) (v := .int ((g 6 k) + 1)) (C := RX5) (T := TX5) (N := 7) hx hb hts hinX5 hown hK hW207 0 rfl rfl 3 (by decide) (hts _ (List.mem_of_getElem? (i := 3) rfl)) (fun _ h9 => h9) rfl dX6_pass_226 ?_
                  refine lv_iconst (v := 1) hx hb dX6_pass_229 (by decide) ?_
                  refine lv_isub hx hb dX6_pass_230 ?_
                  refine z_put (D := D) (ci := 5) (v := .int (((g 6 k) + 1) - 1)) (ty := .int) (C := RX5) (T := TX5) (N := 7) hx hb hts hinX5 tyX5 tyX5_ok nmX5 hown hK hW207 (by show _ = o ∨ t ≤ _; omega) hS 0 rfl rfl 3 (by decide) (hts _ (List.mem_of_getElem? (i := 3) rfl)) (fun _ h9 => h9) rfl (by decide +kernel) rfl rfl (Nat.le_of_ble_eq_true rfl) dX6_pass_231 (fun H210 lo211 hP1 hz1 hk1 hS => ?_)
                  have hsz : H210.size = (t + 1 + 5 * k) + 5 := by omega
                  have hz : H.size ≤ H210.size := by omega
                  have hO212 := zOb_kept hO200 (fun q h1 h2 h3 => (fun q _ h => hk1 q h) q h1 (by omega))
                  have hQ213 := zQr_kept hQ201 (fun q h1 h2 h3 => (fun q _ h => hk1 q h) q h1 (by omega))
                  have hF214 := zFm_kept hsp hF202 (fun q h1 h2 h3 => (fun q _ h => hk1 q h) q h1 (by omega))
                  have hQ215 := zQr_kept hQ203 (fun q h1 h2 h3 => (fun q _ h => hk1 q h) q h1 (by omega))
                  have hFN216 := zFmN_kept hsp hkn hFN204 (fun q h1 h2 h3 => (fun q _ h => hk1 q h) q h1 (by omega))
                  have hBdm217 := zBw_kept hBdm205 (fun q h1 h2 h3 => (fun q _ h => hk1 q h) q h1 (by omega))
                  have hEam218 := zAr_kept hEam206 (fun q h1 h2 h3 => (fun q _ h => hk1 q h) q h1 (by omega))
                  have hW219 : va_P D vwCl (zBw cI (t + 1 + 5 * k) (E k) (zcb g 0 k) (zcb g 2 k) (zcb g 4 k) (((g 6 k) + 1) - 1) (me k) (lo k)) H210 := z_set zBw_c hW207 0 rfl hP1 (fun q _ h => hk1 q h)
                  have hBdm220 := zBw_kept hBdm208 (fun q h1 h2 h3 => (fun q _ h => hk1 q h) q h1 (by omega))
                  have hEam221 := zAr_kept hEam209 (fun q h1 h2 h3 => (fun q _ h => hk1 q h) q h1 (by omega))
                  refine lv_iinc (v := (nI (k + 1))) (lv' := [(3, .int (nI (k + 1))), (7, .int (nI (k % 2))), (6, .ref (B ob)), (5, .int (nI ob)), (4, .ref (t + 1 + 5 * k)), (2, .int ((hA lo c e g (0, g) k).1)), (1, .ref t), (0, .ref o)]) hx hb dX6_pass_234 hl (k := 4) rfl (nI_1 _) (by decide) rfl (fun ls hl => ?_)
                  refine lv_goto (tgt := 13) hx hb dX6_pass_237 (by decide) ?_
                  refine W.widen (k := 1 + 5 * (k + 1)) (n := n + 13 * (k + 1)) (by omega) (by omega) ?_
                  exact ih (k + 1) (by omega) (by omega) _ (rfl) _ (by rw [hA_cnt, ← hmid.2.1, Int32.add_zero]) _ _ (hO212) (hQ213) (hF214) (by rw [← zbf_upN]; exact hQ215) (zFmN_push hFN216 hW219 hEam218 (zcol_fin (by omega) hmid (zfs_gt c212 c220 hmid.2.2))) (by omega) hz hS _ (lv_sub hl [0, 5, 6, 7] rfl)
  refine W.widen (k := 1 + 5 * 0) (n := n + 13 * 0) (by omega) (by omega) ?_
  exact loop13 _ 0 (Nat.lt_succ_self _) (by omega) _ (rfl) _ (rfl) _ _ hO3 hQ4 hF5 (by rw [zbf_0]; exact hQn2) hFN0 (by omega) hz hS _ (lv_sub hl [0, 1, 2, 3] rfl)
