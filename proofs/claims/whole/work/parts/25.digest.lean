set_option maxHeartbeats 4000000 in
set_option maxRecDepth 100000 in
/-- mixParrot -/
theorem zcX4_mixParrot (l : Launch) (D : va_G) (cI : ClassId) (H : Heap) (b : Nat) (n : Nat) (me : Nat → Int32) (lo : Nat → Int32) (c : Nat → Nat) (e : Nat → Nat) (rd : Int32) (tk : Int32) (g : zG) (d : Int64) (p : Nat) (hJ : va_P D vwCl (zPJ b) H) (hW : va_P D vwCl (zSeats cI (b + 1) n me lo c e) H) (hT : va_P D vwCl (zTalk cI (b + 10) rd tk g) H) (hI : zI n me lo c e) (hp : p < 12) : Met l yX4_mixParrot wsX4_mixParrot ({ frames := 5, cells := 0, slots := 0, locals := 112 } : Room) (zPc D [(cI, .int)] H [.ref b, .long d, .int (nI p)]) (zQ (some (.long (dp n g me lo c e p d))) H) 0 0 (fun _ => False) := by
  refine z_enter (cc := cX4_mixParrot) (maxL := 8) (ret := (some .long)) (by decide) rfl (Nat.le_of_ble_eq_true rfl) ?_
  intro pg ev s m args below meth cd hfix hr hlocks hname hK hHs ls hl
  obtain ⟨hx, hb, hml, hown, hts⟩ := id hfix
  have hl : lv_has ls 8 [(0, .ref b), (1, .long d), (3, .int (nI p))] := hl
  have hinX4 : ∀ w ∈ wsX40, w ∈ wsX4_mixParrot := by decide +kernel
  have hn := zI_n hI
  have hc4 := zI_c hI p
  refine lv_lload_n hx hb dX4_mixParrot_0 rfl (lv_at hl 1 rfl) ?_
  refine lv_lstore (lv' := [(4, .long d), (0, .ref b), (1, .long d), (3, .int (nI p))]) hx hb dX4_mixParrot_1 hl (by decide) rfl (fun ls hl => ?_)
  refine lv_iconst (v := 0) hx hb dX4_mixParrot_3 (by decide) ?_
  refine lv_istore (lv' := [(6, .int 0), (4, .long d), (0, .ref b), (1, .long d), (3, .int (nI p))]) hx hb dX4_mixParrot_4 hl (by decide) rfl (fun ls hl => ?_)
  have loop6 : ∀ (fu : Nat) (k1 : Nat), 7 - k1 < fu → (k1 ≤ 7) → ∀ (x6 : Int32), x6 = (nI k1) → ∀ (x4 : Int64), x4 = mx (tp n g me lo c e p) d k1 → ∀ ls : Array Slot, lv_has ls 8 [(6, .int x6), (4, .long x4), (0, .ref b), (1, .long d), (3, .int (nI p))] → W pg l ev ({ frames := 5, cells := 0, slots := 0, locals := 112 } : Room) s m args below meth cd H [] 0 0 (MQ below (zQ (some (.long (dp n g me lo c e p d))) H) args s 0 0 (fun _ => False)) (F0 m 6 ls []) := by
    intro fu
    induction fu with
    | zero => intro k1 hfu; exact absurd hfu (Nat.not_lt_zero _)
    | succ fu ih =>
      intro k1 hfu hi6_0 x6 ex6 x4 ex4 ls hl
      subst ex6
      subst ex4
      refine lv_iload hx hb dX4_mixParrot_6 (lv_at hl 0 rfl) ?_
      refine lv_bipush (v := 6) hx hb dX4_mixParrot_8 (by decide) ?_
      refine lv_icmp_gt (tgt := 33) hx hb dX4_mixParrot_10 (by decide) (fun c10 => ?_) (fun c10 => ?_)
      · have c10 := z_lt (a := 6) (b := k1) c10 (by omega) (by omega)
        refine lv_iconst (v := 0) hx hb dX4_mixParrot_33 (by decide) ?_
        refine lv_istore (lv' := [(6, .int 0), (4, .long (mx (tp n g me lo c e p) d k1)), (0, .ref b), (1, .long d), (3, .int (nI p))]) hx hb dX4_mixParrot_34 hl (by decide) rfl (fun ls hl => ?_)
        have loop36 : ∀ (fu : Nat) (k2 : Nat), 3 - k2 < fu → (k2 ≤ 3) → ∀ (x6 : Int32), x6 = (nI k2) → ∀ (x4 : Int64), x4 = mx (th g p 0) (mx (tp n g me lo c e p) d 7) k2 → ∀ ls : Array Slot, lv_has ls 8 [(6, .int x6), (4, .long x4), (0, .ref b), (1, .long d), (3, .int (nI p))] → W pg l ev ({ frames := 5, cells := 0, slots := 0, locals := 112 } : Room) s m args below meth cd H [] 0 0 (MQ below (zQ (some (.long (dp n g me lo c e p d))) H) args s 0 0 (fun _ => False)) (F0 m 36 ls []) := by
          intro fu
          induction fu with
          | zero => intro k2 hfu; exact absurd hfu (Nat.not_lt_zero _)
          | succ fu ih =>
            intro k2 hfu hi36_0 x6 ex6 x4 ex4 ls hl
            subst ex6
            subst ex4
            refine lv_iload hx hb dX4_mixParrot_36 (lv_at hl 0 rfl) ?_
            refine lv_iconst (v := 2) hx hb dX4_mixParrot_38 (by decide) ?_
            refine lv_icmp_gt (tgt := 63) hx hb dX4_mixParrot_39 (by decide) (fun c39 => ?_) (fun c39 => ?_)
            · have c39 := z_lt (a := 2) (b := k2) c39 (by omega) (by omega)
              refine lv_iconst (v := 0) hx hb dX4_mixParrot_63 (by decide) ?_
              refine lv_istore (lv' := [(6, .int 0), (4, .long (mx (th g p 0) (mx (tp n g me lo c e p) d 7) k2)), (0, .ref b), (1, .long d), (3, .int (nI p))]) hx hb dX4_mixParrot_64 hl (by decide) rfl (fun ls hl => ?_)
              have loop66 : ∀ (fu : Nat) (k3 : Nat), 3 - k3 < fu → (k3 ≤ 3) → ∀ (x6 : Int32), x6 = (nI k3) → ∀ (x4 : Int64), x4 = mx (th g p 1) (mx (th g p 0) (mx (tp n g me lo c e p) d 7) 3) k3 → ∀ ls : Array Slot, lv_has ls 8 [(6, .int x6), (4, .long x4), (0, .ref b), (1, .long d), (3, .int (nI p))] → W pg l ev ({ frames := 5, cells := 0, slots := 0, locals := 112 } : Room) s m args below meth cd H [] 0 0 (MQ below (zQ (some (.long (dp n g me lo c e p d))) H) args s 0 0 (fun _ => False)) (F0 m 66 ls []) := by
                intro fu
                induction fu with
                | zero => intro k3 hfu; exact absurd hfu (Nat.not_lt_zero _)
                | succ fu ih =>
                  intro k3 hfu hi66_0 x6 ex6 x4 ex4 ls hl
                  subst ex6
                  subst ex4
                  refine lv_iload hx hb dX4_mixParrot_66 (lv_at hl 0 rfl) ?_
                  refine lv_iconst (v := 2) hx hb dX4_mixParrot_68 (by decide) ?_
                  refine lv_icmp_gt (tgt := 93) hx hb dX4_mixParrot_69 (by decide) (fun c69 => ?_) (fun c69 => ?_)
                  · have c69 := z_lt (a := 2) (b := k3) c69 (by omega) (by omega)
                    refine lv_aload_n hx hb dX4_mixParrot_93 rfl (lv_at hl 2 rfl) ?_
                    refine va_get (D := D) (ci := 4) (v := .ref (b + 1)) (C := RX4) (T := TX4) (N := 4) hx hb hts hinX4 hown hK hJ 0 rfl rfl 0 (by decide) (hts _ (List.mem_of_getElem? (i := 1) rfl)) (fun _ h9 => h9) rfl dX4_mixParrot_94 ?_
                    refine lv_iload_n hx hb dX4_mixParrot_97 rfl (lv_at hl 4 rfl) ?_
                    refine z_ki (va_runV (As := [.int (nI p)]) (rest := []) hfix (zcX2_listening l D cI H (b + 1) n me lo c e p hW (by omega)) (cwV 1 hts gX4_mixParrot_X2_listening rfl rfl rfl (by decide +kernel) ⟨Nat.le_of_ble_eq_true rfl, Nat.le_of_ble_eq_true rfl⟩) (z_preV hK hK hW (ci := 2) (q0 := 0) rfl rfl rfl) rfl rfl hl.1 rfl (lv_room (Nat.le_of_ble_eq_true rfl)) dX4_mixParrot_98 ⟨by omega, by omega⟩) ?_
                    refine lv_istore (lv' := [(6, .int (nI (c p))), (4, .long (mx (th g p 1) (mx (th g p 0) (mx (tp n g me lo c e p) d 7) 3) k3)), (0, .ref b), (1, .long d), (3, .int (nI p))]) hx hb dX4_mixParrot_101 hl (by decide) rfl (fun ls hl => ?_)
                    refine lv_iconst (v := 0) hx hb dX4_mixParrot_103 (by decide) ?_
                    refine lv_istore (lv' := [(7, .int 0), (6, .int (nI (c p))), (4, .long (mx (th g p 1) (mx (th g p 0) (mx (tp n g me lo c e p) d 7) 3) k3)), (0, .ref b), (1, .long d), (3, .int (nI p))]) hx hb dX4_mixParrot_104 hl (by decide) rfl (fun ls hl => ?_)
                    have loop106 : ∀ (fu : Nat) (k4 : Nat), c p - k4 < fu → (k4 ≤ c p) → ∀ (x7 : Int32), x7 = (nI k4) → ∀ (x4 : Int64), x4 = mx (fun k => nI (e (p * 4 + k))) (mx (th g p 1) (mx (th g p 0) (mx (tp n g me lo c e p) d 7) 3) 3) k4 → ∀ ls : Array Slot, lv_has ls 8 [(7, .int x7), (6, .int (nI (c p))), (4, .long x4), (0, .ref b), (1, .long d), (3, .int (nI p))] → W pg l ev ({ frames := 5, cells := 0, slots := 0, locals := 112 } : Room) s m args below meth cd H [] 0 0 (MQ below (zQ (some (.long (dp n g me lo c e p d))) H) args s 0 0 (fun _ => False)) (F0 m 106 ls []) := by
                      intro fu
                      induction fu with
                      | zero => intro k4 hfu; exact absurd hfu (Nat.not_lt_zero _)
                      | succ fu ih =>
                        intro k4 hfu hi106_0 x7 ex7 x4 ex4 ls hl
                        subst ex7
                        subst ex4
                        refine lv_iload hx hb dX4_mixParrot_106 (lv_at hl 0 rfl) ?_
                        refine lv_iload hx hb dX4_mixParrot_108 (lv_at hl 1 rfl) ?_
                        refine lv_icmp_ge (tgt := 136) hx hb dX4_mixParrot_110 (by decide) (fun c110 => ?_) (fun c110 => ?_)
                        · have c110 := z_le (a := c p) (b := k4) c110 (by omega) (by omega)
                          refine lv_lload hx hb dX4_mixParrot_136 (lv_at hl 2 rfl) ?_
                          refine z_tol (y := dp n g me lo c e p d) (by rw [show k4 = c p by omega]; rfl) ?_
                          exact z_lret hx hb hr hlocks dX4_mixParrot_138
                        · have c110 := z_nle (a := c p) (b := k4) c110 (by omega) (by omega)
                          refine lv_lload hx hb dX4_mixParrot_113 (lv_at hl 2 rfl) ?_
                          refine lv_aload_n hx hb dX4_mixParrot_115 rfl (lv_at hl 3 rfl) ?_
                          refine va_get (D := D) (ci := 4) (v := .ref (b + 1)) (C := RX4) (T := TX4) (N := 4) hx hb hts hinX4 hown hK hJ 0 rfl rfl 0 (by decide) (hts _ (List.mem_of_getElem? (i := 1) rfl)) (fun _ h9 => h9) rfl dX4_mixParrot_116 ?_
                          refine lv_iload_n hx hb dX4_mixParrot_119 rfl (lv_at hl 5 rfl) ?_
                          refine lv_iload hx hb dX4_mixParrot_120 (lv_at hl 0 rfl) ?_
                          refine z_ki (va_runV (As := [.int (nI p), .int (nI k4)]) (rest := [.long (mx (fun k => nI (e (p * 4 + k))) (mx (th g p 1) (mx (th g p 0) (mx (tp n g me lo c e p) d 7) 3) 3) k4)]) hfix (zcX2_other l D cI H (b + 1) n me lo c e p k4 hW (by omega) (by omega)) (cwV 2 hts gX4_mixParrot_X2_other rfl rfl rfl (by decide +kernel) ⟨Nat.le_of_ble_eq_true rfl, Nat.le_of_ble_eq_true rfl⟩) (z_preV hK hK hW (ci := 2) (q0 := 0) rfl rfl rfl) rfl rfl hl.1 rfl (lv_room (Nat.le_of_ble_eq_true rfl)) dX4_mixParrot_122 ⟨by omega, by omega⟩) ?_
                          refine z_kl (va_runS (As := [.long (mx (fun k => nI (e (p * 4 + k))) (mx (th g p 1) (mx (th g p 0) (mx (tp n g me lo c e p) d 7) 3) 3) k4), .int (nI (e (p * 4 + k4)))]) (rest := []) hfix (zcX4_mix l D cI H (mx (fun k => nI (e (p * 4 + k))) (mx (th g p 1) (mx (th g p 0) (mx (tp n g me lo c e p) d 7) 3) 3) k4) (nI (e (p * 4 + k4))) ) (va_cwS 2 hts gX4_mixParrot_X4_mix rfl rfl rfl (by decide +kernel) ⟨Nat.le_of_ble_eq_true rfl, Nat.le_of_ble_eq_true rfl⟩) (z_preS hK) rfl rfl hl.1 rfl (lv_room (Nat.le_of_ble_eq_true rfl)) dX4_mixParrot_125 ⟨by omega, by omega⟩) ?_
                          refine lv_lstore (lv' := [(4, .long ((mx (fun k => nI (e (p * 4 + k))) (mx (th g p 1) (mx (th g p 0) (mx (tp n g me lo c e p) d 7) 3) 3) k4) * 31 + (nI (e (p * 4 + k4))).toInt64)), (7, .int (nI k4)), (6, .int (nI (c p))), (0, .ref b), (1, .long d), (3, .int (nI p))]) hx hb dX4_mixParrot_128 hl (by decide) rfl (fun ls hl => ?_)
                          refine lv_iinc (v := (nI (k4 + 1))) (lv' := [(7, .int (nI (k4 + 1))), (4, .long ((mx (fun k => nI (e (p * 4 + k))) (mx (th g p 1) (mx (th g p 0) (mx (tp n g me lo c e p) d 7) 3) 3) k4) * 31 + (nI (e (p * 4 + k4))).toInt64)), (6, .int (nI (c p))), (0, .ref b), (1, .long d), (3, .int (nI p))]) hx hb dX4_mixParrot_130 hl (k := 1) rfl (nI_1 _) (by decide) rfl (fun ls hl => ?_)
                          refine lv_goto (tgt := 106) hx hb dX4_mixParrot_133 (by decide) ?_
                          exact ih (k4 + 1) (by omega) (by omega) _ (rfl) _ (rfl) _ (lv_sub hl [0, 2, 1, 3, 4, 5] rfl)
                    exact loop106 _ 0 (Nat.lt_succ_self _) (by omega) _ (rfl) _ (by rw [show mx (th g p 1) (mx (th g p 0) (mx (tp n g me lo c e p) d 7) 3) 3 = mx (th g p 1) (mx (th g p 0) (mx (tp n g me lo c e p) d 7) 3) k3 by rw [show k3 = 3 by omega]]; rfl) _ (lv_sub hl [0, 1, 2, 3, 4, 5] rfl)
                  · have c69 := z_nlt (a := 2) (b := k3) c69 (by omega) (by omega)
                    refine lv_lload hx hb dX4_mixParrot_72 (lv_at hl 1 rfl) ?_
                    refine lv_aload_n hx hb dX4_mixParrot_74 rfl (lv_at hl 2 rfl) ?_
                    refine lv_iload_n hx hb dX4_mixParrot_75 rfl (lv_at hl 4 rfl) ?_
                    refine lv_iconst (v := 1) hx hb dX4_mixParrot_76 (by decide) ?_
                    refine lv_iload hx hb dX4_mixParrot_77 (lv_at hl 0 rfl) ?_
                    refine z_ki (va_runV (As := [.int (nI p), .int 1, .int (nI k3)]) (rest := [.long (mx (th g p 1) (mx (th g p 0) (mx (tp n g me lo c e p) d 7) 3) k3)]) hfix (zcX4_tellOfHalf_1 l D cI H b n me lo c e rd tk g p k3 hJ hW hT hI (by omega) (by omega)) (cwV 3 hts gX4_mixParrot_X4_tellOfHalf rfl rfl rfl (by decide +kernel) ⟨Nat.le_of_ble_eq_true rfl, Nat.le_of_ble_eq_true rfl⟩) (z_preV hK hK hJ (ci := 4) (q0 := 0) rfl rfl rfl) rfl rfl hl.1 rfl (lv_room (Nat.le_of_ble_eq_true rfl)) dX4_mixParrot_79 ⟨by omega, by omega⟩) ?_
                    refine z_kl (va_runS (As := [.long (mx (th g p 1) (mx (th g p 0) (mx (tp n g me lo c e p) d 7) 3) k3), .int (th g p 1 k3)]) (rest := []) hfix (zcX4_mix l D cI H (mx (th g p 1) (mx (th g p 0) (mx (tp n g me lo c e p) d 7) 3) k3) (th g p 1 k3) ) (va_cwS 2 hts gX4_mixParrot_X4_mix rfl rfl rfl (by decide +kernel) ⟨Nat.le_of_ble_eq_true rfl, Nat.le_of_ble_eq_true rfl⟩) (z_preS hK) rfl rfl hl.1 rfl (lv_room (Nat.le_of_ble_eq_true rfl)) dX4_mixParrot_82 ⟨by omega, by omega⟩) ?_
                    refine lv_lstore (lv' := [(4, .long ((mx (th g p 1) (mx (th g p 0) (mx (tp n g me lo c e p) d 7) 3) k3) * 31 + (th g p 1 k3).toInt64)), (6, .int (nI k3)), (0, .ref b), (1, .long d), (3, .int (nI p))]) hx hb dX4_mixParrot_85 hl (by decide) rfl (fun ls hl => ?_)
                    refine lv_iinc (v := (nI (k3 + 1))) (lv' := [(6, .int (nI (k3 + 1))), (4, .long ((mx (th g p 1) (mx (th g p 0) (mx (tp n g me lo c e p) d 7) 3) k3) * 31 + (th g p 1 k3).toInt64)), (0, .ref b), (1, .long d), (3, .int (nI p))]) hx hb dX4_mixParrot_87 hl (k := 1) rfl (nI_1 _) (by decide) rfl (fun ls hl => ?_)
                    refine lv_goto (tgt := 66) hx hb dX4_mixParrot_90 (by decide) ?_
                    exact ih (k3 + 1) (by omega) (by omega) _ (rfl) _ (rfl) _ (lv_sub hl [0, 1, 2, 3, 4] rfl)
              exact loop66 _ 0 (Nat.lt_succ_self _) (by omega) _ (rfl) _ (by rw [show mx (th g p 0) (mx (tp n g me lo c e p) d 7) 3 = mx (th g p 0) (mx (tp n g me lo c e p) d 7) k2 by rw [show k2 = 3 by omega]]; rfl) _ (lv_sub hl [0, 1, 2, 3, 4] rfl)
            · have c39 := z_nlt (a := 2) (b := k2) c39 (by omega) (by omega)
              refine lv_lload hx hb dX4_mixParrot_42 (lv_at hl 1 rfl) ?_
              refine lv_aload_n hx hb dX4_mixParrot_44 rfl (lv_at hl 2 rfl) ?_
              refine lv_iload_n hx hb dX4_mixParrot_45 rfl (lv_at hl 4 rfl) ?_
              refine lv_iconst (v := 0) hx hb dX4_mixParrot_46 (by decide) ?_
              refine lv_iload hx hb dX4_mixParrot_47 (lv_at hl 0 rfl) ?_
              refine z_ki (va_runV (As := [.int (nI p), .int 0, .int (nI k2)]) (rest := [.long (mx (th g p 0) (mx (tp n g me lo c e p) d 7) k2)]) hfix (zcX4_tellOfHalf_0 l D cI H b n me lo c e rd tk g p k2 hJ hW hT hI (by omega) (by omega)) (cwV 3 hts gX4_mixParrot_X4_tellOfHalf rfl rfl rfl (by decide +kernel) ⟨Nat.le_of_ble_eq_true rfl, Nat.le_of_ble_eq_true rfl⟩) (z_preV hK hK hJ (ci := 4) (q0 := 0) rfl rfl rfl) rfl rfl hl.1 rfl (lv_room (Nat.le_of_ble_eq_true rfl)) dX4_mixParrot_49 ⟨by omega, by omega⟩) ?_
              refine z_kl (va_runS (As := [.long (mx (th g p 0) (mx (tp n g me lo c e p) d 7) k2), .int (th g p 0 k2)]) (rest := []) hfix (zcX4_mix l D cI H (mx (th g p 0) (mx (tp n g me lo c e p) d 7) k2) (th g p 0 k2) ) (va_cwS 2 hts gX4_mixParrot_X4_mix rfl rfl rfl (by decide +kernel) ⟨Nat.le_of_ble_eq_true rfl, Nat.le_of_ble_eq_true rfl⟩) (z_preS hK) rfl rfl hl.1 rfl (lv_room (Nat.le_of_ble_eq_true rfl)) dX4_mixParrot_52 ⟨by omega, by omega⟩) ?_
              refine lv_lstore (lv' := [(4, .long ((mx (th g p 0) (mx (tp n g me lo c e p) d 7) k2) * 31 + (th g p 0 k2).toInt64)), (6, .int (nI k2)), (0, .ref b), (1, .long d), (3, .int (nI p))]) hx hb dX4_mixParrot_55 hl (by decide) rfl (fun ls hl => ?_)
              refine lv_iinc (v := (nI (k2 + 1))) (lv' := [(6, .int (nI (k2 + 1))), (4, .long ((mx (th g p 0) (mx (tp n g me lo c e p) d 7) k2) * 31 + (th g p 0 k2).toInt64)), (0, .ref b), (1, .long d), (3, .int (nI p))]) hx hb dX4_mixParrot_57 hl (k := 1) rfl (nI_1 _) (by decide) rfl (fun ls hl => ?_)
              refine lv_goto (tgt := 36) hx hb dX4_mixParrot_60 (by decide) ?_
              exact ih (k2 + 1) (by omega) (by omega) _ (rfl) _ (rfl) _ (lv_sub hl [0, 1, 2, 3, 4] rfl)
        exact loop36 _ 0 (Nat.lt_succ_self _) (by omega) _ (rfl) _ (by rw [show (7 : Nat) = k1 by omega]; rfl) _ (lv_sub hl [0, 1, 2, 3, 4] rfl)
      · have c10 := z_nlt (a := 6) (b := k1) c10 (by omega) (by omega)
        refine lv_lload hx hb dX4_mixParrot_13 (lv_at hl 1 rfl) ?_
        refine lv_aload_n hx hb dX4_mixParrot_15 rfl (lv_at hl 2 rfl) ?_
        refine lv_iload_n hx hb dX4_mixParrot_16 rfl (lv_at hl 4 rfl) ?_
        refine lv_iload hx hb dX4_mixParrot_17 (lv_at hl 0 rfl) ?_
        refine z_ki (va_runV (As := [.int (nI p), .int (nI k1)]) (rest := [.long (mx (tp n g me lo c e p) d k1)]) hfix (zcX4_tellOfParrot l D cI H b n me lo c e rd tk g p k1 hJ hW hT hI (by omega) (by omega)) (cwV 2 hts gX4_mixParrot_X4_tellOfParrot rfl rfl rfl (by decide +kernel) ⟨Nat.le_of_ble_eq_true rfl, Nat.le_of_ble_eq_true rfl⟩) (z_preV hK hK hJ (ci := 4) (q0 := 0) rfl rfl rfl) rfl rfl hl.1 rfl (lv_room (Nat.le_of_ble_eq_true rfl)) dX4_mixParrot_19 ⟨by omega, by omega⟩) ?_
        refine z_kl (va_runS (As := [.long (mx (tp n g me lo c e p) d k1), .int (tp n g me lo c e p k1)]) (rest := []) hfix (zcX4_mix l D cI H (mx (tp n g me lo c e p) d k1) (tp n g me lo c e p k1) ) (va_cwS 2 hts gX4_mixParrot_X4_mix rfl rfl rfl (by decide +kernel) ⟨Nat.le_of_ble_eq_true rfl, Nat.le_of_ble_eq_true rfl⟩) (z_preS hK) rfl rfl hl.1 rfl (lv_room (Nat.le_of_ble_eq_true rfl)) dX4_mixParrot_22 ⟨by omega, by omega⟩) ?_
        refine lv_lstore (lv' := [(4, .long ((mx (tp n g me lo c e p) d k1) * 31 + (tp n g me lo c e p k1).toInt64)), (6, .int (nI k1)), (0, .ref b), (1, .long d), (3, .int (nI p))]) hx hb dX4_mixParrot_25 hl (by decide) rfl (fun ls hl => ?_)
        refine lv_iinc (v := (nI (k1 + 1))) (lv' := [(6, .int (nI (k1 + 1))), (4, .long ((mx (tp n g me lo c e p) d k1) * 31 + (tp n g me lo c e p k1).toInt64)), (0, .ref b), (1, .long d), (3, .int (nI p))]) hx hb dX4_mixParrot_27 hl (k := 1) rfl (nI_1 _) (by decide) rfl (fun ls hl => ?_)
        refine lv_goto (tgt := 6) hx hb dX4_mixParrot_30 (by decide) ?_
        exact ih (k1 + 1) (by omega) (by omega) _ (rfl) _ (rfl) _ (lv_sub hl [0, 1, 2, 3, 4] rfl)
  exact loop6 _ 0 (Nat.lt_succ_self _) (by omega) _ (rfl) _ (rfl) _ (lv_sub hl [0, 1, 2, 3, 4] rfl)
set_option maxHeartbeats 4000000 in
set_option maxRecDepth 100000 in
/-- digest -/
theorem zcX4_digest (l : Launch) (D : va_G) (cI : ClassId) (H : Heap) (b : Nat) (n : Nat) (me : Nat → Int32) (lo : Nat → Int32) (c : Nat → Nat) (e : Nat → Nat) (rd : Int32) (tk : Int32) (g : zG) (hJ : va_P D vwCl (zPJ b) H) (hW : va_P D vwCl (zSeats cI (b + 1) n me lo c e) H) (hT : va_P D vwCl (zTalk cI (b + 10) rd tk g) H) (hI : zI n me lo c e) : Met l yX4_digest wsX4_digest ({ frames := 6, cells := 0, slots := 0, locals := 139 } : Room) (zPc D [(cI, .int)] H [.ref b]) (zQ (some (.long (dg n (rd, tk, g) me lo c e))) H) 0 0 (fun _ => False) := by
  refine z_enter (cc := cX4_digest) (maxL := 5) (ret := (some .long)) (by decide) rfl (Nat.le_of_ble_eq_true rfl) ?_
  intro pg ev s m args below meth cd hfix hr hlocks hname hK hHs ls hl
  obtain ⟨hx, hb, hml, hown, hts⟩ := id hfix
  have hl : lv_has ls 5 [(0, .ref b)] := hl
  have hinX4 : ∀ w ∈ wsX40, w ∈ wsX4_digest := by decide +kernel
  have hn := zI_n hI
  refine lv_ldc2 hx hb hown (hts _ (List.mem_of_getElem? (i := 1) rfl)) dX4_digest_0 ?_
  refine lv_lstore_n (lv' := [(1, .long 911), (0, .ref b)]) hx hb dX4_digest_3 rfl hl (by decide) rfl (fun ls hl => ?_)
  refine lv_iconst (v := 0) hx hb dX4_digest_4 (by decide) ?_
  refine lv_istore_n (lv' := [(3, .int 0), (1, .long 911), (0, .ref b)]) hx hb dX4_digest_5 rfl hl (by decide) rfl (fun ls hl => ?_)
  have loop6 : ∀ (fu : Nat) (k1 : Nat), 6 - k1 < fu → (k1 ≤ 6) → ∀ (x3 : Int32), x3 = (nI k1) → ∀ (x1 : Int64), x1 = mx (tj n (rd, tk, g)) 911 k1 → ∀ ls : Array Slot, lv_has ls 5 [(3, .int x3), (1, .long x1), (0, .ref b)] → W pg l ev ({ frames := 6, cells := 0, slots := 0, locals := 139 } : Room) s m args below meth cd H [] 0 0 (MQ below (zQ (some (.long (dg n (rd, tk, g) me lo c e))) H) args s 0 0 (fun _ => False)) (F0 m 6 ls []) := by
    intro fu
    induction fu with
    | zero => intro k1 hfu; exact absurd hfu (Nat.not_lt_zero _)
    | succ fu ih =>
      intro k1 hfu hi6_0 x3 ex3 x1 ex1 ls hl
      subst ex3
      subst ex1
      refine lv_iload_n hx hb dX4_digest_6 rfl (lv_at hl 0 rfl) ?_
      refine lv_iconst (v := 5) hx hb dX4_digest_7 (by decide) ?_
      refine lv_icmp_gt (tgt := 27) hx hb dX4_digest_8 (by decide) (fun c8 => ?_) (fun c8 => ?_)
      · have c8 := z_lt (a := 5) (b := k1) c8 (by omega) (by omega)
        refine lv_aload_n hx hb dX4_digest_27 rfl (lv_at hl 2 rfl) ?_
        refine va_get (D := D) (ci := 4) (v := .ref (b + 1)) (C := RX4) (T := TX4) (N := 4) hx hb hts hinX4 hown hK hJ 0 rfl rfl 0 (by decide) (hts _ (List.mem_of_getElem? (i := 2) rfl)) (fun _ h9 => h9) rfl dX4_digest_28 ?_
        refine z_ki (va_runV (As := []) (rest := []) hfix (zcX2_size l D cI H (b + 1) n me lo c e hW) (cwV 0 hts gX4_digest_X2_size rfl rfl rfl (by decide +kernel) ⟨Nat.le_of_ble_eq_true rfl, Nat.le_of_ble_eq_true rfl⟩) (z_preV hK hK hW (ci := 2) (q0 := 0) rfl rfl rfl) rfl rfl hl.1 rfl (lv_room (Nat.le_of_ble_eq_true rfl)) dX4_digest_31 ⟨by omega, by omega⟩) ?_
        refine lv_istore_n (lv' := [(3, .int (nI n)), (1, .long (mx (tj n (rd, tk, g)) 911 k1)), (0, .ref b)]) hx hb dX4_digest_34 rfl hl (by decide) rfl (fun ls hl => ?_)
        refine lv_iconst (v := 0) hx hb dX4_digest_35 (by decide) ?_
        refine lv_istore (lv' := [(4, .int 0), (3, .int (nI n)), (1, .long (mx (tj n (rd, tk, g)) 911 k1)), (0, .ref b)]) hx hb dX4_digest_36 hl (by decide) rfl (fun ls hl => ?_)
        have loop38 : ∀ (fu : Nat) (k2 : Nat), n - k2 < fu → (k2 ≤ n) → ∀ (x4 : Int32), x4 = (nI k2) → ∀ (x1 : Int64), x1 = dA n g me lo c e (mx (tj n (rd, tk, g)) 911 6) k2 → ∀ ls : Array Slot, lv_has ls 5 [(4, .int x4), (3, .int (nI n)), (1, .long x1), (0, .ref b)] → W pg l ev ({ frames := 6, cells := 0, slots := 0, locals := 139 } : Room) s m args below meth cd H [] 0 0 (MQ below (zQ (some (.long (dg n (rd, tk, g) me lo c e))) H) args s 0 0 (fun _ => False)) (F0 m 38 ls []) := by
          intro fu
          induction fu with
          | zero => intro k2 hfu; exact absurd hfu (Nat.not_lt_zero _)
          | succ fu ih =>
            intro k2 hfu hi38_0 x4 ex4 x1 ex1 ls hl
            subst ex4
            subst ex1
            refine lv_iload hx hb dX4_digest_38 (lv_at hl 0 rfl) ?_
            refine lv_iload_n hx hb dX4_digest_40 rfl (lv_at hl 1 rfl) ?_
            refine lv_icmp_ge (tgt := 58) hx hb dX4_digest_41 (by decide) (fun c41 => ?_) (fun c41 => ?_)
            · have c41 := z_le (a := n) (b := k2) c41 (by omega) (by omega)
              refine lv_lload_n hx hb dX4_digest_58 rfl (lv_at hl 2 rfl) ?_
              refine z_tol (y := dg n (rd, tk, g) me lo c e) (by simp only [dg]; rw [show dA n g me lo c e (mx (tj n (rd, tk, g)) 911 6) k2 = dA n g me lo c e (mx (tj n (rd, tk, g)) 911 6) n by rw [show k2 = n by omega]]) ?_
              exact z_lret hx hb hr hlocks dX4_digest_59
            · have c41 := z_nle (a := n) (b := k2) c41 (by omega) (by omega)
              refine lv_aload_n hx hb dX4_digest_44 rfl (lv_at hl 3 rfl) ?_
              refine lv_lload_n hx hb dX4_digest_45 rfl (lv_at hl 2 rfl) ?_
              refine lv_iload hx hb dX4_digest_46 (lv_at hl 0 rfl) ?_
              refine z_kl (va_runV (As := [.long (dA n g me lo c e (mx (tj n (rd, tk, g)) 911 6) k2), .int (nI k2)]) (rest := []) hfix (zcX4_mixParrot l D cI H b n me lo c e rd tk g (dA n g me lo c e (mx (tj n (rd, tk, g)) 911 6) k2) k2 hJ hW hT hI (by omega)) (cwV 2 hts gX4_digest_X4_mixParrot rfl rfl rfl (by decide +kernel) ⟨Nat.le_of_ble_eq_true rfl, Nat.le_of_ble_eq_true rfl⟩) (z_preV hK hK hJ (ci := 4) (q0 := 0) rfl rfl rfl) rfl rfl hl.1 rfl (lv_room (Nat.le_of_ble_eq_true rfl)) dX4_digest_48 ⟨by omega, by omega⟩) ?_
              refine lv_lstore_n (lv' := [(1, .long (dp n g me lo c e k2 (dA n g me lo c e (mx (tj n (rd, tk, g)) 911 6) k2))), (4, .int (nI k2)), (3, .int (nI n)), (0, .ref b)]) hx hb dX4_digest_51 rfl hl (by decide) rfl (fun ls hl => ?_)
              refine lv_iinc (v := (nI (k2 + 1))) (lv' := [(4, .int (nI (k2 + 1))), (1, .long (dp n g me lo c e k2 (dA n g me lo c e (mx (tj n (rd, tk, g)) 911 6) k2))), (3, .int (nI n)), (0, .ref b)]) hx hb dX4_digest_52 hl (k := 1) rfl (nI_1 _) (by decide) rfl (fun ls hl => ?_)
              refine lv_goto (tgt := 38) hx hb dX4_digest_55 (by decide) ?_
              exact ih (k2 + 1) (by omega) (by omega) _ (rfl) _ (rfl) _ (lv_sub hl [0, 2, 1, 3] rfl)
        exact loop38 _ 0 (Nat.lt_succ_self _) (by omega) _ (rfl) _ (by rw [show (6 : Nat) = k1 by omega]; rfl) _ (lv_sub hl [0, 1, 2, 3] rfl)
      · have c8 := z_nlt (a := 5) (b := k1) c8 (by omega) (by omega)
        refine lv_lload_n hx hb dX4_digest_11 rfl (lv_at hl 1 rfl) ?_
        refine lv_aload_n hx hb dX4_digest_12 rfl (lv_at hl 2 rfl) ?_
        refine lv_iload_n hx hb dX4_digest_13 rfl (lv_at hl 0 rfl) ?_
        refine z_ki (va_runV (As := [.int (nI k1)]) (rest := [.long (mx (tj n (rd, tk, g)) 911 k1)]) hfix (zcX4_tellOfJury l D cI H b n me lo c e rd tk g k1 hJ hW hT hI (by omega)) (cwV 1 hts gX4_digest_X4_tellOfJury rfl rfl rfl (by decide +kernel) ⟨Nat.le_of_ble_eq_true rfl, Nat.le_of_ble_eq_true rfl⟩) (z_preV hK hK hJ (ci := 4) (q0 := 0) rfl rfl rfl) rfl rfl hl.1 rfl (lv_room (Nat.le_of_ble_eq_true rfl)) dX4_digest_14 ⟨by omega, by omega⟩) ?_
        refine z_kl (va_runS (As := [.long (mx (tj n (rd, tk, g)) 911 k1), .int (tj n (rd, tk, g) k1)]) (rest := []) hfix (zcX4_mix l D cI H (mx (tj n (rd, tk, g)) 911 k1) (tj n (rd, tk, g) k1) ) (va_cwS 2 hts gX4_digest_X4_mix rfl rfl rfl (by decide +kernel) ⟨Nat.le_of_ble_eq_true rfl, Nat.le_of_ble_eq_true rfl⟩) (z_preS hK) rfl rfl hl.1 rfl (lv_room (Nat.le_of_ble_eq_true rfl)) dX4_digest_17 ⟨by omega, by omega⟩) ?_
        refine lv_lstore_n (lv' := [(1, .long ((mx (tj n (rd, tk, g)) 911 k1) * 31 + (tj n (rd, tk, g) k1).toInt64)), (3, .int (nI k1)), (0, .ref b)]) hx hb dX4_digest_20 rfl hl (by decide) rfl (fun ls hl => ?_)
        refine lv_iinc (v := (nI (k1 + 1))) (lv' := [(3, .int (nI (k1 + 1))), (1, .long ((mx (tj n (rd, tk, g)) 911 k1) * 31 + (tj n (rd, tk, g) k1).toInt64)), (0, .ref b)]) hx hb dX4_digest_21 hl (k := 1) rfl (nI_1 _) (by decide) rfl (fun ls hl => ?_)
        refine lv_goto (tgt := 6) hx hb dX4_digest_24 (by decide) ?_
        exact ih (k1 + 1) (by omega) (by omega) _ (rfl) _ (rfl) _ (lv_sub hl [0, 1, 2] rfl)
  exact loop6 _ 0 (Nat.lt_succ_self _) (by omega) _ (rfl) _ (rfl) _ (lv_sub hl [0, 1, 2] rfl)
