set_option maxHeartbeats 4000000 in
set_option maxRecDepth 100000 in
/-- isOutside -/
theorem zcX4_isOutside (l : Launch) (D : va_G) (cI : ClassId) (H : Heap) (x : Int32) (lw : Int32) (hg : Int32)  : Met l yX4_isOutside wsX4_isOutside ({ frames := 0, cells := 0, slots := 0, locals := 0 } : Room) (zPc D [(cI, .int)] H [.int x, .int lw, .int hg]) (zQ (some (.int (zb (x < lw ∨ ¬ x ≤ hg)))) H) 0 0 (fun _ => False) := by
  refine z_enter (cc := cX4_isOutside) (maxL := 3) (ret := (some .boolean)) (by decide) rfl (Nat.le_of_ble_eq_true rfl) ?_
  intro pg ev s m args below meth cd hfix hr hlocks hname hK hHs ls hl
  obtain ⟨hx, hb, hml, hown, hts⟩ := id hfix
  have hl : lv_has ls 3 [(0, .int x), (1, .int lw), (2, .int hg)] := hl
  refine lv_iload_n hx hb dX4_isOutside_0 rfl (lv_at hl 0 rfl) ?_
  refine lv_iload_n hx hb dX4_isOutside_1 rfl (lv_at hl 1 rfl) ?_
  refine lv_icmp_lt (tgt := 10) hx hb dX4_isOutside_2 (by decide) (fun c2 => ?_) (fun c2 => ?_)
  · refine lv_iconst (v := 1) hx hb dX4_isOutside_10 (by decide) ?_
    refine lv_goto (tgt := 15) hx hb dX4_isOutside_11 (by decide) ?_
    refine z_toi (y := (zb (x < lw ∨ ¬ x ≤ hg))) (by first | exact zb_t (Or.inl c2) | exact zb_t (Or.inr c7) | exact zb_f (fun h => h.elim c2 (fun h => h c7))) ?_
    exact z_zret hx hb hr (zb_nar) hlocks dX4_isOutside_15
  · refine lv_iload_n hx hb dX4_isOutside_5 rfl (lv_at hl 0 rfl) ?_
    refine lv_iload_n hx hb dX4_isOutside_6 rfl (lv_at hl 2 rfl) ?_
    refine lv_icmp_le (tgt := 14) hx hb dX4_isOutside_7 (by decide) (fun c7 => ?_) (fun c7 => ?_)
    · refine lv_iconst (v := 0) hx hb dX4_isOutside_14 (by decide) ?_
      refine z_toi (y := (zb (x < lw ∨ ¬ x ≤ hg))) (by first | exact zb_t (Or.inl c2) | exact zb_t (Or.inr c7) | exact zb_f (fun h => h.elim c2 (fun h => h c7))) ?_
      exact z_zret hx hb hr (zb_nar) hlocks dX4_isOutside_15
    · refine lv_iconst (v := 1) hx hb dX4_isOutside_10 (by decide) ?_
      refine lv_goto (tgt := 15) hx hb dX4_isOutside_11 (by decide) ?_
      refine z_toi (y := (zb (x < lw ∨ ¬ x ≤ hg))) (by first | exact zb_t (Or.inl c2) | exact zb_t (Or.inr c7) | exact zb_f (fun h => h.elim c2 (fun h => h c7))) ?_
      exact z_zret hx hb hr (zb_nar) hlocks dX4_isOutside_15
set_option maxHeartbeats 4000000 in
set_option maxRecDepth 100000 in
/-- votesIn -/
theorem zcX4_votesIn (l : Launch) (D : va_G) (cI : ClassId) (H : Heap) (b : Nat) (n : Nat) (me : Nat → Int32) (lo : Nat → Int32) (c : Nat → Nat) (e : Nat → Nat) (bt : Nat) (rd : Int32) (tk : Int32) (g : zG) (w : Int32) (hJ : va_P D vwCl (zPJ b) H) (hW : va_P D vwCl (zSeats cI (b + 1) n me lo c e) H) (hT : va_P D vwCl (zTalk cI bt rd tk g) H) (hI : zI n me lo c e) : Met l yX4_votesIn wsX4_votesIn ({ frames := 3, cells := 0, slots := 0, locals := 63 } : Room) (zPc D [(cI, .int)] H [.ref b, .ref bt, .int w]) (zQ (some (.int (nI (vt g w n)))) H) 0 0 (fun _ => False) := by
  refine z_enter (cc := cX4_votesIn) (maxL := 6) (ret := (some .int)) (by decide) rfl (Nat.le_of_ble_eq_true rfl) ?_
  intro pg ev s m args below meth cd hfix hr hlocks hname hK hHs ls hl
  obtain ⟨hx, hb, hml, hown, hts⟩ := id hfix
  have hl : lv_has ls 6 [(0, .ref b), (1, .ref bt), (2, .int w)] := hl
  have hinX4 : ∀ w ∈ wsX40, w ∈ wsX4_votesIn := by decide +kernel
  have hn := zI_n hI
  refine lv_aload_n hx hb dX4_votesIn_0 rfl (lv_at hl 0 rfl) ?_
  refine va_get (D := D) (ci := 4) (v := .ref (b + 1)) (C := RX4) (T := TX4) (N := 4) hx hb hts hinX4 hown hK hJ 0 rfl rfl 0 (by decide) (hts _ (List.mem_of_getElem? (i := 1) rfl)) (fun _ h9 => h9) rfl dX4_votesIn_1 ?_
  refine z_ki (va_runV (As := []) (rest := []) hfix (zcX2_size l D cI H (b + 1) n me lo c e hW) (cwV 0 hts gX4_votesIn_X2_size rfl rfl rfl (by decide +kernel) ⟨Nat.le_of_ble_eq_true rfl, Nat.le_of_ble_eq_true rfl⟩) (z_preV hK hK hW (ci := 2) (q0 := 0) rfl rfl rfl) rfl rfl hl.1 rfl (lv_room (Nat.le_of_ble_eq_true rfl)) dX4_votesIn_4 ⟨by omega, by omega⟩) ?_
  refine lv_istore_n (lv' := [(3, .int (nI n)), (0, .ref b), (1, .ref bt), (2, .int w)]) hx hb dX4_votesIn_7 rfl hl (by decide) rfl (fun ls hl => ?_)
  refine lv_iconst (v := 0) hx hb dX4_votesIn_8 (by decide) ?_
  refine lv_istore (lv' := [(4, .int 0), (3, .int (nI n)), (0, .ref b), (1, .ref bt), (2, .int w)]) hx hb dX4_votesIn_9 hl (by decide) rfl (fun ls hl => ?_)
  refine lv_iconst (v := 0) hx hb dX4_votesIn_11 (by decide) ?_
  refine lv_istore (lv' := [(5, .int 0), (4, .int 0), (3, .int (nI n)), (0, .ref b), (1, .ref bt), (2, .int w)]) hx hb dX4_votesIn_12 hl (by decide) rfl (fun ls hl => ?_)
  have loop14 : ∀ (fu : Nat) (k : Nat), n - k < fu → (k ≤ n) → ∀ (x5 : Int32), x5 = (nI k) → ∀ (x4 : Int32), x4 = (nI (vt g w k)) → ∀ ls : Array Slot, lv_has ls 6 [(5, .int x5), (4, .int x4), (3, .int (nI n)), (0, .ref b), (1, .ref bt), (2, .int w)] → W pg l ev ({ frames := 3, cells := 0, slots := 0, locals := 63 } : Room) s m args below meth cd H [] 0 0 (MQ below (zQ (some (.int (nI (vt g w n)))) H) args s 0 0 (fun _ => False)) (F0 m 14 ls []) := by
    intro fu
    induction fu with
    | zero => intro k hfu; exact absurd hfu (Nat.not_lt_zero _)
    | succ fu ih =>
      intro k hfu hi14_0 x5 ex5 x4 ex4 ls hl
      subst ex5
      subst ex4
      refine lv_iload hx hb dX4_votesIn_14 (lv_at hl 0 rfl) ?_
      refine lv_iload_n hx hb dX4_votesIn_16 rfl (lv_at hl 2 rfl) ?_
      refine lv_icmp_ge (tgt := 39) hx hb dX4_votesIn_17 (by decide) (fun c17 => ?_) (fun c17 => ?_)
      · have c17 := z_le (a := n) (b := k) c17 (by omega) (by omega)
        refine lv_iload hx hb dX4_votesIn_39 (lv_at hl 1 rfl) ?_
        refine z_toi (y := (nI (vt g w n))) (by rw [show n = k by omega]) ?_
        exact z_iret hx hb hr hlocks dX4_votesIn_41
      · have c17 := z_nle (a := n) (b := k) c17 (by omega) (by omega)
        refine lv_aload_n hx hb dX4_votesIn_20 rfl (lv_at hl 4 rfl) ?_
        refine lv_iload hx hb dX4_votesIn_21 (lv_at hl 0 rfl) ?_
        refine z_ki (va_runV (As := [.int (nI k)]) (rest := []) hfix (zcX3_word l D cI H bt rd tk g k hT (by omega)) (cwV 1 hts gX4_votesIn_X3_word rfl rfl rfl (by decide +kernel) ⟨Nat.le_of_ble_eq_true rfl, Nat.le_of_ble_eq_true rfl⟩) (z_preV hK hK hT (ci := 3) (q0 := 0) rfl rfl rfl) rfl rfl hl.1 rfl (lv_room (Nat.le_of_ble_eq_true rfl)) dX4_votesIn_23 ⟨by omega, by omega⟩) ?_
        refine lv_iload_n hx hb dX4_votesIn_26 rfl (lv_at hl 5 rfl) ?_
        refine lv_icmp_ne (tgt := 33) hx hb dX4_votesIn_27 (by decide) (fun c27 => ?_) (fun c27 => ?_)
        · refine lv_iinc (v := (nI (k + 1))) (lv' := [(5, .int (nI (k + 1))), (4, .int (nI (vt g w k))), (3, .int (nI n)), (0, .ref b), (1, .ref bt), (2, .int w)]) hx hb dX4_votesIn_33 hl (k := 0) rfl (nI_1 _) (by decide) rfl (fun ls hl => ?_)
          refine lv_goto (tgt := 14) hx hb dX4_votesIn_36 (by decide) ?_
          exact ih (k + 1) (by omega) (by omega) _ (rfl) _ (by simp only [vt]; first | rw [if_pos c27] | rw [if_neg c27]) _ (lv_sub hl [0, 1, 2, 3, 4, 5] rfl)
        · refine lv_iinc (v := (nI (vt g w k + 1))) (lv' := [(4, .int (nI (vt g w k + 1))), (5, .int (nI k)), (3, .int (nI n)), (0, .ref b), (1, .ref bt), (2, .int w)]) hx hb dX4_votesIn_30 hl (k := 1) rfl (nI_1 _) (by decide) rfl (fun ls hl => ?_)
          refine lv_iinc (v := (nI (k + 1))) (lv' := [(5, .int (nI (k + 1))), (4, .int (nI (vt g w k + 1))), (3, .int (nI n)), (0, .ref b), (1, .ref bt), (2, .int w)]) hx hb dX4_votesIn_33 hl (k := 1) rfl (nI_1 _) (by decide) rfl (fun ls hl => ?_)
          refine lv_goto (tgt := 14) hx hb dX4_votesIn_36 (by decide) ?_
          exact ih (k + 1) (by omega) (by omega) _ (rfl) _ (by simp only [vt]; first | rw [if_pos c27] | rw [if_neg c27]) _ (lv_sub hl [0, 1, 2, 3, 4, 5] rfl)
  exact loop14 _ 0 (Nat.lt_succ_self _) (by omega) _ (rfl) _ (rfl) _ (lv_sub hl [0, 1, 2, 3, 4, 5] rfl)
set_option maxHeartbeats 4000000 in
set_option maxRecDepth 100000 in
/-- sayTheSame -/
theorem zcX4_sayTheSame (l : Launch) (D : va_G) (cI : ClassId) (H : Heap) (b : Nat) (n : Nat) (me : Nat → Int32) (lo : Nat → Int32) (c : Nat → Nat) (e : Nat → Nat) (bt : Nat) (rd : Int32) (tk : Int32) (g : zG) (hJ : va_P D vwCl (zPJ b) H) (hW : va_P D vwCl (zSeats cI (b + 1) n me lo c e) H) (hT : va_P D vwCl (zTalk cI bt rd tk g) H) (hI : zI n me lo c e) : Met l yX4_sayTheSame wsX4_sayTheSame ({ frames := 4, cells := 0, slots := 0, locals := 88 } : Room) (zPc D [(cI, .int)] H [.ref b, .ref bt]) (zQ (some (.int (zb (vt g (wd g 0) n = n)))) H) 0 0 (fun _ => False) := by
  refine z_enter (cc := cX4_sayTheSame) (maxL := 3) (ret := (some .boolean)) (by decide) rfl (Nat.le_of_ble_eq_true rfl) ?_
  intro pg ev s m args below meth cd hfix hr hlocks hname hK hHs ls hl
  obtain ⟨hx, hb, hml, hown, hts⟩ := id hfix
  have hl : lv_has ls 3 [(0, .ref b), (1, .ref bt)] := hl
  have hinX4 : ∀ w ∈ wsX40, w ∈ wsX4_sayTheSame := by decide +kernel
  have hn := zI_n hI
  have hvt := vt_le g (wd g 0) n
  refine lv_aload_n hx hb dX4_sayTheSame_0 rfl (lv_at hl 0 rfl) ?_
  refine va_get (D := D) (ci := 4) (v := .ref (b + 1)) (C := RX4) (T := TX4) (N := 4) hx hb hts hinX4 hown hK hJ 0 rfl rfl 0 (by decide) (hts _ (List.mem_of_getElem? (i := 1) rfl)) (fun _ h9 => h9) rfl dX4_sayTheSame_1 ?_
  refine z_ki (va_runV (As := []) (rest := []) hfix (zcX2_size l D cI H (b + 1) n me lo c e hW) (cwV 0 hts gX4_sayTheSame_X2_size rfl rfl rfl (by decide +kernel) ⟨Nat.le_of_ble_eq_true rfl, Nat.le_of_ble_eq_true rfl⟩) (z_preV hK hK hW (ci := 2) (q0 := 0) rfl rfl rfl) rfl rfl hl.1 rfl (lv_room (Nat.le_of_ble_eq_true rfl)) dX4_sayTheSame_4 ⟨by omega, by omega⟩) ?_
  refine lv_istore_n (lv' := [(2, .int (nI n)), (0, .ref b), (1, .ref bt)]) hx hb dX4_sayTheSame_7 rfl hl (by decide) rfl (fun ls hl => ?_)
  refine lv_aload_n hx hb dX4_sayTheSame_8 rfl (lv_at hl 1 rfl) ?_
  refine lv_aload_n hx hb dX4_sayTheSame_9 rfl (lv_at hl 2 rfl) ?_
  refine lv_aload_n hx hb dX4_sayTheSame_10 rfl (lv_at hl 2 rfl) ?_
  refine lv_iconst (v := 0) hx hb dX4_sayTheSame_11 (by decide) ?_
  refine z_ki (va_runV (As := [.int 0]) (rest := [.ref bt, .ref b]) hfix (zcX3_word l D cI H bt rd tk g 0 hT (by omega)) (cwV 1 hts gX4_sayTheSame_X3_word rfl rfl rfl (by decide +kernel) ⟨Nat.le_of_ble_eq_true rfl, Nat.le_of_ble_eq_true rfl⟩) (z_preV hK hK hT (ci := 3) (q0 := 0) rfl rfl rfl) rfl rfl hl.1 rfl (lv_room (Nat.le_of_ble_eq_true rfl)) dX4_sayTheSame_12 ⟨by omega, by omega⟩) ?_
  refine z_ki (va_runV (As := [.ref bt, .int (wd g 0)]) (rest := []) hfix (zcX4_votesIn l D cI H b n me lo c e bt rd tk g (wd g 0) hJ hW hT hI) (cwV 2 hts gX4_sayTheSame_X4_votesIn rfl rfl rfl (by decide +kernel) ⟨Nat.le_of_ble_eq_true rfl, Nat.le_of_ble_eq_true rfl⟩) (z_preV hK hK hJ (ci := 4) (q0 := 0) rfl rfl rfl) rfl rfl hl.1 rfl (lv_room (Nat.le_of_ble_eq_true rfl)) dX4_sayTheSame_15 ⟨by omega, by omega⟩) ?_
  refine lv_iload_n hx hb dX4_sayTheSame_18 rfl (lv_at hl 0 rfl) ?_
  refine lv_icmp_ne (tgt := 26) hx hb dX4_sayTheSame_19 (by decide) (fun c19 => ?_) (fun c19 => ?_)
  · have c19 := z_ne (a := vt g (wd g 0) n) (b := n) c19 (by omega) (by omega)
    refine lv_iconst (v := 0) hx hb dX4_sayTheSame_26 (by decide) ?_
    refine z_toi (y := (zb (vt g (wd g 0) n = n))) (by first | exact zb_t c19 | exact zb_f c19) ?_
    exact z_zret hx hb hr (zb_nar) hlocks dX4_sayTheSame_27
  · have c19 := z_eq (a := vt g (wd g 0) n) (b := n) c19 (by omega) (by omega)
    refine lv_iconst (v := 1) hx hb dX4_sayTheSame_22 (by decide) ?_
    refine lv_goto (tgt := 27) hx hb dX4_sayTheSame_23 (by decide) ?_
    refine z_toi (y := (zb (vt g (wd g 0) n = n))) (by first | exact zb_t c19 | exact zb_f c19) ?_
    exact z_zret hx hb hr (zb_nar) hlocks dX4_sayTheSame_27
set_option maxHeartbeats 4000000 in
set_option maxRecDepth 100000 in
/-- sureOfAll -/
theorem zcX4_sureOfAll (l : Launch) (D : va_G) (cI : ClassId) (H : Heap) (b : Nat) (n : Nat) (me : Nat → Int32) (lo : Nat → Int32) (c : Nat → Nat) (e : Nat → Nat) (rd : Int32) (tk : Int32) (g : zG) (hJ : va_P D vwCl (zPJ b) H) (hW : va_P D vwCl (zSeats cI (b + 1) n me lo c e) H) (hT : va_P D vwCl (zTalk cI (b + 10) rd tk g) H) (hI : zI n me lo c e) : Met l yX4_sureOfAll wsX4_sureOfAll ({ frames := 2, cells := 0, slots := 0, locals := 42 } : Room) (zPc D [(cI, .int)] H [.ref b]) (zQ (some (.int (su g n))) H) 0 0 (fun _ => False) := by
  refine z_enter (cc := cX4_sureOfAll) (maxL := 4) (ret := (some .int)) (by decide) rfl (Nat.le_of_ble_eq_true rfl) ?_
  intro pg ev s m args below meth cd hfix hr hlocks hname hK hHs ls hl
  obtain ⟨hx, hb, hml, hown, hts⟩ := id hfix
  have hl : lv_has ls 4 [(0, .ref b)] := hl
  have hinX4 : ∀ w ∈ wsX40, w ∈ wsX4_sureOfAll := by decide +kernel
  have hn := zI_n hI
  refine lv_aload_n hx hb dX4_sureOfAll_0 rfl (lv_at hl 0 rfl) ?_
  refine va_get (D := D) (ci := 4) (v := .ref (b + 1)) (C := RX4) (T := TX4) (N := 4) hx hb hts hinX4 hown hK hJ 0 rfl rfl 0 (by decide) (hts _ (List.mem_of_getElem? (i := 1) rfl)) (fun _ h9 => h9) rfl dX4_sureOfAll_1 ?_
  refine z_ki (va_runV (As := []) (rest := []) hfix (zcX2_size l D cI H (b + 1) n me lo c e hW) (cwV 0 hts gX4_sureOfAll_X2_size rfl rfl rfl (by decide +kernel) ⟨Nat.le_of_ble_eq_true rfl, Nat.le_of_ble_eq_true rfl⟩) (z_preV hK hK hW (ci := 2) (q0 := 0) rfl rfl rfl) rfl rfl hl.1 rfl (lv_room (Nat.le_of_ble_eq_true rfl)) dX4_sureOfAll_4 ⟨by omega, by omega⟩) ?_
  refine lv_istore_n (lv' := [(1, .int (nI n)), (0, .ref b)]) hx hb dX4_sureOfAll_7 rfl hl (by decide) rfl (fun ls hl => ?_)
  refine lv_iconst (v := 0) hx hb dX4_sureOfAll_8 (by decide) ?_
  refine lv_istore_n (lv' := [(2, .int 0), (1, .int (nI n)), (0, .ref b)]) hx hb dX4_sureOfAll_9 rfl hl (by decide) rfl (fun ls hl => ?_)
  refine lv_iconst (v := 0) hx hb dX4_sureOfAll_10 (by decide) ?_
  refine lv_istore_n (lv' := [(3, .int 0), (2, .int 0), (1, .int (nI n)), (0, .ref b)]) hx hb dX4_sureOfAll_11 rfl hl (by decide) rfl (fun ls hl => ?_)
  have loop12 : ∀ (fu : Nat) (k : Nat), n - k < fu → (k ≤ n) → ∀ (x3 : Int32), x3 = (nI k) → ∀ (x2 : Int32), x2 = (su g k) → ∀ ls : Array Slot, lv_has ls 4 [(3, .int x3), (2, .int x2), (1, .int (nI n)), (0, .ref b)] → W pg l ev ({ frames := 2, cells := 0, slots := 0, locals := 42 } : Room) s m args below meth cd H [] 0 0 (MQ below (zQ (some (.int (su g n))) H) args s 0 0 (fun _ => False)) (F0 m 12 ls []) := by
    intro fu
    induction fu with
    | zero => intro k hfu; exact absurd hfu (Nat.not_lt_zero _)
    | succ fu ih =>
      intro k hfu hi12_0 x3 ex3 x2 ex2 ls hl
      subst ex3
      subst ex2
      refine lv_iload_n hx hb dX4_sureOfAll_12 rfl (lv_at hl 0 rfl) ?_
      refine lv_iload_n hx hb dX4_sureOfAll_13 rfl (lv_at hl 2 rfl) ?_
      refine lv_icmp_ge (tgt := 34) hx hb dX4_sureOfAll_14 (by decide) (fun c14 => ?_) (fun c14 => ?_)
      · have c14 := z_le (a := n) (b := k) c14 (by omega) (by omega)
        refine lv_iload_n hx hb dX4_sureOfAll_34 rfl (lv_at hl 1 rfl) ?_
        refine z_toi (y := (su g n)) (by rw [show n = k by omega]) ?_
        exact z_iret hx hb hr hlocks dX4_sureOfAll_35
      · have c14 := z_nle (a := n) (b := k) c14 (by omega) (by omega)
        refine lv_iload_n hx hb dX4_sureOfAll_17 rfl (lv_at hl 1 rfl) ?_
        refine lv_aload_n hx hb dX4_sureOfAll_18 rfl (lv_at hl 3 rfl) ?_
        refine va_get (D := D) (ci := 4) (v := .ref (b + 10)) (C := RX4) (T := TX4) (N := 4) hx hb hts hinX4 hown hK hJ 0 rfl rfl 1 (by decide) (hts _ (List.mem_of_getElem? (i := 2) rfl)) (fun _ h9 => h9) rfl dX4_sureOfAll_19 ?_
        refine lv_iload_n hx hb dX4_sureOfAll_22 rfl (lv_at hl 0 rfl) ?_
        refine z_ki (va_runV (As := [.int (nI k)]) (rest := [.int (su g k)]) hfix (zcX3_sure l D cI H (b + 10) rd tk g k hT (by omega)) (cwV 1 hts gX4_sureOfAll_X3_sure rfl rfl rfl (by decide +kernel) ⟨Nat.le_of_ble_eq_true rfl, Nat.le_of_ble_eq_true rfl⟩) (z_preV hK hK hT (ci := 3) (q0 := 0) rfl rfl rfl) rfl rfl hl.1 rfl (lv_room (Nat.le_of_ble_eq_true rfl)) dX4_sureOfAll_23 ⟨by omega, by omega⟩) ?_
        refine lv_iadd hx hb dX4_sureOfAll_26 ?_
        refine lv_istore_n (lv' := [(2, .int ((su g k) + (g 6 k))), (3, .int (nI k)), (1, .int (nI n)), (0, .ref b)]) hx hb dX4_sureOfAll_27 rfl hl (by decide) rfl (fun ls hl => ?_)
        refine lv_iinc (v := (nI (k + 1))) (lv' := [(3, .int (nI (k + 1))), (2, .int ((su g k) + (g 6 k))), (1, .int (nI n)), (0, .ref b)]) hx hb dX4_sureOfAll_28 hl (k := 1) rfl (nI_1 _) (by decide) rfl (fun ls hl => ?_)
        refine lv_goto (tgt := 12) hx hb dX4_sureOfAll_31 (by decide) ?_
        exact ih (k + 1) (by omega) (by omega) _ (rfl) _ (rfl) _ (lv_sub hl [0, 1, 2, 3] rfl)
  exact loop12 _ 0 (Nat.lt_succ_self _) (by omega) _ (rfl) _ (rfl) _ (lv_sub hl [0, 1, 2, 3] rfl)
set_option maxHeartbeats 4000000 in
set_option maxRecDepth 100000 in
/-- isFirstWithItsWord -/
theorem zcX4_isFirstWithItsWord (l : Launch) (D : va_G) (cI : ClassId) (H : Heap) (b : Nat) (n : Nat) (me : Nat → Int32) (lo : Nat → Int32) (c : Nat → Nat) (e : Nat → Nat) (rd : Int32) (tk : Int32) (g : zG) (p : Nat) (hJ : va_P D vwCl (zPJ b) H) (hW : va_P D vwCl (zSeats cI (b + 1) n me lo c e) H) (hT : va_P D vwCl (zTalk cI (b + 10) rd tk g) H) (hI : zI n me lo c e) (hp : p < 12) : Met l yX4_isFirstWithItsWord wsX4_isFirstWithItsWord ({ frames := 3, cells := 0, slots := 0, locals := 63 } : Room) (zPc D [(cI, .int)] H [.ref b, .int (nI p)]) (zQ (some (.int (zb (nw g p p = true)))) H) 0 0 (fun _ => False) := by
  refine z_enter (cc := cX4_isFirstWithItsWord) (maxL := 4) (ret := (some .boolean)) (by decide) rfl (Nat.le_of_ble_eq_true rfl) ?_
  intro pg ev s m args below meth cd hfix hr hlocks hname hK hHs ls hl
  obtain ⟨hx, hb, hml, hown, hts⟩ := id hfix
  have hl : lv_has ls 4 [(0, .ref b), (1, .int (nI p))] := hl
  have hinX4 : ∀ w ∈ wsX40, w ∈ wsX4_isFirstWithItsWord := by decide +kernel
  have hn := zI_n hI
  refine lv_aload_n hx hb dX4_isFirstWithItsWord_0 rfl (lv_at hl 0 rfl) ?_
  refine va_get (D := D) (ci := 4) (v := .ref (b + 10)) (C := RX4) (T := TX4) (N := 4) hx hb hts hinX4 hown hK hJ 0 rfl rfl 1 (by decide) (hts _ (List.mem_of_getElem? (i := 1) rfl)) (fun _ h9 => h9) rfl dX4_isFirstWithItsWord_1 ?_
  refine lv_iload_n hx hb dX4_isFirstWithItsWord_4 rfl (lv_at hl 1 rfl) ?_
  refine z_ki (va_runV (As := [.int (nI p)]) (rest := []) hfix (zcX3_word l D cI H (b + 10) rd tk g p hT (by omega)) (cwV 1 hts gX4_isFirstWithItsWord_X3_word rfl rfl rfl (by decide +kernel) ⟨Nat.le_of_ble_eq_true rfl, Nat.le_of_ble_eq_true rfl⟩) (z_preV hK hK hT (ci := 3) (q0 := 0) rfl rfl rfl) rfl rfl hl.1 rfl (lv_room (Nat.le_of_ble_eq_true rfl)) dX4_isFirstWithItsWord_5 ⟨by omega, by omega⟩) ?_
  refine lv_istore_n (lv' := [(2, .int (wd g p)), (0, .ref b), (1, .int (nI p))]) hx hb dX4_isFirstWithItsWord_8 rfl hl (by decide) rfl (fun ls hl => ?_)
  refine lv_iconst (v := 0) hx hb dX4_isFirstWithItsWord_9 (by decide) ?_
  refine lv_istore_n (lv' := [(3, .int 0), (2, .int (wd g p)), (0, .ref b), (1, .int (nI p))]) hx hb dX4_isFirstWithItsWord_10 rfl hl (by decide) rfl (fun ls hl => ?_)
  have loop11 : ∀ (fu : Nat) (k : Nat), p - k < fu → (k ≤ p) → (nw g p k = true) → ∀ (x3 : Int32), x3 = (nI k) → ∀ ls : Array Slot, lv_has ls 4 [(3, .int x3), (2, .int (wd g p)), (0, .ref b), (1, .int (nI p))] → W pg l ev ({ frames := 3, cells := 0, slots := 0, locals := 63 } : Room) s m args below meth cd H [] 0 0 (MQ below (zQ (some (.int (zb (nw g p p = true)))) H) args s 0 0 (fun _ => False)) (F0 m 11 ls []) := by
    intro fu
    induction fu with
    | zero => intro k hfu; exact absurd hfu (Nat.not_lt_zero _)
    | succ fu ih =>
      intro k hfu hi11_0 hi11_1 x3 ex3 ls hl
      subst ex3
      refine lv_iload_n hx hb dX4_isFirstWithItsWord_11 rfl (lv_at hl 0 rfl) ?_
      refine lv_iload_n hx hb dX4_isFirstWithItsWord_12 rfl (lv_at hl 3 rfl) ?_
      refine lv_icmp_ge (tgt := 36) hx hb dX4_isFirstWithItsWord_13 (by decide) (fun c13 => ?_) (fun c13 => ?_)
      · have c13 := z_le (a := p) (b := k) c13 (by omega) (by omega)
        refine lv_iconst (v := 1) hx hb dX4_isFirstWithItsWord_36 (by decide) ?_
        refine z_toi (y := (zb (nw g p p = true))) (zb_t (by rw [show nw g p p = nw g p k by rw [show k = p by omega]]; exact hi11_1)) ?_
        exact z_zret hx hb hr (zb_nar) hlocks dX4_isFirstWithItsWord_37
      · have c13 := z_nle (a := p) (b := k) c13 (by omega) (by omega)
        refine lv_aload_n hx hb dX4_isFirstWithItsWord_16 rfl (lv_at hl 2 rfl) ?_
        refine va_get (D := D) (ci := 4) (v := .ref (b + 10)) (C := RX4) (T := TX4) (N := 4) hx hb hts hinX4 hown hK hJ 0 rfl rfl 1 (by decide) (hts _ (List.mem_of_getElem? (i := 1) rfl)) (fun _ h9 => h9) rfl dX4_isFirstWithItsWord_17 ?_
        refine lv_iload_n hx hb dX4_isFirstWithItsWord_20 rfl (lv_at hl 0 rfl) ?_
        refine z_ki (va_runV (As := [.int (nI k)]) (rest := []) hfix (zcX3_word l D cI H (b + 10) rd tk g k hT (by omega)) (cwV 1 hts gX4_isFirstWithItsWord_X3_word rfl rfl rfl (by decide +kernel) ⟨Nat.le_of_ble_eq_true rfl, Nat.le_of_ble_eq_true rfl⟩) (z_preV hK hK hT (ci := 3) (q0 := 0) rfl rfl rfl) rfl rfl hl.1 rfl (lv_room (Nat.le_of_ble_eq_true rfl)) dX4_isFirstWithItsWord_21 ⟨by omega, by omega⟩) ?_
        refine lv_iload_n hx hb dX4_isFirstWithItsWord_24 rfl (lv_at hl 1 rfl) ?_
        refine lv_icmp_ne (tgt := 30) hx hb dX4_isFirstWithItsWord_25 (by decide) (fun c25 => ?_) (fun c25 => ?_)
        · refine lv_iinc (v := (nI (k + 1))) (lv' := [(3, .int (nI (k + 1))), (2, .int (wd g p)), (0, .ref b), (1, .int (nI p))]) hx hb dX4_isFirstWithItsWord_30 hl (k := 0) rfl (nI_1 _) (by decide) rfl (fun ls hl => ?_)
          refine lv_goto (tgt := 11) hx hb dX4_isFirstWithItsWord_33 (by decide) ?_
          exact ih (k + 1) (by omega) (by omega) (nw_T hi11_1 c25) _ (rfl) _ (lv_sub hl [0, 1, 2, 3] rfl)
        · refine lv_iconst (v := 0) hx hb dX4_isFirstWithItsWord_28 (by decide) ?_
          refine z_toi (y := (zb (nw g p p = true))) (zb_f (by rw [nw_F c25 c13]; decide)) ?_
          exact z_zret hx hb hr (zb_nar) hlocks dX4_isFirstWithItsWord_29
  exact loop11 _ 0 (Nat.lt_succ_self _) (by omega) (rfl) _ (rfl) _ (lv_sub hl [0, 1, 2, 3] rfl)
set_option maxHeartbeats 4000000 in
set_option maxRecDepth 100000 in
/-- differentWords -/
theorem zcX4_differentWords (l : Launch) (D : va_G) (cI : ClassId) (H : Heap) (b : Nat) (n : Nat) (me : Nat → Int32) (lo : Nat → Int32) (c : Nat → Nat) (e : Nat → Nat) (rd : Int32) (tk : Int32) (g : zG) (hJ : va_P D vwCl (zPJ b) H) (hW : va_P D vwCl (zSeats cI (b + 1) n me lo c e) H) (hT : va_P D vwCl (zTalk cI (b + 10) rd tk g) H) (hI : zI n me lo c e) : Met l yX4_differentWords wsX4_differentWords ({ frames := 4, cells := 0, slots := 0, locals := 86 } : Room) (zPc D [(cI, .int)] H [.ref b]) (zQ (some (.int (nI (dw g n)))) H) 0 0 (fun _ => False) := by
  refine z_enter (cc := cX4_differentWords) (maxL := 4) (ret := (some .int)) (by decide) rfl (Nat.le_of_ble_eq_true rfl) ?_
  intro pg ev s m args below meth cd hfix hr hlocks hname hK hHs ls hl
  obtain ⟨hx, hb, hml, hown, hts⟩ := id hfix
  have hl : lv_has ls 4 [(0, .ref b)] := hl
  have hinX4 : ∀ w ∈ wsX40, w ∈ wsX4_differentWords := by decide +kernel
  have hn := zI_n hI
  refine lv_aload_n hx hb dX4_differentWords_0 rfl (lv_at hl 0 rfl) ?_
  refine va_get (D := D) (ci := 4) (v := .ref (b + 1)) (C := RX4) (T := TX4) (N := 4) hx hb hts hinX4 hown hK hJ 0 rfl rfl 0 (by decide) (hts _ (List.mem_of_getElem? (i := 1) rfl)) (fun _ h9 => h9) rfl dX4_differentWords_1 ?_
  refine z_ki (va_runV (As := []) (rest := []) hfix (zcX2_size l D cI H (b + 1) n me lo c e hW) (cwV 0 hts gX4_differentWords_X2_size rfl rfl rfl (by decide +kernel) ⟨Nat.le_of_ble_eq_true rfl, Nat.le_of_ble_eq_true rfl⟩) (z_preV hK hK hW (ci := 2) (q0 := 0) rfl rfl rfl) rfl rfl hl.1 rfl (lv_room (Nat.le_of_ble_eq_true rfl)) dX4_differentWords_4 ⟨by omega, by omega⟩) ?_
  refine lv_istore_n (lv' := [(1, .int (nI n)), (0, .ref b)]) hx hb dX4_differentWords_7 rfl hl (by decide) rfl (fun ls hl => ?_)
  refine lv_iconst (v := 0) hx hb dX4_differentWords_8 (by decide) ?_
  refine lv_istore_n (lv' := [(2, .int 0), (1, .int (nI n)), (0, .ref b)]) hx hb dX4_differentWords_9 rfl hl (by decide) rfl (fun ls hl => ?_)
  refine lv_iconst (v := 0) hx hb dX4_differentWords_10 (by decide) ?_
  refine lv_istore_n (lv' := [(3, .int 0), (2, .int 0), (1, .int (nI n)), (0, .ref b)]) hx hb dX4_differentWords_11 rfl hl (by decide) rfl (fun ls hl => ?_)
  have loop12 : ∀ (fu : Nat) (k : Nat), n - k < fu → (k ≤ n) → ∀ (x3 : Int32), x3 = (nI k) → ∀ (x2 : Int32), x2 = (nI (dw g k)) → ∀ ls : Array Slot, lv_has ls 4 [(3, .int x3), (2, .int x2), (1, .int (nI n)), (0, .ref b)] → W pg l ev ({ frames := 4, cells := 0, slots := 0, locals := 86 } : Room) s m args below meth cd H [] 0 0 (MQ below (zQ (some (.int (nI (dw g n)))) H) args s 0 0 (fun _ => False)) (F0 m 12 ls []) := by
    intro fu
    induction fu with
    | zero => intro k hfu; exact absurd hfu (Nat.not_lt_zero _)
    | succ fu ih =>
      intro k hfu hi12_0 x3 ex3 x2 ex2 ls hl
      subst ex3
      subst ex2
      refine lv_iload_n hx hb dX4_differentWords_12 rfl (lv_at hl 0 rfl) ?_
      refine lv_iload_n hx hb dX4_differentWords_13 rfl (lv_at hl 2 rfl) ?_
      refine lv_icmp_ge (tgt := 34) hx hb dX4_differentWords_14 (by decide) (fun c14 => ?_) (fun c14 => ?_)
      · have c14 := z_le (a := n) (b := k) c14 (by omega) (by omega)
        refine lv_iload_n hx hb dX4_differentWords_34 rfl (lv_at hl 1 rfl) ?_
        refine z_toi (y := (nI (dw g n))) (by rw [show n = k by omega]) ?_
        exact z_iret hx hb hr hlocks dX4_differentWords_35
      · have c14 := z_nle (a := n) (b := k) c14 (by omega) (by omega)
        refine lv_aload_n hx hb dX4_differentWords_17 rfl (lv_at hl 3 rfl) ?_
        refine lv_iload_n hx hb dX4_differentWords_18 rfl (lv_at hl 0 rfl) ?_
        refine z_ki (va_runV (As := [.int (nI k)]) (rest := []) hfix (zcX4_isFirstWithItsWord l D cI H b n me lo c e rd tk g k hJ hW hT hI (by omega)) (cwV 1 hts gX4_differentWords_X4_isFirstWithItsWord rfl rfl rfl (by decide +kernel) ⟨Nat.le_of_ble_eq_true rfl, Nat.le_of_ble_eq_true rfl⟩) (z_preV hK hK hJ (ci := 4) (q0 := 0) rfl rfl rfl) rfl rfl hl.1 rfl (lv_room (Nat.le_of_ble_eq_true rfl)) dX4_differentWords_19 ⟨by omega, by omega⟩) ?_
        refine lv_if_eq (tgt := 28) hx hb dX4_differentWords_22 (by decide) (fun c22 => ?_) (fun c22 => ?_)
        · have c22 := zb_0 c22
          refine lv_iinc (v := (nI (k + 1))) (lv' := [(3, .int (nI (k + 1))), (2, .int (nI (dw g k))), (1, .int (nI n)), (0, .ref b)]) hx hb dX4_differentWords_28 hl (k := 0) rfl (nI_1 _) (by decide) rfl (fun ls hl => ?_)
          refine lv_goto (tgt := 12) hx hb dX4_differentWords_31 (by decide) ?_
          exact ih (k + 1) (by omega) (by omega) _ (rfl) _ (by simp only [dw]; first | rw [if_pos c22] | rw [if_neg c22]) _ (lv_sub hl [0, 1, 2, 3] rfl)
        · have c22 := zb_1 c22
          refine lv_iinc (v := (nI (dw g k + 1))) (lv' := [(2, .int (nI (dw g k + 1))), (3, .int (nI k)), (1, .int (nI n)), (0, .ref b)]) hx hb dX4_differentWords_25 hl (k := 1) rfl (nI_1 _) (by decide) rfl (fun ls hl => ?_)
          refine lv_iinc (v := (nI (k + 1))) (lv' := [(3, .int (nI (k + 1))), (2, .int (nI (dw g k + 1))), (1, .int (nI n)), (0, .ref b)]) hx hb dX4_differentWords_28 hl (k := 1) rfl (nI_1 _) (by decide) rfl (fun ls hl => ?_)
          refine lv_goto (tgt := 12) hx hb dX4_differentWords_31 (by decide) ?_
          exact ih (k + 1) (by omega) (by omega) _ (rfl) _ (by simp only [dw]; first | rw [if_pos c22] | rw [if_neg c22]) _ (lv_sub hl [0, 1, 2, 3] rfl)
  exact loop12 _ 0 (Nat.lt_succ_self _) (by omega) _ (rfl) _ (rfl) _ (lv_sub hl [0, 1, 2, 3] rfl)
set_option maxHeartbeats 4000000 in
set_option maxRecDepth 100000 in
/-- halvesFromCourt -/
theorem zcX4_halvesFromCourt (l : Launch) (D : va_G) (cI : ClassId) (H : Heap) (b : Nat) (n : Nat) (me : Nat → Int32) (lo : Nat → Int32) (c : Nat → Nat) (e : Nat → Nat) (rd : Int32) (tk : Int32) (g : zG) (hJ : va_P D vwCl (zPJ b) H) (hW : va_P D vwCl (zSeats cI (b + 1) n me lo c e) H) (hT : va_P D vwCl (zTalk cI (b + 10) rd tk g) H) (hI : zI n me lo c e) : Met l yX4_halvesFromCourt wsX4_halvesFromCourt ({ frames := 2, cells := 0, slots := 0, locals := 42 } : Room) (zPc D [(cI, .int)] H [.ref b]) (zQ (some (.int (nI (ct g n)))) H) 0 0 (fun _ => False) := by
  refine z_enter (cc := cX4_halvesFromCourt) (maxL := 4) (ret := (some .int)) (by decide) rfl (Nat.le_of_ble_eq_true rfl) ?_
  intro pg ev s m args below meth cd hfix hr hlocks hname hK hHs ls hl
  obtain ⟨hx, hb, hml, hown, hts⟩ := id hfix
  have hl : lv_has ls 4 [(0, .ref b)] := hl
  have hinX4 : ∀ w ∈ wsX40, w ∈ wsX4_halvesFromCourt := by decide +kernel
  have hn := zI_n hI
  refine lv_aload_n hx hb dX4_halvesFromCourt_0 rfl (lv_at hl 0 rfl) ?_
  refine va_get (D := D) (ci := 4) (v := .ref (b + 1)) (C := RX4) (T := TX4) (N := 4) hx hb hts hinX4 hown hK hJ 0 rfl rfl 0 (by decide) (hts _ (List.mem_of_getElem? (i := 1) rfl)) (fun _ h9 => h9) rfl dX4_halvesFromCourt_1 ?_
  refine z_ki (va_runV (As := []) (rest := []) hfix (zcX2_size l D cI H (b + 1) n me lo c e hW) (cwV 0 hts gX4_halvesFromCourt_X2_size rfl rfl rfl (by decide +kernel) ⟨Nat.le_of_ble_eq_true rfl, Nat.le_of_ble_eq_true rfl⟩) (z_preV hK hK hW (ci := 2) (q0 := 0) rfl rfl rfl) rfl rfl hl.1 rfl (lv_room (Nat.le_of_ble_eq_true rfl)) dX4_halvesFromCourt_4 ⟨by omega, by omega⟩) ?_
  refine lv_istore_n (lv' := [(1, .int (nI n)), (0, .ref b)]) hx hb dX4_halvesFromCourt_7 rfl hl (by decide) rfl (fun ls hl => ?_)
  refine lv_iconst (v := 0) hx hb dX4_halvesFromCourt_8 (by decide) ?_
  refine lv_istore_n (lv' := [(2, .int 0), (1, .int (nI n)), (0, .ref b)]) hx hb dX4_halvesFromCourt_9 rfl hl (by decide) rfl (fun ls hl => ?_)
  refine lv_iconst (v := 0) hx hb dX4_halvesFromCourt_10 (by decide) ?_
  refine lv_istore_n (lv' := [(3, .int 0), (2, .int 0), (1, .int (nI n)), (0, .ref b)]) hx hb dX4_halvesFromCourt_11 rfl hl (by decide) rfl (fun ls hl => ?_)
  have loop12 : ∀ (fu : Nat) (k : Nat), n - k < fu → (k ≤ n) → ∀ (x3 : Int32), x3 = (nI k) → ∀ (x2 : Int32), x2 = (nI (ct g k)) → ∀ ls : Array Slot, lv_has ls 4 [(3, .int x3), (2, .int x2), (1, .int (nI n)), (0, .ref b)] → W pg l ev ({ frames := 2, cells := 0, slots := 0, locals := 42 } : Room) s m args below meth cd H [] 0 0 (MQ below (zQ (some (.int (nI (ct g n)))) H) args s 0 0 (fun _ => False)) (F0 m 12 ls []) := by
    intro fu
    induction fu with
    | zero => intro k hfu; exact absurd hfu (Nat.not_lt_zero _)
    | succ fu ih =>
      intro k hfu hi12_0 x3 ex3 x2 ex2 ls hl
      subst ex3
      subst ex2
      refine lv_iload_n hx hb dX4_halvesFromCourt_12 rfl (lv_at hl 0 rfl) ?_
      refine lv_iload_n hx hb dX4_halvesFromCourt_13 rfl (lv_at hl 2 rfl) ?_
      refine lv_icmp_ge (tgt := 61) hx hb dX4_halvesFromCourt_14 (by decide) (fun c14 => ?_) (fun c14 => ?_)
      · have c14 := z_le (a := n) (b := k) c14 (by omega) (by omega)
        refine lv_iload_n hx hb dX4_halvesFromCourt_61 rfl (lv_at hl 1 rfl) ?_
        refine z_toi (y := (nI (ct g n))) (by rw [show n = k by omega]) ?_
        exact z_iret hx hb hr hlocks dX4_halvesFromCourt_62
      · have c14 := z_nle (a := n) (b := k) c14 (by omega) (by omega)
        refine lv_aload_n hx hb dX4_halvesFromCourt_17 rfl (lv_at hl 3 rfl) ?_
        refine va_get (D := D) (ci := 4) (v := .ref (b + 10)) (C := RX4) (T := TX4) (N := 4) hx hb hts hinX4 hown hK hJ 0 rfl rfl 1 (by decide) (hts _ (List.mem_of_getElem? (i := 2) rfl)) (fun _ h9 => h9) rfl dX4_halvesFromCourt_18 ?_
        refine lv_iconst (v := 0) hx hb dX4_halvesFromCourt_21 (by decide) ?_
        refine z_kr (va_runV (As := [.int 0]) (rest := []) hfix (zcX3_halves_0 l D cI H (b + 10) rd tk g hT) (cwV 1 hts gX4_halvesFromCourt_X3_halves rfl rfl rfl (by decide +kernel) ⟨Nat.le_of_ble_eq_true rfl, Nat.le_of_ble_eq_true rfl⟩) (z_preV hK hK hT (ci := 3) (q0 := 0) rfl rfl rfl) rfl rfl hl.1 rfl (lv_room (Nat.le_of_ble_eq_true rfl)) dX4_halvesFromCourt_22 ⟨by omega, by omega⟩) ?_
        refine lv_iload_n hx hb dX4_halvesFromCourt_25 rfl (lv_at hl 0 rfl) ?_
        refine z_ki (va_runV (As := [.int (nI k)]) (rest := []) hfix (zcX0_from l D cI H (b + 13) (g 0) (g 2) (g 4) k (va_P.sub (ws' := (zHalves cI (b + 13) (g 0) (g 2) (g 4))) hT [3, 4, 5, 6, 7, 8, 9] rfl) (by omega)) (cwV 1 hts gX4_halvesFromCourt_X0_from rfl rfl rfl (by decide +kernel) ⟨Nat.le_of_ble_eq_true rfl, Nat.le_of_ble_eq_true rfl⟩) (z_preV hK hK hT (ci := 0) (q0 := 3) rfl rfl rfl) rfl rfl hl.1 rfl (lv_room (Nat.le_of_ble_eq_true rfl)) dX4_halvesFromCourt_26 ⟨by omega, by omega⟩) ?_
        refine lv_iconst (v := (-1)) hx hb dX4_halvesFromCourt_29 (by decide) ?_
        refine lv_icmp_ne (tgt := 36) hx hb dX4_halvesFromCourt_30 (by decide) (fun c30 => ?_) (fun c30 => ?_)
        · refine lv_aload_n hx hb dX4_halvesFromCourt_36 rfl (lv_at hl 3 rfl) ?_
          refine va_get (D := D) (ci := 4) (v := .ref (b + 10)) (C := RX4) (T := TX4) (N := 4) hx hb hts hinX4 hown hK hJ 0 rfl rfl 1 (by decide) (hts _ (List.mem_of_getElem? (i := 2) rfl)) (fun _ h9 => h9) rfl dX4_halvesFromCourt_37 ?_
          refine lv_iconst (v := 1) hx hb dX4_halvesFromCourt_40 (by decide) ?_
          refine z_kr (va_runV (As := [.int 1]) (rest := []) hfix (zcX3_halves_1 l D cI H (b + 10) rd tk g hT) (cwV 1 hts gX4_halvesFromCourt_X3_halves rfl rfl rfl (by decide +kernel) ⟨Nat.le_of_ble_eq_true rfl, Nat.le_of_ble_eq_true rfl⟩) (z_preV hK hK hT (ci := 3) (q0 := 0) rfl rfl rfl) rfl rfl hl.1 rfl (lv_room (Nat.le_of_ble_eq_true rfl)) dX4_halvesFromCourt_41 ⟨by omega, by omega⟩) ?_
          refine lv_iload_n hx hb dX4_halvesFromCourt_44 rfl (lv_at hl 0 rfl) ?_
          refine z_ki (va_runV (As := [.int (nI k)]) (rest := []) hfix (zcX0_from l D cI H (b + 20) (g 1) (g 3) (g 5) k (va_P.sub (ws' := (zHalves cI (b + 20) (g 1) (g 3) (g 5))) hT [10, 11, 12, 13, 14, 15, 16] rfl) (by omega)) (cwV 1 hts gX4_halvesFromCourt_X0_from rfl rfl rfl (by decide +kernel) ⟨Nat.le_of_ble_eq_true rfl, Nat.le_of_ble_eq_true rfl⟩) (z_preV hK hK hT (ci := 0) (q0 := 10) rfl rfl rfl) rfl rfl hl.1 rfl (lv_room (Nat.le_of_ble_eq_true rfl)) dX4_halvesFromCourt_45 ⟨by omega, by omega⟩) ?_
          refine lv_iconst (v := (-1)) hx hb dX4_halvesFromCourt_48 (by decide) ?_
          refine lv_icmp_ne (tgt := 55) hx hb dX4_halvesFromCourt_49 (by decide) (fun c49 => ?_) (fun c49 => ?_)
          · refine lv_iinc (v := (nI (k + 1))) (lv' := [(3, .int (nI (k + 1))), (2, .int (nI (ct g k))), (1, .int (nI n)), (0, .ref b)]) hx hb dX4_halvesFromCourt_55 hl (k := 0) rfl (nI_1 _) (by decide) rfl (fun ls hl => ?_)
            refine lv_goto (tgt := 12) hx hb dX4_halvesFromCourt_58 (by decide) ?_
            exact ih (k + 1) (by omega) (by omega) _ (rfl) _ (by first | rw [ct_11 c30 c49] | rw [ct_10 c30 c49] | rw [ct_01 c30 c49] | rw [ct_00 c30 c49]) _ (lv_sub hl [0, 1, 2, 3] rfl)
          · refine lv_iinc (v := (nI (ct g k + 1))) (lv' := [(2, .int (nI (ct g k + 1))), (3, .int (nI k)), (1, .int (nI n)), (0, .ref b)]) hx hb dX4_halvesFromCourt_52 hl (k := 1) rfl (nI_1 _) (by decide) rfl (fun ls hl => ?_)
            refine lv_iinc (v := (nI (k + 1))) (lv' := [(3, .int (nI (k + 1))), (2, .int (nI (ct g k + 1))), (1, .int (nI n)), (0, .ref b)]) hx hb dX4_halvesFromCourt_55 hl (k := 1) rfl (nI_1 _) (by decide) rfl (fun ls hl => ?_)
            refine lv_goto (tgt := 12) hx hb dX4_halvesFromCourt_58 (by decide) ?_
            exact ih (k + 1) (by omega) (by omega) _ (rfl) _ (by first | rw [ct_11 c30 c49] | rw [ct_10 c30 c49] | rw [ct_01 c30 c49] | rw [ct_00 c30 c49]) _ (lv_sub hl [0, 1, 2, 3] rfl)
        · refine lv_iinc (v := (nI (ct g k + 1))) (lv' := [(2, .int (nI (ct g k + 1))), (3, .int (nI k)), (1, .int (nI n)), (0, .ref b)]) hx hb dX4_halvesFromCourt_33 hl (k := 1) rfl (nI_1 _) (by decide) rfl (fun ls hl => ?_)
          refine lv_aload_n hx hb dX4_halvesFromCourt_36 rfl (lv_at hl 3 rfl) ?_
          refine va_get (D := D) (ci := 4) (v := .ref (b + 10)) (C := RX4) (T := TX4) (N := 4) hx hb hts hinX4 hown hK hJ 0 rfl rfl 1 (by decide) (hts _ (List.mem_of_getElem? (i := 2) rfl)) (fun _ h9 => h9) rfl dX4_halvesFromCourt_37 ?_
          refine lv_iconst (v := 1) hx hb dX4_halvesFromCourt_40 (by decide) ?_
          refine z_kr (va_runV (As := [.int 1]) (rest := []) hfix (zcX3_halves_1 l D cI H (b + 10) rd tk g hT) (cwV 1 hts gX4_halvesFromCourt_X3_halves rfl rfl rfl (by decide +kernel) ⟨Nat.le_of_ble_eq_true rfl, Nat.le_of_ble_eq_true rfl⟩) (z_preV hK hK hT (ci := 3) (q0 := 0) rfl rfl rfl) rfl rfl hl.1 rfl (lv_room (Nat.le_of_ble_eq_true rfl)) dX4_halvesFromCourt_41 ⟨by omega, by omega⟩) ?_
          refine lv_iload_n hx hb dX4_halvesFromCourt_44 rfl (lv_at hl 1 rfl) ?_
          refine z_ki (va_runV (As := [.int (nI k)]) (rest := []) hfix (zcX0_from l D cI H (b + 20) (g 1) (g 3) (g 5) k (va_P.sub (ws' := (zHalves cI (b + 20) (g 1) (g 3) (g 5))) hT [10, 11, 12, 13, 14, 15, 16] rfl) (by omega)) (cwV 1 hts gX4_halvesFromCourt_X0_from rfl rfl rfl (by decide +kernel) ⟨Nat.le_of_ble_eq_true rfl, Nat.le_of_ble_eq_true rfl⟩) (z_preV hK hK hT (ci := 0) (q0 := 10) rfl rfl rfl) rfl rfl hl.1 rfl (lv_room (Nat.le_of_ble_eq_true rfl)) dX4_halvesFromCourt_45 ⟨by omega, by omega⟩) ?_
          refine lv_iconst (v := (-1)) hx hb dX4_halvesFromCourt_48 (by decide) ?_
          refine lv_icmp_ne (tgt := 55) hx hb dX4_halvesFromCourt_49 (by decide) (fun c49 => ?_) (fun c49 => ?_)
          · refine lv_iinc (v := (nI (k + 1))) (lv' := [(3, .int (nI (k + 1))), (2, .int (nI (ct g k + 1))), (1, .int (nI n)), (0, .ref b)]) hx hb dX4_halvesFromCourt_55 hl (k := 1) rfl (nI_1 _) (by decide) rfl (fun ls hl => ?_)
            refine lv_goto (tgt := 12) hx hb dX4_halvesFromCourt_58 (by decide) ?_
            exact ih (k + 1) (by omega) (by omega) _ (rfl) _ (by first | rw [ct_11 c30 c49] | rw [ct_10 c30 c49] | rw [ct_01 c30 c49] | rw [ct_00 c30 c49]) _ (lv_sub hl [0, 1, 2, 3] rfl)
          · refine lv_iinc (v := (nI (ct g k + 1 + 1))) (lv' := [(2, .int (nI (ct g k + 1 + 1))), (3, .int (nI k)), (1, .int (nI n)), (0, .ref b)]) hx hb dX4_halvesFromCourt_52 hl (k := 0) rfl (nI_1 _) (by decide) rfl (fun ls hl => ?_)
            refine lv_iinc (v := (nI (k + 1))) (lv' := [(3, .int (nI (k + 1))), (2, .int (nI (ct g k + 1 + 1))), (1, .int (nI n)), (0, .ref b)]) hx hb dX4_halvesFromCourt_55 hl (k := 1) rfl (nI_1 _) (by decide) rfl (fun ls hl => ?_)
            refine lv_goto (tgt := 12) hx hb dX4_halvesFromCourt_58 (by decide) ?_
            exact ih (k + 1) (by omega) (by omega) _ (rfl) _ (by first | rw [ct_11 c30 c49] | rw [ct_10 c30 c49] | rw [ct_01 c30 c49] | rw [ct_00 c30 c49]) _ (lv_sub hl [0, 1, 2, 3] rfl)
  exact loop12 _ 0 (Nat.lt_succ_self _) (by omega) _ (rfl) _ (rfl) _ (lv_sub hl [0, 1, 2, 3] rfl)
set_option maxHeartbeats 4000000 in
set_option maxRecDepth 100000 in
/-- verdict -/
theorem zcX4_verdict (l : Launch) (D : va_G) (cI : ClassId) (H : Heap) (b : Nat) (n : Nat) (me : Nat → Int32) (lo : Nat → Int32) (c : Nat → Nat) (e : Nat → Nat) (rd : Int32) (tk : Int32) (g : zG) (hJ : va_P D vwCl (zPJ b) H) (hW : va_P D vwCl (zSeats cI (b + 1) n me lo c e) H) (hT : va_P D vwCl (zTalk cI (b + 10) rd tk g) H) (hI : zI n me lo c e) : Met l yX4_verdict wsX4_verdict ({ frames := 4, cells := 0, slots := 0, locals := 88 } : Room) (zPc D [(cI, .int)] H [.ref b]) (zQ (some (.int (zw (vd g n n)))) H) 0 0 (fun _ => False) := by
  refine z_enter (cc := cX4_verdict) (maxL := 7) (ret := (some .int)) (by decide) rfl (Nat.le_of_ble_eq_true rfl) ?_
  intro pg ev s m args below meth cd hfix hr hlocks hname hK hHs ls hl
  obtain ⟨hx, hb, hml, hown, hts⟩ := id hfix
  have hl : lv_has ls 7 [(0, .ref b)] := hl
  have hinX4 : ∀ w ∈ wsX40, w ∈ wsX4_verdict := by decide +kernel
  have hn := zI_n hI
  refine lv_aload_n hx hb dX4_verdict_0 rfl (lv_at hl 0 rfl) ?_
  refine va_get (D := D) (ci := 4) (v := .ref (b + 1)) (C := RX4) (T := TX4) (N := 4) hx hb hts hinX4 hown hK hJ 0 rfl rfl 0 (by decide) (hts _ (List.mem_of_getElem? (i := 1) rfl)) (fun _ h9 => h9) rfl dX4_verdict_1 ?_
  refine z_ki (va_runV (As := []) (rest := []) hfix (zcX2_size l D cI H (b + 1) n me lo c e hW) (cwV 0 hts gX4_verdict_X2_size rfl rfl rfl (by decide +kernel) ⟨Nat.le_of_ble_eq_true rfl, Nat.le_of_ble_eq_true rfl⟩) (z_preV hK hK hW (ci := 2) (q0 := 0) rfl rfl rfl) rfl rfl hl.1 rfl (lv_room (Nat.le_of_ble_eq_true rfl)) dX4_verdict_4 ⟨by omega, by omega⟩) ?_
  refine lv_istore_n (lv' := [(1, .int (nI n)), (0, .ref b)]) hx hb dX4_verdict_7 rfl hl (by decide) rfl (fun ls hl => ?_)
  refine lv_iconst (v := (-1)) hx hb dX4_verdict_8 (by decide) ?_
  refine lv_istore_n (lv' := [(2, .int (-1)), (1, .int (nI n)), (0, .ref b)]) hx hb dX4_verdict_9 rfl hl (by decide) rfl (fun ls hl => ?_)
  refine lv_iconst (v := 0) hx hb dX4_verdict_10 (by decide) ?_
  refine lv_istore_n (lv' := [(3, .int 0), (2, .int (-1)), (1, .int (nI n)), (0, .ref b)]) hx hb dX4_verdict_11 rfl hl (by decide) rfl (fun ls hl => ?_)
  refine lv_iconst (v := 0) hx hb dX4_verdict_12 (by decide) ?_
  refine lv_istore (lv' := [(4, .int 0), (3, .int 0), (2, .int (-1)), (1, .int (nI n)), (0, .ref b)]) hx hb dX4_verdict_13 hl (by decide) rfl (fun ls hl => ?_)
  have loop15 : ∀ (fu : Nat) (k : Nat), n - k < fu → (k ≤ n) → ∀ (x4 : Int32), x4 = (nI k) → ∀ (x3 : Int32), x3 = (nI (zvm g n (vd g n k))) → ∀ (x2 : Int32), x2 = (zw (vd g n k)) → ∀ ls : Array Slot, lv_has ls 7 [(4, .int x4), (3, .int x3), (2, .int x2), (1, .int (nI n)), (0, .ref b)] → W pg l ev ({ frames := 4, cells := 0, slots := 0, locals := 88 } : Room) s m args below meth cd H [] 0 0 (MQ below (zQ (some (.int (zw (vd g n n)))) H) args s 0 0 (fun _ => False)) (F0 m 15 ls []) := by
    intro fu
    induction fu with
    | zero => intro k hfu; exact absurd hfu (Nat.not_lt_zero _)
    | succ fu ih =>
      intro k hfu hi15_0 x4 ex4 x3 ex3 x2 ex2 ls hl
      subst ex4
      subst ex3
      subst ex2
      have hv1 := zvm_le g n (vd g n k)
      have hv2 := vt_le g (wd g k) n
      refine lv_iload hx hb dX4_verdict_15 (lv_at hl 0 rfl) ?_
      refine lv_iload_n hx hb dX4_verdict_17 rfl (lv_at hl 3 rfl) ?_
      refine lv_icmp_ge (tgt := 62) hx hb dX4_verdict_18 (by decide) (fun c18 => ?_) (fun c18 => ?_)
      · have c18 := z_le (a := n) (b := k) c18 (by omega) (by omega)
        refine lv_iload_n hx hb dX4_verdict_62 rfl (lv_at hl 2 rfl) ?_
        refine z_toi (y := (zw (vd g n n))) (by rw [show vd g n k = vd g n n by rw [show k = n by omega]]) ?_
        exact z_iret hx hb hr hlocks dX4_verdict_63
      · have c18 := z_nle (a := n) (b := k) c18 (by omega) (by omega)
        refine lv_aload_n hx hb dX4_verdict_21 rfl (lv_at hl 4 rfl) ?_
        refine va_get (D := D) (ci := 4) (v := .ref (b + 10)) (C := RX4) (T := TX4) (N := 4) hx hb hts hinX4 hown hK hJ 0 rfl rfl 1 (by decide) (hts _ (List.mem_of_getElem? (i := 2) rfl)) (fun _ h9 => h9) rfl dX4_verdict_22 ?_
        refine lv_iload hx hb dX4_verdict_25 (lv_at hl 0 rfl) ?_
        refine z_ki (va_runV (As := [.int (nI k)]) (rest := []) hfix (zcX3_word l D cI H (b + 10) rd tk g k hT (by omega)) (cwV 1 hts gX4_verdict_X3_word rfl rfl rfl (by decide +kernel) ⟨Nat.le_of_ble_eq_true rfl, Nat.le_of_ble_eq_true rfl⟩) (z_preV hK hK hT (ci := 3) (q0 := 0) rfl rfl rfl) rfl rfl hl.1 rfl (lv_room (Nat.le_of_ble_eq_true rfl)) dX4_verdict_27 ⟨by omega, by omega⟩) ?_
        refine lv_istore (lv' := [(5, .int (wd g k)), (4, .int (nI k)), (3, .int (nI (zvm g n (vd g n k)))), (2, .int (zw (vd g n k))), (1, .int (nI n)), (0, .ref b)]) hx hb dX4_verdict_30 hl (by decide) rfl (fun ls hl => ?_)
        refine lv_aload_n hx hb dX4_verdict_32 rfl (lv_at hl 5 rfl) ?_
        refine lv_aload_n hx hb dX4_verdict_33 rfl (lv_at hl 5 rfl) ?_
        refine va_get (D := D) (ci := 4) (v := .ref (b + 10)) (C := RX4) (T := TX4) (N := 4) hx hb hts hinX4 hown hK hJ 0 rfl rfl 1 (by decide) (hts _ (List.mem_of_getElem? (i := 2) rfl)) (fun _ h9 => h9) rfl dX4_verdict_34 ?_
        refine lv_iload hx hb dX4_verdict_37 (lv_at hl 0 rfl) ?_
        refine z_ki (va_runV (As := [.ref (b + 10), .int (wd g k)]) (rest := []) hfix (zcX4_votesIn l D cI H b n me lo c e (b + 10) rd tk g (wd g k) hJ hW hT hI) (cwV 2 hts gX4_verdict_X4_votesIn rfl rfl rfl (by decide +kernel) ⟨Nat.le_of_ble_eq_true rfl, Nat.le_of_ble_eq_true rfl⟩) (z_preV hK hK hJ (ci := 4) (q0 := 0) rfl rfl rfl) rfl rfl hl.1 rfl (lv_room (Nat.le_of_ble_eq_true rfl)) dX4_verdict_39 ⟨by omega, by omega⟩) ?_
        refine lv_istore (lv' := [(6, .int (nI (vt g (wd g k) n))), (5, .int (wd g k)), (4, .int (nI k)), (3, .int (nI (zvm g n (vd g n k)))), (2, .int (zw (vd g n k))), (1, .int (nI n)), (0, .ref b)]) hx hb dX4_verdict_42 hl (by decide) rfl (fun ls hl => ?_)
        refine lv_iload hx hb dX4_verdict_44 (lv_at hl 0 rfl) ?_
        refine lv_iload_n hx hb dX4_verdict_46 rfl (lv_at hl 3 rfl) ?_
        refine lv_icmp_le (tgt := 56) hx hb dX4_verdict_47 (by decide) (fun c47 => ?_) (fun c47 => ?_)
        · have c47 := z_le (a := vt g (wd g k) n) (b := zvm g n (vd g n k)) c47 (by omega) (by omega)
          refine lv_iinc (v := (nI (k + 1))) (lv' := [(4, .int (nI (k + 1))), (6, .int (nI (vt g (wd g k) n))), (5, .int (wd g k)), (3, .int (nI (zvm g n (vd g n k)))), (2, .int (zw (vd g n k))), (1, .int (nI n)), (0, .ref b)]) hx hb dX4_verdict_56 hl (k := 2) rfl (nI_1 _) (by decide) rfl (fun ls hl => ?_)
          refine lv_goto (tgt := 15) hx hb dX4_verdict_59 (by decide) ?_
          exact ih (k + 1) (by omega) (by omega) _ (rfl) _ (by first | (rw [vd_le c47 c18]; done) | (rw [vd_gt (Nat.not_le.mpr c47)]; rfl)) _ (by first | (rw [vd_le c47 c18]; done) | (rw [vd_gt (Nat.not_le.mpr c47)]; rfl)) _ (lv_sub hl [0, 3, 4, 5, 6] rfl)
        · have c47 := z_nle (a := vt g (wd g k) n) (b := zvm g n (vd g n k)) c47 (by omega) (by omega)
          refine lv_iload hx hb dX4_verdict_50 (lv_at hl 0 rfl) ?_
          refine lv_istore_n (lv' := [(3, .int (nI (vt g (wd g k) n))), (6, .int (nI (vt g (wd g k) n))), (5, .int (wd g k)), (4, .int (nI k)), (2, .int (zw (vd g n k))), (1, .int (nI n)), (0, .ref b)]) hx hb dX4_verdict_52 rfl hl (by decide) rfl (fun ls hl => ?_)
          refine lv_iload hx hb dX4_verdict_53 (lv_at hl 2 rfl) ?_
          refine lv_istore_n (lv' := [(2, .int (wd g k)), (3, .int (nI (vt g (wd g k) n))), (6, .int (nI (vt g (wd g k) n))), (5, .int (wd g k)), (4, .int (nI k)), (1, .int (nI n)), (0, .ref b)]) hx hb dX4_verdict_55 rfl hl (by decide) rfl (fun ls hl => ?_)
          refine lv_iinc (v := (nI (k + 1))) (lv' := [(4, .int (nI (k + 1))), (2, .int (wd g k)), (3, .int (nI (vt g (wd g k) n))), (6, .int (nI (vt g (wd g k) n))), (5, .int (wd g k)), (1, .int (nI n)), (0, .ref b)]) hx hb dX4_verdict_56 hl (k := 4) rfl (nI_1 _) (by decide) rfl (fun ls hl => ?_)
          refine lv_goto (tgt := 15) hx hb dX4_verdict_59 (by decide) ?_
          exact ih (k + 1) (by omega) (by omega) _ (rfl) _ (by first | (rw [vd_le c47 c18]; done) | (rw [vd_gt (Nat.not_le.mpr c47)]; rfl)) _ (by first | (rw [vd_le c47 c18]; done) | (rw [vd_gt (Nat.not_le.mpr c47)]; rfl)) _ (lv_sub hl [0, 2, 1, 5, 6] rfl)
  exact loop15 _ 0 (Nat.lt_succ_self _) (by omega) _ (rfl) _ (rfl) _ (rfl) _ (lv_sub hl [0, 1, 2, 3, 4] rfl)
set_option maxHeartbeats 4000000 in
set_option maxRecDepth 100000 in
/-- mean -/
theorem zcX4_mean (l : Launch) (D : va_G) (cI : ClassId) (H : Heap) (b : Nat) (n : Nat) (me : Nat → Int32) (lo : Nat → Int32) (c : Nat → Nat) (e : Nat → Nat) (rd : Int32) (tk : Int32) (g : zG) (hJ : va_P D vwCl (zPJ b) H) (hW : va_P D vwCl (zSeats cI (b + 1) n me lo c e) H) (hT : va_P D vwCl (zTalk cI (b + 10) rd tk g) H) (hI : zI n me lo c e) (hZ : zJ n g) : Met l yX4_mean wsX4_mean ({ frames := 3, cells := 0, slots := 0, locals := 65 } : Room) (zPc D [(cI, .int)] H [.ref b]) (zQ (some (.double (zmean n g))) H) 0 0 (fun _ => False) := by
  refine z_enter (cc := cX4_mean) (maxL := 2) (ret := (some .double)) (by decide) rfl (Nat.le_of_ble_eq_true rfl) ?_
  intro pg ev s m args below meth cd hfix hr hlocks hname hK hHs ls hl
  obtain ⟨hx, hb, hml, hown, hts⟩ := id hfix
  have hl : lv_has ls 2 [(0, .ref b)] := hl
  have hinX4 : ∀ w ∈ wsX40, w ∈ wsX4_mean := by decide +kernel
  have hn := zI_n hI
  refine lv_aload_n hx hb dX4_mean_0 rfl (lv_at hl 0 rfl) ?_
  refine va_get (D := D) (ci := 4) (v := .ref (b + 1)) (C := RX4) (T := TX4) (N := 4) hx hb hts hinX4 hown hK hJ 0 rfl rfl 0 (by decide) (hts _ (List.mem_of_getElem? (i := 1) rfl)) (fun _ h9 => h9) rfl dX4_mean_1 ?_
  refine z_ki (va_runV (As := []) (rest := []) hfix (zcX2_size l D cI H (b + 1) n me lo c e hW) (cwV 0 hts gX4_mean_X2_size rfl rfl rfl (by decide +kernel) ⟨Nat.le_of_ble_eq_true rfl, Nat.le_of_ble_eq_true rfl⟩) (z_preV hK hK hW (ci := 2) (q0 := 0) rfl rfl rfl) rfl rfl hl.1 rfl (lv_room (Nat.le_of_ble_eq_true rfl)) dX4_mean_4 ⟨by omega, by omega⟩) ?_
  refine lv_istore_n (lv' := [(1, .int (nI n)), (0, .ref b)]) hx hb dX4_mean_7 rfl hl (by decide) rfl (fun ls hl => ?_)
  refine lv_iload_n hx hb dX4_mean_8 rfl (lv_at hl 0 rfl) ?_
  refine lv_if_gt (tgt := 14) hx hb dX4_mean_9 (by decide) (fun c9 => ?_) (fun c9 => ?_)
  · have c9 := z_lt (a := 0) (b := n) c9 (by omega) (by omega)
    refine lv_aload_n hx hb dX4_mean_14 rfl (lv_at hl 1 rfl) ?_
    refine z_ki (va_runV (As := []) (rest := []) hfix (zcX4_sureOfAll l D cI H b n me lo c e rd tk g hJ hW hT hI) (cwV 0 hts gX4_mean_X4_sureOfAll rfl rfl rfl (by decide +kernel) ⟨Nat.le_of_ble_eq_true rfl, Nat.le_of_ble_eq_true rfl⟩) (z_preV hK hK hJ (ci := 4) (q0 := 0) rfl rfl rfl) rfl rfl hl.1 rfl (lv_room (Nat.le_of_ble_eq_true rfl)) dX4_mean_15 ⟨by omega, by omega⟩) ?_
    refine lv_i2d hx hb dX4_mean_18 ?_
    refine lv_iload_n hx hb dX4_mean_19 rfl (lv_at hl 0 rfl) ?_
    refine lv_i2d hx hb dX4_mean_20 ?_
    refine lv_ddiv hx hb dX4_mean_21 (zd_nan2 hn c9 hZ) ?_
    refine z_tod (y := zmean n g) (by simp only [zmean]; rw [if_neg (by omega)]) ?_
    exact z_dret hx hb hr hlocks dX4_mean_22
  · have c9 := z_nlt (a := 0) (b := n) c9 (by omega) (by omega)
    refine lv_dconst0 hx hb dX4_mean_12 ?_
    refine z_tod (y := zmean n g) (by simp only [zmean]; rw [if_pos (by omega)]) ?_
    exact z_dret hx hb hr hlocks dX4_mean_13
set_option maxHeartbeats 4000000 in
set_option maxRecDepth 100000 in
/-- tellOfParrot -/
theorem zcX4_tellOfParrot (l : Launch) (D : va_G) (cI : ClassId) (H : Heap) (b : Nat) (n : Nat) (me : Nat → Int32) (lo : Nat → Int32) (c : Nat → Nat) (e : Nat → Nat) (rd : Int32) (tk : Int32) (g : zG) (p : Nat) (q : Nat) (hJ : va_P D vwCl (zPJ b) H) (hW : va_P D vwCl (zSeats cI (b + 1) n me lo c e) H) (hT : va_P D vwCl (zTalk cI (b + 10) rd tk g) H) (hI : zI n me lo c e) (hp : p < 12) (hq : q ≤ 6) : Met l yX4_tellOfParrot wsX4_tellOfParrot ({ frames := 4, cells := 0, slots := 0, locals := 90 } : Room) (zPc D [(cI, .int)] H [.ref b, .int (nI p), .int (nI q)]) (zQ (some (.int (tp n g me lo c e p q))) H) 0 0 (fun _ => False) := by
  refine z_enter (cc := cX4_tellOfParrot) (maxL := 3) (ret := (some .int)) (by decide) rfl (Nat.le_of_ble_eq_true rfl) ?_
  intro pg ev s m args below meth cd hfix hr hlocks hname hK hHs ls hl
  obtain ⟨hx, hb, hml, hown, hts⟩ := id hfix
  have hl : lv_has ls 3 [(0, .ref b), (1, .int (nI p)), (2, .int (nI q))] := hl
  have hinX4 : ∀ w ∈ wsX40, w ∈ wsX4_tellOfParrot := by decide +kernel
  have hn := zI_n hI
  refine lv_iload_n hx hb dX4_tellOfParrot_0 rfl (lv_at hl 2 rfl) ?_
  have hsw : q = 0 ∨ q = 1 ∨ q = 2 ∨ q = 3 ∨ q = 4 ∨ q = 5 ∨ q = 6 := by omega
  rcases hsw with hsw | hsw | hsw | hsw | hsw | hsw | hsw
  · refine lv_tableIn (x := nI q) (off := 39) (tgt := 40) hx hb dX4_tellOfParrot_1 (by rw [hsw]; decide) (by rw [hsw]; decide) (by rw [hsw]; rfl) (by decide) ?_
    refine lv_aload_n hx hb dX4_tellOfParrot_40 rfl (lv_at hl 0 rfl) ?_
    refine va_get (D := D) (ci := 4) (v := .ref (b + 10)) (C := RX4) (T := TX4) (N := 4) hx hb hts hinX4 hown hK hJ 0 rfl rfl 1 (by decide) (hts _ (List.mem_of_getElem? (i := 1) rfl)) (fun _ h9 => h9) rfl dX4_tellOfParrot_41 ?_
    refine lv_iload_n hx hb dX4_tellOfParrot_44 rfl (lv_at hl 1 rfl) ?_
    refine z_ki (va_runV (As := [.int (nI p)]) (rest := []) hfix (zcX3_word l D cI H (b + 10) rd tk g p hT (by omega)) (cwV 1 hts gX4_tellOfParrot_X3_word rfl rfl rfl (by decide +kernel) ⟨Nat.le_of_ble_eq_true rfl, Nat.le_of_ble_eq_true rfl⟩) (z_preV hK hK hT (ci := 3) (q0 := 0) rfl rfl rfl) rfl rfl hl.1 rfl (lv_room (Nat.le_of_ble_eq_true rfl)) dX4_tellOfParrot_45 ⟨by omega, by omega⟩) ?_
    refine z_toi (y := (tp n g me lo c e p q)) (by rw [hsw]; rfl) ?_
    exact z_iret hx hb hr hlocks dX4_tellOfParrot_48
  · refine lv_tableIn (x := nI q) (off := 48) (tgt := 49) hx hb dX4_tellOfParrot_1 (by rw [hsw]; decide) (by rw [hsw]; decide) (by rw [hsw]; rfl) (by decide) ?_
    refine lv_aload_n hx hb dX4_tellOfParrot_49 rfl (lv_at hl 0 rfl) ?_
    refine va_get (D := D) (ci := 4) (v := .ref (b + 10)) (C := RX4) (T := TX4) (N := 4) hx hb hts hinX4 hown hK hJ 0 rfl rfl 1 (by decide) (hts _ (List.mem_of_getElem? (i := 1) rfl)) (fun _ h9 => h9) rfl dX4_tellOfParrot_50 ?_
    refine lv_iload_n hx hb dX4_tellOfParrot_53 rfl (lv_at hl 1 rfl) ?_
    refine z_ki (va_runV (As := [.int (nI p)]) (rest := []) hfix (zcX3_sure l D cI H (b + 10) rd tk g p hT (by omega)) (cwV 1 hts gX4_tellOfParrot_X3_sure rfl rfl rfl (by decide +kernel) ⟨Nat.le_of_ble_eq_true rfl, Nat.le_of_ble_eq_true rfl⟩) (z_preV hK hK hT (ci := 3) (q0 := 0) rfl rfl rfl) rfl rfl hl.1 rfl (lv_room (Nat.le_of_ble_eq_true rfl)) dX4_tellOfParrot_54 ⟨by omega, by omega⟩) ?_
    refine z_toi (y := (tp n g me lo c e p q)) (by rw [hsw]; rfl) ?_
    exact z_iret hx hb hr hlocks dX4_tellOfParrot_57
  · refine lv_tableIn (x := nI q) (off := 57) (tgt := 58) hx hb dX4_tellOfParrot_1 (by rw [hsw]; decide) (by rw [hsw]; decide) (by rw [hsw]; rfl) (by decide) ?_
    refine lv_aload_n hx hb dX4_tellOfParrot_58 rfl (lv_at hl 0 rfl) ?_
    refine va_get (D := D) (ci := 4) (v := .ref (b + 1)) (C := RX4) (T := TX4) (N := 4) hx hb hts hinX4 hown hK hJ 0 rfl rfl 0 (by decide) (hts _ (List.mem_of_getElem? (i := 2) rfl)) (fun _ h9 => h9) rfl dX4_tellOfParrot_59 ?_
    refine lv_iload_n hx hb dX4_tellOfParrot_62 rfl (lv_at hl 1 rfl) ?_
    refine z_ki (va_runV (As := [.int (nI p)]) (rest := []) hfix (zcX2_memory l D cI H (b + 1) n me lo c e p hW (by omega)) (cwV 1 hts gX4_tellOfParrot_X2_memory rfl rfl rfl (by decide +kernel) ⟨Nat.le_of_ble_eq_true rfl, Nat.le_of_ble_eq_true rfl⟩) (z_preV hK hK hW (ci := 2) (q0 := 0) rfl rfl rfl) rfl rfl hl.1 rfl (lv_room (Nat.le_of_ble_eq_true rfl)) dX4_tellOfParrot_63 ⟨by omega, by omega⟩) ?_
    refine z_toi (y := (tp n g me lo c e p q)) (by rw [hsw]; rfl) ?_
    exact z_iret hx hb hr hlocks dX4_tellOfParrot_66
  · refine lv_tableIn (x := nI q) (off := 66) (tgt := 67) hx hb dX4_tellOfParrot_1 (by rw [hsw]; decide) (by rw [hsw]; decide) (by rw [hsw]; rfl) (by decide) ?_
    refine lv_aload_n hx hb dX4_tellOfParrot_67 rfl (lv_at hl 0 rfl) ?_
    refine va_get (D := D) (ci := 4) (v := .ref (b + 1)) (C := RX4) (T := TX4) (N := 4) hx hb hts hinX4 hown hK hJ 0 rfl rfl 0 (by decide) (hts _ (List.mem_of_getElem? (i := 2) rfl)) (fun _ h9 => h9) rfl dX4_tellOfParrot_68 ?_
    refine lv_iload_n hx hb dX4_tellOfParrot_71 rfl (lv_at hl 1 rfl) ?_
    refine z_ki (va_runV (As := [.int (nI p)]) (rest := []) hfix (zcX2_loud l D cI H (b + 1) n me lo c e p hW (by omega)) (cwV 1 hts gX4_tellOfParrot_X2_loud rfl rfl rfl (by decide +kernel) ⟨Nat.le_of_ble_eq_true rfl, Nat.le_of_ble_eq_true rfl⟩) (z_preV hK hK hW (ci := 2) (q0 := 0) rfl rfl rfl) rfl rfl hl.1 rfl (lv_room (Nat.le_of_ble_eq_true rfl)) dX4_tellOfParrot_72 ⟨by omega, by omega⟩) ?_
    refine z_toi (y := (tp n g me lo c e p q)) (by rw [hsw]; rfl) ?_
    exact z_iret hx hb hr hlocks dX4_tellOfParrot_75
  · refine lv_tableIn (x := nI q) (off := 75) (tgt := 76) hx hb dX4_tellOfParrot_1 (by rw [hsw]; decide) (by rw [hsw]; decide) (by rw [hsw]; rfl) (by decide) ?_
    refine lv_aload_n hx hb dX4_tellOfParrot_76 rfl (lv_at hl 0 rfl) ?_
    refine va_get (D := D) (ci := 4) (v := .ref (b + 1)) (C := RX4) (T := TX4) (N := 4) hx hb hts hinX4 hown hK hJ 0 rfl rfl 0 (by decide) (hts _ (List.mem_of_getElem? (i := 2) rfl)) (fun _ h9 => h9) rfl dX4_tellOfParrot_77 ?_
    refine lv_iload_n hx hb dX4_tellOfParrot_80 rfl (lv_at hl 1 rfl) ?_
    refine z_ki (va_runV (As := [.int (nI p)]) (rest := []) hfix (zcX2_listening l D cI H (b + 1) n me lo c e p hW (by omega)) (cwV 1 hts gX4_tellOfParrot_X2_listening rfl rfl rfl (by decide +kernel) ⟨Nat.le_of_ble_eq_true rfl, Nat.le_of_ble_eq_true rfl⟩) (z_preV hK hK hW (ci := 2) (q0 := 0) rfl rfl rfl) rfl rfl hl.1 rfl (lv_room (Nat.le_of_ble_eq_true rfl)) dX4_tellOfParrot_81 ⟨by omega, by omega⟩) ?_
    refine z_toi (y := (tp n g me lo c e p q)) (by rw [hsw]; rfl) ?_
    exact z_iret hx hb hr hlocks dX4_tellOfParrot_84
  · refine lv_tableIn (x := nI q) (off := 84) (tgt := 85) hx hb dX4_tellOfParrot_1 (by rw [hsw]; decide) (by rw [hsw]; decide) (by rw [hsw]; rfl) (by decide) ?_
    refine lv_aload_n hx hb dX4_tellOfParrot_85 rfl (lv_at hl 0 rfl) ?_
    refine va_get (D := D) (ci := 4) (v := .ref (b + 1)) (C := RX4) (T := TX4) (N := 4) hx hb hts hinX4 hown hK hJ 0 rfl rfl 0 (by decide) (hts _ (List.mem_of_getElem? (i := 2) rfl)) (fun _ h9 => h9) rfl dX4_tellOfParrot_86 ?_
    refine lv_iload_n hx hb dX4_tellOfParrot_89 rfl (lv_at hl 1 rfl) ?_
    refine z_ki (va_runV (As := [.int (nI p)]) (rest := []) hfix (zcX2_listeners l D cI H (b + 1) n me lo c e p hW hI (by omega)) (cwV 1 hts gX4_tellOfParrot_X2_listeners rfl rfl rfl (by decide +kernel) ⟨Nat.le_of_ble_eq_true rfl, Nat.le_of_ble_eq_true rfl⟩) (z_preV hK hK hW (ci := 2) (q0 := 0) rfl rfl rfl) rfl rfl hl.1 rfl (lv_room (Nat.le_of_ble_eq_true rfl)) dX4_tellOfParrot_90 ⟨by omega, by omega⟩) ?_
    refine z_toi (y := (tp n g me lo c e p q)) (by rw [hsw]; rfl) ?_
    exact z_iret hx hb hr hlocks dX4_tellOfParrot_93
  · refine lv_tableOut (x := nI q) (tgt := 94) hx hb dX4_tellOfParrot_1 (by rw [hsw]; decide) (by decide) ?_
    refine lv_aload_n hx hb dX4_tellOfParrot_94 rfl (lv_at hl 0 rfl) ?_
    refine va_get (D := D) (ci := 4) (v := .ref (b + 1)) (C := RX4) (T := TX4) (N := 4) hx hb hts hinX4 hown hK hJ 0 rfl rfl 0 (by decide) (hts _ (List.mem_of_getElem? (i := 2) rfl)) (fun _ h9 => h9) rfl dX4_tellOfParrot_95 ?_
    refine lv_iload_n hx hb dX4_tellOfParrot_98 rfl (lv_at hl 1 rfl) ?_
    refine z_ki (va_runV (As := [.int (nI p)]) (rest := []) hfix (zcX2_heard l D cI H (b + 1) n me lo c e p hW hI (by omega)) (cwV 1 hts gX4_tellOfParrot_X2_heard rfl rfl rfl (by decide +kernel) ⟨Nat.le_of_ble_eq_true rfl, Nat.le_of_ble_eq_true rfl⟩) (z_preV hK hK hW (ci := 2) (q0 := 0) rfl rfl rfl) rfl rfl hl.1 rfl (lv_room (Nat.le_of_ble_eq_true rfl)) dX4_tellOfParrot_99 ⟨by omega, by omega⟩) ?_
    refine z_toi (y := (tp n g me lo c e p q)) (by rw [hsw]; rfl) ?_
    exact z_iret hx hb hr hlocks dX4_tellOfParrot_102
set_option maxHeartbeats 4000000 in
set_option maxRecDepth 100000 in
/-- tellOfHalf -/
theorem zcX4_tellOfHalf_0 (l : Launch) (D : va_G) (cI : ClassId) (H : Heap) (b : Nat) (n : Nat) (me : Nat → Int32) (lo : Nat → Int32) (c : Nat → Nat) (e : Nat → Nat) (rd : Int32) (tk : Int32) (g : zG) (p : Nat) (q : Nat) (hJ : va_P D vwCl (zPJ b) H) (hW : va_P D vwCl (zSeats cI (b + 1) n me lo c e) H) (hT : va_P D vwCl (zTalk cI (b + 10) rd tk g) H) (hI : zI n me lo c e) (hp : p < 12) (hq : q ≤ 2) : Met l yX4_tellOfHalf wsX4_tellOfHalf ({ frames := 2, cells := 0, slots := 0, locals := 42 } : Room) (zPc D [(cI, .int)] H [.ref b, .int (nI p), .int 0, .int (nI q)]) (zQ (some (.int (th g p 0 q))) H) 0 0 (fun _ => False) := by
  refine z_enter (cc := cX4_tellOfHalf) (maxL := 5) (ret := (some .int)) (by decide) rfl (Nat.le_of_ble_eq_true rfl) ?_
  intro pg ev s m args below meth cd hfix hr hlocks hname hK hHs ls hl
  obtain ⟨hx, hb, hml, hown, hts⟩ := id hfix
  have hl : lv_has ls 5 [(0, .ref b), (1, .int (nI p)), (2, .int 0), (3, .int (nI q))] := hl
  have hinX4 : ∀ w ∈ wsX40, w ∈ wsX4_tellOfHalf := by decide +kernel
  refine lv_aload_n hx hb dX4_tellOfHalf_0 rfl (lv_at hl 0 rfl) ?_
  refine va_get (D := D) (ci := 4) (v := .ref (b + 10)) (C := RX4) (T := TX4) (N := 4) hx hb hts hinX4 hown hK hJ 0 rfl rfl 1 (by decide) (hts _ (List.mem_of_getElem? (i := 1) rfl)) (fun _ h9 => h9) rfl dX4_tellOfHalf_1 ?_
  refine lv_iload_n hx hb dX4_tellOfHalf_4 rfl (lv_at hl 2 rfl) ?_
  refine z_kr (va_runV (As := [.int 0]) (rest := []) hfix (zcX3_halves_0 l D cI H (b + 10) rd tk g hT) (cwV 1 hts gX4_tellOfHalf_X3_halves rfl rfl rfl (by decide +kernel) ⟨Nat.le_of_ble_eq_true rfl, Nat.le_of_ble_eq_true rfl⟩) (z_preV hK hK hT (ci := 3) (q0 := 0) rfl rfl rfl) rfl rfl hl.1 rfl (lv_room (Nat.le_of_ble_eq_true rfl)) dX4_tellOfHalf_5 ⟨by omega, by omega⟩) ?_
  refine lv_astore (lv' := [(4, .ref (b + 13)), (0, .ref b), (1, .int (nI p)), (2, .int 0), (3, .int (nI q))]) hx hb dX4_tellOfHalf_8 hl (by decide) rfl (fun ls hl => ?_)
  refine lv_iload_n hx hb dX4_tellOfHalf_10 rfl (lv_at hl 4 rfl) ?_
  have hsw : q = 0 ∨ q = 1 ∨ q = 2 := by omega
  rcases hsw with hsw | hsw | hsw
  · refine lv_lookup (x := nI q) (off := 25) (tgt := 36) hx hb dX4_tellOfHalf_11 (by decide) (by rw [hsw]; decide) (by decide) ?_
    refine lv_aload hx hb dX4_tellOfHalf_36 (lv_at hl 0 rfl) ?_
    refine lv_iload_n hx hb dX4_tellOfHalf_38 rfl (lv_at hl 2 rfl) ?_
    refine z_ki (va_runV (As := [.int (nI p)]) (rest := []) hfix (zcX0_value l D cI H (b + 13) (g 0) (g 2) (g 4) p (va_P.sub (ws' := (zHalves cI (b + 13) (g 0) (g 2) (g 4))) hT [3, 4, 5, 6, 7, 8, 9] rfl) (by omega)) (cwV 1 hts gX4_tellOfHalf_X0_value rfl rfl rfl (by decide +kernel) ⟨Nat.le_of_ble_eq_true rfl, Nat.le_of_ble_eq_true rfl⟩) (z_preV hK hK hT (ci := 0) (q0 := 3) rfl rfl rfl) rfl rfl hl.1 rfl (lv_room (Nat.le_of_ble_eq_true rfl)) dX4_tellOfHalf_39 ⟨by omega, by omega⟩) ?_
    refine z_toi (y := (th g p 0 q)) (by rw [hsw]; rfl) ?_
    exact z_iret hx hb hr hlocks dX4_tellOfHalf_42
  · refine lv_lookup (x := nI q) (off := 32) (tgt := 43) hx hb dX4_tellOfHalf_11 (by decide) (by rw [hsw]; decide) (by decide) ?_
    refine lv_aload hx hb dX4_tellOfHalf_43 (lv_at hl 0 rfl) ?_
    refine lv_iload_n hx hb dX4_tellOfHalf_45 rfl (lv_at hl 2 rfl) ?_
    refine z_ki (va_runV (As := [.int (nI p)]) (rest := []) hfix (zcX0_from l D cI H (b + 13) (g 0) (g 2) (g 4) p (va_P.sub (ws' := (zHalves cI (b + 13) (g 0) (g 2) (g 4))) hT [3, 4, 5, 6, 7, 8, 9] rfl) (by omega)) (cwV 1 hts gX4_tellOfHalf_X0_from rfl rfl rfl (by decide +kernel) ⟨Nat.le_of_ble_eq_true rfl, Nat.le_of_ble_eq_true rfl⟩) (z_preV hK hK hT (ci := 0) (q0 := 3) rfl rfl rfl) rfl rfl hl.1 rfl (lv_room (Nat.le_of_ble_eq_true rfl)) dX4_tellOfHalf_46 ⟨by omega, by omega⟩) ?_
    refine z_toi (y := (th g p 0 q)) (by rw [hsw]; rfl) ?_
    exact z_iret hx hb hr hlocks dX4_tellOfHalf_49
  · refine lv_lookup (x := nI q) (off := 39) (tgt := 50) hx hb dX4_tellOfHalf_11 (by decide) (by rw [hsw]; decide) (by decide) ?_
    refine lv_aload hx hb dX4_tellOfHalf_50 (lv_at hl 0 rfl) ?_
    refine lv_iload_n hx hb dX4_tellOfHalf_52 rfl (lv_at hl 2 rfl) ?_
    refine z_ki (va_runV (As := [.int (nI p)]) (rest := []) hfix (zcX0_over l D cI H (b + 13) (g 0) (g 2) (g 4) p (va_P.sub (ws' := (zHalves cI (b + 13) (g 0) (g 2) (g 4))) hT [3, 4, 5, 6, 7, 8, 9] rfl) (by omega)) (cwV 1 hts gX4_tellOfHalf_X0_over rfl rfl rfl (by decide +kernel) ⟨Nat.le_of_ble_eq_true rfl, Nat.le_of_ble_eq_true rfl⟩) (z_preV hK hK hT (ci := 0) (q0 := 3) rfl rfl rfl) rfl rfl hl.1 rfl (lv_room (Nat.le_of_ble_eq_true rfl)) dX4_tellOfHalf_53 ⟨by omega, by omega⟩) ?_
    refine z_toi (y := (th g p 0 q)) (by rw [hsw]; rfl) ?_
    exact z_iret hx hb hr hlocks dX4_tellOfHalf_56
set_option maxHeartbeats 4000000 in
set_option maxRecDepth 100000 in
/-- tellOfHalf -/
theorem zcX4_tellOfHalf_1 (l : Launch) (D : va_G) (cI : ClassId) (H : Heap) (b : Nat) (n : Nat) (me : Nat → Int32) (lo : Nat → Int32) (c : Nat → Nat) (e : Nat → Nat) (rd : Int32) (tk : Int32) (g : zG) (p : Nat) (q : Nat) (hJ : va_P D vwCl (zPJ b) H) (hW : va_P D vwCl (zSeats cI (b + 1) n me lo c e) H) (hT : va_P D vwCl (zTalk cI (b + 10) rd tk g) H) (hI : zI n me lo c e) (hp : p < 12) (hq : q ≤ 2) : Met l yX4_tellOfHalf wsX4_tellOfHalf ({ frames := 2, cells := 0, slots := 0, locals := 42 } : Room) (zPc D [(cI, .int)] H [.ref b, .int (nI p), .int 1, .int (nI q)]) (zQ (some (.int (th g p 1 q))) H) 0 0 (fun _ => False) := by
  refine z_enter (cc := cX4_tellOfHalf) (maxL := 5) (ret := (some .int)) (by decide) rfl (Nat.le_of_ble_eq_true rfl) ?_
  intro pg ev s m args below meth cd hfix hr hlocks hname hK hHs ls hl
  obtain ⟨hx, hb, hml, hown, hts⟩ := id hfix
  have hl : lv_has ls 5 [(0, .ref b), (1, .int (nI p)), (2, .int 1), (3, .int (nI q))] := hl
  have hinX4 : ∀ w ∈ wsX40, w ∈ wsX4_tellOfHalf := by decide +kernel
  refine lv_aload_n hx hb dX4_tellOfHalf_0 rfl (lv_at hl 0 rfl) ?_
  refine va_get (D := D) (ci := 4) (v := .ref (b + 10)) (C := RX4) (T := TX4) (N := 4) hx hb hts hinX4 hown hK hJ 0 rfl rfl 1 (by decide) (hts _ (List.mem_of_getElem? (i := 1) rfl)) (fun _ h9 => h9) rfl dX4_tellOfHalf_1 ?_
  refine lv_iload_n hx hb dX4_tellOfHalf_4 rfl (lv_at hl 2 rfl) ?_
  refine z_kr (va_runV (As := [.int 1]) (rest := []) hfix (zcX3_halves_1 l D cI H (b + 10) rd tk g hT) (cwV 1 hts gX4_tellOfHalf_X3_halves rfl rfl rfl (by decide +kernel) ⟨Nat.le_of_ble_eq_true rfl, Nat.le_of_ble_eq_true rfl⟩) (z_preV hK hK hT (ci := 3) (q0 := 0) rfl rfl rfl) rfl rfl hl.1 rfl (lv_room (Nat.le_of_ble_eq_true rfl)) dX4_tellOfHalf_5 ⟨by omega, by omega⟩) ?_
  refine lv_astore (lv' := [(4, .ref (b + 20)), (0, .ref b), (1, .int (nI p)), (2, .int 1), (3, .int (nI q))]) hx hb dX4_tellOfHalf_8 hl (by decide) rfl (fun ls hl => ?_)
  refine lv_iload_n hx hb dX4_tellOfHalf_10 rfl (lv_at hl 4 rfl) ?_
  have hsw : q = 0 ∨ q = 1 ∨ q = 2 := by omega
  rcases hsw with hsw | hsw | hsw
  · refine lv_lookup (x := nI q) (off := 25) (tgt := 36) hx hb dX4_tellOfHalf_11 (by decide) (by rw [hsw]; decide) (by decide) ?_
    refine lv_aload hx hb dX4_tellOfHalf_36 (lv_at hl 0 rfl) ?_
    refine lv_iload_n hx hb dX4_tellOfHalf_38 rfl (lv_at hl 2 rfl) ?_
    refine z_ki (va_runV (As := [.int (nI p)]) (rest := []) hfix (zcX0_value l D cI H (b + 20) (g 1) (g 3) (g 5) p (va_P.sub (ws' := (zHalves cI (b + 20) (g 1) (g 3) (g 5))) hT [10, 11, 12, 13, 14, 15, 16] rfl) (by omega)) (cwV 1 hts gX4_tellOfHalf_X0_value rfl rfl rfl (by decide +kernel) ⟨Nat.le_of_ble_eq_true rfl, Nat.le_of_ble_eq_true rfl⟩) (z_preV hK hK hT (ci := 0) (q0 := 10) rfl rfl rfl) rfl rfl hl.1 rfl (lv_room (Nat.le_of_ble_eq_true rfl)) dX4_tellOfHalf_39 ⟨by omega, by omega⟩) ?_
    refine z_toi (y := (th g p 1 q)) (by rw [hsw]; rfl) ?_
    exact z_iret hx hb hr hlocks dX4_tellOfHalf_42
  · refine lv_lookup (x := nI q) (off := 32) (tgt := 43) hx hb dX4_tellOfHalf_11 (by decide) (by rw [hsw]; decide) (by decide) ?_
    refine lv_aload hx hb dX4_tellOfHalf_43 (lv_at hl 0 rfl) ?_
    refine lv_iload_n hx hb dX4_tellOfHalf_45 rfl (lv_at hl 2 rfl) ?_
    refine z_ki (va_runV (As := [.int (nI p)]) (rest := []) hfix (zcX0_from l D cI H (b + 20) (g 1) (g 3) (g 5) p (va_P.sub (ws' := (zHalves cI (b + 20) (g 1) (g 3) (g 5))) hT [10, 11, 12, 13, 14, 15, 16] rfl) (by omega)) (cwV 1 hts gX4_tellOfHalf_X0_from rfl rfl rfl (by decide +kernel) ⟨Nat.le_of_ble_eq_true rfl, Nat.le_of_ble_eq_true rfl⟩) (z_preV hK hK hT (ci := 0) (q0 := 10) rfl rfl rfl) rfl rfl hl.1 rfl (lv_room (Nat.le_of_ble_eq_true rfl)) dX4_tellOfHalf_46 ⟨by omega, by omega⟩) ?_
    refine z_toi (y := (th g p 1 q)) (by rw [hsw]; rfl) ?_
    exact z_iret hx hb hr hlocks dX4_tellOfHalf_49
  · refine lv_lookup (x := nI q) (off := 39) (tgt := 50) hx hb dX4_tellOfHalf_11 (by decide) (by rw [hsw]; decide) (by decide) ?_
    refine lv_aload hx hb dX4_tellOfHalf_50 (lv_at hl 0 rfl) ?_
    refine lv_iload_n hx hb dX4_tellOfHalf_52 rfl (lv_at hl 2 rfl) ?_
    refine z_ki (va_runV (As := [.int (nI p)]) (rest := []) hfix (zcX0_over l D cI H (b + 20) (g 1) (g 3) (g 5) p (va_P.sub (ws' := (zHalves cI (b + 20) (g 1) (g 3) (g 5))) hT [10, 11, 12, 13, 14, 15, 16] rfl) (by omega)) (cwV 1 hts gX4_tellOfHalf_X0_over rfl rfl rfl (by decide +kernel) ⟨Nat.le_of_ble_eq_true rfl, Nat.le_of_ble_eq_true rfl⟩) (z_preV hK hK hT (ci := 0) (q0 := 10) rfl rfl rfl) rfl rfl hl.1 rfl (lv_room (Nat.le_of_ble_eq_true rfl)) dX4_tellOfHalf_53 ⟨by omega, by omega⟩) ?_
    refine z_toi (y := (th g p 1 q)) (by rw [hsw]; rfl) ?_
    exact z_iret hx hb hr hlocks dX4_tellOfHalf_56
set_option maxHeartbeats 4000000 in
set_option maxRecDepth 100000 in
/-- tellOfJury -/
theorem zcX4_tellOfJury (l : Launch) (D : va_G) (cI : ClassId) (H : Heap) (b : Nat) (n : Nat) (me : Nat → Int32) (lo : Nat → Int32) (c : Nat → Nat) (e : Nat → Nat) (rd : Int32) (tk : Int32) (g : zG) (q : Nat) (hJ : va_P D vwCl (zPJ b) H) (hW : va_P D vwCl (zSeats cI (b + 1) n me lo c e) H) (hT : va_P D vwCl (zTalk cI (b + 10) rd tk g) H) (hI : zI n me lo c e) (hq : q ≤ 5) : Met l yX4_tellOfJury wsX4_tellOfJury ({ frames := 5, cells := 0, slots := 0, locals := 109 } : Room) (zPc D [(cI, .int)] H [.ref b, .int (nI q)]) (zQ (some (.int (tj n (rd, tk, g) q))) H) 0 0 (fun _ => False) := by
  refine z_enter (cc := cX4_tellOfJury) (maxL := 2) (ret := (some .int)) (by decide) rfl (Nat.le_of_ble_eq_true rfl) ?_
  intro pg ev s m args below meth cd hfix hr hlocks hname hK hHs ls hl
  obtain ⟨hx, hb, hml, hown, hts⟩ := id hfix
  have hl : lv_has ls 2 [(0, .ref b), (1, .int (nI q))] := hl
  have hinX4 : ∀ w ∈ wsX40, w ∈ wsX4_tellOfJury := by decide +kernel
  have hn := zI_n hI
  refine lv_iload_n hx hb dX4_tellOfJury_0 rfl (lv_at hl 1 rfl) ?_
  have hsw : q = 0 ∨ q = 1 ∨ q = 2 ∨ q = 3 ∨ q = 4 ∨ q = 5 := by omega
  rcases hsw with hsw | hsw | hsw | hsw | hsw | hsw
  · refine lv_tableIn (x := nI q) (off := 35) (tgt := 36) hx hb dX4_tellOfJury_1 (by rw [hsw]; decide) (by rw [hsw]; decide) (by rw [hsw]; rfl) (by decide) ?_
    refine lv_aload_n hx hb dX4_tellOfJury_36 rfl (lv_at hl 0 rfl) ?_
    refine va_get (D := D) (ci := 4) (v := .ref (b + 10)) (C := RX4) (T := TX4) (N := 4) hx hb hts hinX4 hown hK hJ 0 rfl rfl 1 (by decide) (hts _ (List.mem_of_getElem? (i := 1) rfl)) (fun _ h9 => h9) rfl dX4_tellOfJury_37 ?_
    refine z_ki (va_runV (As := []) (rest := []) hfix (zcX3_round l D cI H (b + 10) rd tk g hT) (cwV 0 hts gX4_tellOfJury_X3_round rfl rfl rfl (by decide +kernel) ⟨Nat.le_of_ble_eq_true rfl, Nat.le_of_ble_eq_true rfl⟩) (z_preV hK hK hT (ci := 3) (q0 := 0) rfl rfl rfl) rfl rfl hl.1 rfl (lv_room (Nat.le_of_ble_eq_true rfl)) dX4_tellOfJury_40 ⟨by omega, by omega⟩) ?_
    refine z_toi (y := (tj n (rd, tk, g) q)) (by rw [hsw]; rfl) ?_
    exact z_iret hx hb hr hlocks dX4_tellOfJury_43
  · refine lv_tableIn (x := nI q) (off := 43) (tgt := 44) hx hb dX4_tellOfJury_1 (by rw [hsw]; decide) (by rw [hsw]; decide) (by rw [hsw]; rfl) (by decide) ?_
    refine lv_aload_n hx hb dX4_tellOfJury_44 rfl (lv_at hl 0 rfl) ?_
    refine va_get (D := D) (ci := 4) (v := .ref (b + 1)) (C := RX4) (T := TX4) (N := 4) hx hb hts hinX4 hown hK hJ 0 rfl rfl 0 (by decide) (hts _ (List.mem_of_getElem? (i := 2) rfl)) (fun _ h9 => h9) rfl dX4_tellOfJury_45 ?_
    refine z_ki (va_runV (As := []) (rest := []) hfix (zcX2_size l D cI H (b + 1) n me lo c e hW) (cwV 0 hts gX4_tellOfJury_X2_size rfl rfl rfl (by decide +kernel) ⟨Nat.le_of_ble_eq_true rfl, Nat.le_of_ble_eq_true rfl⟩) (z_preV hK hK hW (ci := 2) (q0 := 0) rfl rfl rfl) rfl rfl hl.1 rfl (lv_room (Nat.le_of_ble_eq_true rfl)) dX4_tellOfJury_48 ⟨by omega, by omega⟩) ?_
    refine z_toi (y := (tj n (rd, tk, g) q)) (by rw [hsw]; rfl) ?_
    exact z_iret hx hb hr hlocks dX4_tellOfJury_51
  · refine lv_tableIn (x := nI q) (off := 51) (tgt := 52) hx hb dX4_tellOfJury_1 (by rw [hsw]; decide) (by rw [hsw]; decide) (by rw [hsw]; rfl) (by decide) ?_
    refine lv_aload_n hx hb dX4_tellOfJury_52 rfl (lv_at hl 0 rfl) ?_
    refine z_ki (va_runV (As := []) (rest := []) hfix (zcX4_differentWords l D cI H b n me lo c e rd tk g hJ hW hT hI) (cwV 0 hts gX4_tellOfJury_X4_differentWords rfl rfl rfl (by decide +kernel) ⟨Nat.le_of_ble_eq_true rfl, Nat.le_of_ble_eq_true rfl⟩) (z_preV hK hK hJ (ci := 4) (q0 := 0) rfl rfl rfl) rfl rfl hl.1 rfl (lv_room (Nat.le_of_ble_eq_true rfl)) dX4_tellOfJury_53 ⟨by omega, by omega⟩) ?_
    refine z_toi (y := (tj n (rd, tk, g) q)) (by rw [hsw]; rfl) ?_
    exact z_iret hx hb hr hlocks dX4_tellOfJury_56
  · refine lv_tableIn (x := nI q) (off := 56) (tgt := 57) hx hb dX4_tellOfJury_1 (by rw [hsw]; decide) (by rw [hsw]; decide) (by rw [hsw]; rfl) (by decide) ?_
    refine lv_aload_n hx hb dX4_tellOfJury_57 rfl (lv_at hl 0 rfl) ?_
    refine z_ki (va_runV (As := []) (rest := []) hfix (zcX4_halvesFromCourt l D cI H b n me lo c e rd tk g hJ hW hT hI) (cwV 0 hts gX4_tellOfJury_X4_halvesFromCourt rfl rfl rfl (by decide +kernel) ⟨Nat.le_of_ble_eq_true rfl, Nat.le_of_ble_eq_true rfl⟩) (z_preV hK hK hJ (ci := 4) (q0 := 0) rfl rfl rfl) rfl rfl hl.1 rfl (lv_room (Nat.le_of_ble_eq_true rfl)) dX4_tellOfJury_58 ⟨by omega, by omega⟩) ?_
    refine z_toi (y := (tj n (rd, tk, g) q)) (by rw [hsw]; rfl) ?_
    exact z_iret hx hb hr hlocks dX4_tellOfJury_61
  · refine lv_tableIn (x := nI q) (off := 61) (tgt := 62) hx hb dX4_tellOfJury_1 (by rw [hsw]; decide) (by rw [hsw]; decide) (by rw [hsw]; rfl) (by decide) ?_
    refine lv_aload_n hx hb dX4_tellOfJury_62 rfl (lv_at hl 0 rfl) ?_
    refine z_ki (va_runV (As := []) (rest := []) hfix (zcX4_sureOfAll l D cI H b n me lo c e rd tk g hJ hW hT hI) (cwV 0 hts gX4_tellOfJury_X4_sureOfAll rfl rfl rfl (by decide +kernel) ⟨Nat.le_of_ble_eq_true rfl, Nat.le_of_ble_eq_true rfl⟩) (z_preV hK hK hJ (ci := 4) (q0 := 0) rfl rfl rfl) rfl rfl hl.1 rfl (lv_room (Nat.le_of_ble_eq_true rfl)) dX4_tellOfJury_63 ⟨by omega, by omega⟩) ?_
    refine z_toi (y := (tj n (rd, tk, g) q)) (by rw [hsw]; rfl) ?_
    exact z_iret hx hb hr hlocks dX4_tellOfJury_66
  · refine lv_tableOut (x := nI q) (tgt := 67) hx hb dX4_tellOfJury_1 (by rw [hsw]; decide) (by decide) ?_
    refine lv_aload_n hx hb dX4_tellOfJury_67 rfl (lv_at hl 0 rfl) ?_
    refine va_get (D := D) (ci := 4) (v := .ref (b + 10)) (C := RX4) (T := TX4) (N := 4) hx hb hts hinX4 hown hK hJ 0 rfl rfl 1 (by decide) (hts _ (List.mem_of_getElem? (i := 1) rfl)) (fun _ h9 => h9) rfl dX4_tellOfJury_68 ?_
    refine z_ki (va_runV (As := []) (rest := []) hfix (zcX3_taken l D cI H (b + 10) rd tk g hT) (cwV 0 hts gX4_tellOfJury_X3_taken rfl rfl rfl (by decide +kernel) ⟨Nat.le_of_ble_eq_true rfl, Nat.le_of_ble_eq_true rfl⟩) (z_preV hK hK hT (ci := 3) (q0 := 0) rfl rfl rfl) rfl rfl hl.1 rfl (lv_room (Nat.le_of_ble_eq_true rfl)) dX4_tellOfJury_71 ⟨by omega, by omega⟩) ?_
    refine z_toi (y := (tj n (rd, tk, g) q)) (by rw [hsw]; rfl) ?_
    exact z_iret hx hb hr hlocks dX4_tellOfJury_74
