set_option maxHeartbeats 4000000 in
set_option maxRecDepth 100000 in
/-- Sim.heard -/
theorem zcX6_heard (l : Launch) (D : va_G) (cI : ClassId) (cR : ClassId) (H : Heap) (o : Nat) (t : Nat) (ar : Nat) (n : Nat) (B : Nat → Nat) (E : Nat → Nat) (me : Nat → Int32) (lo : Nat → Int32) (c : Nat → Nat) (e : Nat → Nat) (rd : Int32) (tk : Int32) (g : zG) (a : Nat) (ea : Nat) (hv : Nat → Int32) (fv : Nat → Int32) (ov : Nat → Int32) (sr : Int32) (mr : Int32) (lr : Int32) (p : Nat) (hSm : zSm D cI cR o t ar n B E me lo c e rd tk g H) (hI : zI n me lo c e) (hB : va_P D vwCl (zBw cI a ea hv fv ov sr mr lr) H) (hEa : va_P D vwCl (zAr cI ea (c p) (zer e p)) H) (hp : p < n) : Met l yX6_heard wsX6_heard ({ frames := 0, cells := 0, slots := 0, locals := 0 } : Room) (zPk D [(cI, .int), (cR, .object zBC)] H [.ref o, .ref a]) (zQ (some (.int (zo (hd lo e p (c p))))) H) 0 0 (fun _ => False) := by
  refine z_kenter (cc := cX6_heard) (maxL := 4) (ret := (some .int)) (by decide) rfl (Nat.le_of_ble_eq_true rfl) ?_
  intro pg ev s m args below meth cd hfix hr hlocks hname hK hHs hKw ls hl
  have hK1 : va_K D vwCl [(cI, .int)] s := hK.sub [0] rfl
  obtain ⟨hx, hb, hml, hown, hts⟩ := id hfix
  have hl : lv_has ls 4 [(0, .ref o), (1, .ref a)] := hl
  have hinX5 : ∀ w ∈ wsX50, w ∈ wsX6_heard := by decide +kernel
  have hinX6 : ∀ w ∈ wsX60, w ∈ wsX6_heard := by decide +kernel
  obtain ⟨hO, hQ, hF, hsp⟩ := id hSm
  obtain ⟨⟨ho1, ho2, ho3⟩, -, -⟩ := id hsp
  have hn := zI_n hI
  have hc4 := zI_c hI p
  refine lv_iconst (v := (-1)) hx hb dX6_heard_0 (by decide) ?_
  refine lv_istore_n (lv' := [(2, .int (-1)), (0, .ref o), (1, .ref a)]) hx hb dX6_heard_1 rfl hl (by decide) rfl (fun ls hl => ?_)
  refine lv_aload_n hx hb dX6_heard_2 rfl (lv_at hl 2 rfl) ?_
  refine va_get (D := D) (ci := 5) (v := .ref ea) (C := RX5) (T := TX5) (N := 7) hx hb hts hinX5 hown hK hB 0 rfl rfl 6 (by decide) (hts _ (List.mem_of_getElem? (i := 1) rfl)) (fun _ h9 => h9) rfl dX6_heard_3 ?_
  refine z_alen (n := (c p)) (f := (zer e p)) hx hb hK hEa 0 0 rfl rfl dX6_heard_6 ?_
  refine lv_iconst (v := 1) hx hb dX6_heard_7 (by decide) ?_
  refine lv_isub hx hb dX6_heard_8 ?_
  refine lv_istore_n (lv' := [(3, .int ((nI (c p)) - 1)), (2, .int (-1)), (0, .ref o), (1, .ref a)]) hx hb dX6_heard_9 rfl hl (by decide) rfl (fun ls hl => ?_)
  have loop10 : ∀ (fu : Nat) (u : Nat) (d : Nat), u < fu → (u + d = c p) → ∀ (x3 : Int32), x3 = (nI u - 1) → ∀ (x2 : Int32), x2 = (zo (rh lo e p u d)) → ∀ ls : Array Slot, lv_has ls 4 [(3, .int x3), (2, .int x2), (0, .ref o), (1, .ref a)] → W pg l ev ({ frames := 0, cells := 0, slots := 0, locals := 0 } : Room) s m args below meth cd H [] 0 0 (MQ below (zQ (some (.int (zo (hd lo e p (c p))))) H) args s 0 0 (fun _ => False)) (F0 m 10 ls []) := by
    intro fu
    induction fu with
    | zero => intro u d hfu; exact absurd hfu (Nat.not_lt_zero _)
    | succ fu ih =>
      intro u d hfu hi10_0 x3 ex3 x2 ex2 ls hl
      subst ex3
      subst ex2
      have hrh : ∀ q, rh lo e p u d = some q → q < n := fun q hq => by obtain ⟨j, h1, h2, h3⟩ := rh_in hq; rw [← h3]; exact zI_e hI (by omega)
      refine lv_iload_n hx hb dX6_heard_10 rfl (lv_at hl 0 rfl) ?_
      refine lv_if_lt (tgt := 57) hx hb dX6_heard_11 (by decide) (fun c11 => ?_) (fun c11 => ?_)
      · have c11 := zpd_lt (by omega) c11
        refine lv_iload_n hx hb dX6_heard_57 rfl (lv_at hl 1 rfl) ?_
        refine z_toi (y := (zo (hd lo e p (c p)))) (by rw [show d = c p by omega, c11, rh_hd]) ?_
        exact z_iret hx hb hr hlocks dX6_heard_58
      · obtain ⟨w, hw⟩ := zpd_ge c11
        have hrw : nI u - 1 = nI w := by rw [hw, nI_pred]
        have he9 := zI_e hI (p := p) (k := w) (by omega)
        have hl : lv_has ls 4 [(3, .int (nI w)), (2, .int (zo (rh lo e p u d))), (0, .ref o), (1, .ref a)] := by rw [hrw] at hl; exact hl
        refine lv_iload_n hx hb dX6_heard_14 rfl (lv_at hl 1 rfl) ?_
        refine lv_if_lt (tgt := 44) hx hb dX6_heard_15 (by decide) (fun c15 => ?_) (fun c15 => ?_)
        · have c15 := (zo_neg (fun q hq => by have := hrh q hq; omega)).mp c15
          rw [hw] at c15
          refine lv_aload_n hx hb dX6_heard_44 rfl (lv_at hl 3 rfl) ?_
          refine va_get (D := D) (ci := 5) (v := .ref ea) (C := RX5) (T := TX5) (N := 7) hx hb hts hinX5 hown hK hB 0 rfl rfl 6 (by decide) (hts _ (List.mem_of_getElem? (i := 1) rfl)) (fun _ h9 => h9) rfl dX6_heard_45 ?_
          refine lv_iload_n hx hb dX6_heard_48 rfl (lv_at hl 0 rfl) ?_
          refine z_iald (a := ea) (n := (c p)) (f := (zer e p)) (j := w) hx hb hK hEa 0 0 rfl rfl rfl (by omega) (by omega) dX6_heard_49 ?_
          refine lv_istore_n (lv' := [(2, .int (nI (e (p * 4 + w)))), (3, .int (nI w)), (0, .ref o), (1, .ref a)]) hx hb dX6_heard_50 rfl hl (by decide) rfl (fun ls hl => ?_)
          refine lv_iinc (v := ((nI w) + (-1))) (lv' := [(3, .int ((nI w) + (-1))), (2, .int (nI (e (p * 4 + w)))), (0, .ref o), (1, .ref a)]) hx hb dX6_heard_51 hl (k := 1) rfl rfl (by decide) rfl (fun ls hl => ?_)
          refine lv_goto (tgt := 10) hx hb dX6_heard_54 (by decide) ?_
          exact ih w (d + 1) (by omega) (by omega) _ ((Int32.sub_eq_add_neg _ _).symm) _ (by rw [rh_n c15]; rfl) _ (lv_sub hl [0, 1, 2, 3] rfl)
        · obtain ⟨b9, hb9⟩ : ∃ b9, rh lo e p u d = some b9 := Option.ne_none_iff_exists'.mp (fun h => c15 ((zo_neg (fun q hq => by have := hrh q hq; omega)).mpr h))
          have hbn := hrh b9 hb9
          have hl : lv_has ls 4 [(3, .int (nI w)), (2, .int (nI b9)), (0, .ref o), (1, .ref a)] := by rw [hb9] at hl; exact hl
          rw [hw] at hb9
          refine lv_aload_n hx hb dX6_heard_18 rfl (lv_at hl 2 rfl) ?_
          refine va_get (D := D) (ci := 6) (v := .ref ar) (C := RX6) (T := TX6) (N := 3) hx hb hts hinX6 hown hK hO 0 rfl rfl 0 (by decide) (hts _ (List.mem_of_getElem? (i := 2) rfl)) (fun _ h9 => h9) rfl dX6_heard_19 ?_
          refine lv_aload_n hx hb dX6_heard_22 rfl (lv_at hl 3 rfl) ?_
          refine va_get (D := D) (ci := 5) (v := .ref ea) (C := RX5) (T := TX5) (N := 7) hx hb hts hinX5 hown hK hB 0 rfl rfl 6 (by decide) (hts _ (List.mem_of_getElem? (i := 1) rfl)) (fun _ h9 => h9) rfl dX6_heard_23 ?_
          refine lv_iload_n hx hb dX6_heard_26 rfl (lv_at hl 0 rfl) ?_
          refine z_iald (a := ea) (n := (c p)) (f := (zer e p)) (j := w) hx hb hK hEa 0 0 rfl rfl rfl (by omega) (by omega) dX6_heard_27 ?_
          refine z_aald (a := ar) (n := n) (f := (zbf n B)) (j := (e (p * 4 + w))) hx hb hK hQ 0 1 rfl rfl rfl rfl (by omega) (by omega) (zbf_in (by omega)) dX6_heard_28 ?_
          obtain ⟨hBdm1, hEam1⟩ := hF (e (p * 4 + w)) (by omega)
          obtain ⟨⟨sb1m1, sb2m1⟩, ⟨se1m1, se2m1⟩, sam1⟩ := hsp.2.1 (e (p * 4 + w)) (by omega)
          refine va_get (D := D) (ci := 5) (v := .int (lo (e (p * 4 + w)))) (C := RX5) (T := TX5) (N := 7) hx hb hts hinX5 hown hK hBdm1 0 rfl rfl 5 (by decide) (hts _ (List.mem_of_getElem? (i := 3) rfl)) (fun _ h9 => h9) rfl dX6_heard_29 ?_
          refine lv_aload_n hx hb dX6_heard_32 rfl (lv_at hl 2 rfl) ?_
          refine va_get (D := D) (ci := 6) (v := .ref ar) (C := RX6) (T := TX6) (N := 3) hx hb hts hinX6 hown hK hO 0 rfl rfl 0 (by decide) (hts _ (List.mem_of_getElem? (i := 2) rfl)) (fun _ h9 => h9) rfl dX6_heard_33 ?_
          refine lv_iload_n hx hb dX6_heard_36 rfl (lv_at hl 1 rfl) ?_
          refine z_aald (a := ar) (n := n) (f := (zbf n B)) (j := b9) hx hb hK hQ 0 1 rfl rfl rfl rfl (by omega) (by omega) (zbf_in (by omega)) dX6_heard_37 ?_
          obtain ⟨hBdm2, hEam2⟩ := hF b9 (by omega)
          obtain ⟨⟨sb1m2, sb2m2⟩, ⟨se1m2, se2m2⟩, sam2⟩ := hsp.2.1 b9 (by omega)
          refine va_get (D := D) (ci := 5) (v := .int (lo b9)) (C := RX5) (T := TX5) (N := 7) hx hb hts hinX5 hown hK hBdm2 0 rfl rfl 5 (by decide) (hts _ (List.mem_of_getElem? (i := 3) rfl)) (fun _ h9 => h9) rfl dX6_heard_38 ?_
          refine lv_icmp_lt (tgt := 51) hx hb dX6_heard_41 (by decide) (fun c41 => ?_) (fun c41 => ?_)
          · refine lv_iinc (v := ((nI w) + (-1))) (lv' := [(3, .int ((nI w) + (-1))), (2, .int (nI b9)), (0, .ref o), (1, .ref a)]) hx hb dX6_heard_51 hl (k := 0) rfl rfl (by decide) rfl (fun ls hl => ?_)
            refine lv_goto (tgt := 10) hx hb dX6_heard_54 (by decide) ?_
            exact ih w (d + 1) (by omega) (by omega) _ ((Int32.sub_eq_add_neg _ _).symm) _ (by rw [rh_lo hb9 c41]; rfl) _ (lv_sub hl [0, 1, 2, 3] rfl)
          · refine lv_aload_n hx hb dX6_heard_44 rfl (lv_at hl 3 rfl) ?_
            refine va_get (D := D) (ci := 5) (v := .ref ea) (C := RX5) (T := TX5) (N := 7) hx hb hts hinX5 hown hK hB 0 rfl rfl 6 (by decide) (hts _ (List.mem_of_getElem? (i := 1) rfl)) (fun _ h9 => h9) rfl dX6_heard_45 ?_
            refine lv_iload_n hx hb dX6_heard_48 rfl (lv_at hl 0 rfl) ?_
            refine z_iald (a := ea) (n := (c p)) (f := (zer e p)) (j := w) hx hb hK hEa 0 0 rfl rfl rfl (by omega) (by omega) dX6_heard_49 ?_
            refine lv_istore_n (lv' := [(2, .int (nI (e (p * 4 + w)))), (3, .int (nI w)), (0, .ref o), (1, .ref a)]) hx hb dX6_heard_50 rfl hl (by decide) rfl (fun ls hl => ?_)
            refine lv_iinc (v := ((nI w) + (-1))) (lv' := [(3, .int ((nI w) + (-1))), (2, .int (nI (e (p * 4 + w)))), (0, .ref o), (1, .ref a)]) hx hb dX6_heard_51 hl (k := 1) rfl rfl (by decide) rfl (fun ls hl => ?_)
            refine lv_goto (tgt := 10) hx hb dX6_heard_54 (by decide) ?_
            exact ih w (d + 1) (by omega) (by omega) _ ((Int32.sub_eq_add_neg _ _).symm) _ (by rw [rh_ge hb9 c41]; rfl) _ (lv_sub hl [0, 1, 2, 3] rfl)
  exact loop10 _ (c p) 0 (Nat.lt_succ_self _) (by omega) _ (rfl) _ (rfl) _ (lv_sub hl [0, 1, 2, 3] rfl)
set_option maxHeartbeats 4000000 in
set_option maxRecDepth 100000 in
/-- Sim.sure -/
theorem zcX6_sure (l : Launch) (D : va_G) (cI : ClassId) (cR : ClassId) (H : Heap) (o : Nat) (t : Nat) (ar : Nat) (n : Nat) (B : Nat → Nat) (E : Nat → Nat) (me : Nat → Int32) (lo : Nat → Int32) (c : Nat → Nat) (e : Nat → Nat) (rd : Int32) (tk : Int32) (g : zG) (hSm : zSm D cI cR o t ar n B E me lo c e rd tk g H) (hI : zI n me lo c e) : Met l yX6_sure wsX6_sure ({ frames := 0, cells := 0, slots := 0, locals := 0 } : Room) (zPk D [(cI, .int), (cR, .object zBC)] H [.ref o]) (zQ (some (.int (su g n))) H) 0 0 (fun _ => False) := by
  refine z_kenter (cc := cX6_sure) (maxL := 6) (ret := (some .int)) (by decide) rfl (Nat.le_of_ble_eq_true rfl) ?_
  intro pg ev s m args below meth cd hfix hr hlocks hname hK hHs hKw ls hl
  have hK1 : va_K D vwCl [(cI, .int)] s := hK.sub [0] rfl
  obtain ⟨hx, hb, hml, hown, hts⟩ := id hfix
  have hl : lv_has ls 6 [(0, .ref o)] := hl
  have hinX5 : ∀ w ∈ wsX50, w ∈ wsX6_sure := by decide +kernel
  have hinX6 : ∀ w ∈ wsX60, w ∈ wsX6_sure := by decide +kernel
  obtain ⟨hO, hQ, hF, hsp⟩ := id hSm
  obtain ⟨⟨ho1, ho2, ho3⟩, -, -⟩ := id hsp
  have hn := zI_n hI
  refine lv_iconst (v := 0) hx hb dX6_sure_0 (by decide) ?_
  refine lv_istore_n (lv' := [(1, .int 0), (0, .ref o)]) hx hb dX6_sure_1 rfl hl (by decide) rfl (fun ls hl => ?_)
  refine lv_aload_n hx hb dX6_sure_2 rfl (lv_at hl 1 rfl) ?_
  refine va_get (D := D) (ci := 6) (v := .ref ar) (C := RX6) (T := TX6) (N := 3) hx hb hts hinX6 hown hK hO 0 rfl rfl 0 (by decide) (hts _ (List.mem_of_getElem? (i := 1) rfl)) (fun _ h9 => h9) rfl dX6_sure_3 ?_
  refine lv_astore_n (lv' := [(2, .ref ar), (1, .int 0), (0, .ref o)]) hx hb dX6_sure_6 rfl hl (by decide) rfl (fun ls hl => ?_)
  refine lv_aload_n hx hb dX6_sure_7 rfl (lv_at hl 0 rfl) ?_
  refine z_qlen (n := n) (f := (zbf n B)) hx hb hK hQ 0 1 rfl rfl dX6_sure_8 ?_
  refine lv_istore_n (lv' := [(3, .int (nI n)), (2, .ref ar), (1, .int 0), (0, .ref o)]) hx hb dX6_sure_9 rfl hl (by decide) rfl (fun ls hl => ?_)
  refine lv_iconst (v := 0) hx hb dX6_sure_10 (by decide) ?_
  refine lv_istore (lv' := [(4, .int 0), (3, .int (nI n)), (2, .ref ar), (1, .int 0), (0, .ref o)]) hx hb dX6_sure_11 hl (by decide) rfl (fun ls hl => ?_)
  have loop13 : ∀ (fu : Nat) (k : Nat), n - k < fu → (k ≤ n) → ∀ (x4 : Int32), x4 = (nI k) → ∀ (x1 : Int32), x1 = (su g k) → ∀ ls : Array Slot, lv_has ls 6 [(4, .int x4), (3, .int (nI n)), (2, .ref ar), (1, .int x1), (0, .ref o)] → W pg l ev ({ frames := 0, cells := 0, slots := 0, locals := 0 } : Room) s m args below meth cd H [] 0 0 (MQ below (zQ (some (.int (su g n))) H) args s 0 0 (fun _ => False)) (F0 m 13 ls []) := by
    intro fu
    induction fu with
    | zero => intro k hfu; exact absurd hfu (Nat.not_lt_zero _)
    | succ fu ih =>
      intro k hfu hi13_0 x4 ex4 x1 ex1 ls hl
      subst ex4
      subst ex1
      refine lv_iload hx hb dX6_sure_13 (lv_at hl 0 rfl) ?_
      refine lv_iload_n hx hb dX6_sure_15 rfl (lv_at hl 1 rfl) ?_
      refine lv_icmp_ge (tgt := 39) hx hb dX6_sure_16 (by decide) (fun c16 => ?_) (fun c16 => ?_)
      · have c16 := z_le (a := n) (b := k) c16 (by omega) (by omega)
        refine lv_iload_n hx hb dX6_sure_39 rfl (lv_at hl 3 rfl) ?_
        refine z_toi (y := (su g n)) (by rw [show n = k by omega]) ?_
        exact z_iret hx hb hr hlocks dX6_sure_40
      · have c16 := z_nle (a := n) (b := k) c16 (by omega) (by omega)
        refine lv_aload_n hx hb dX6_sure_19 rfl (lv_at hl 2 rfl) ?_
        refine lv_iload hx hb dX6_sure_20 (lv_at hl 0 rfl) ?_
        refine z_aald (a := ar) (n := n) (f := (zbf n B)) (j := k) hx hb hK hQ 0 1 rfl rfl rfl rfl (by omega) (by omega) (zbf_in (by omega)) dX6_sure_22 ?_
        obtain ⟨hBdm1, hEam1⟩ := hF k (by omega)
        obtain ⟨⟨sb1m1, sb2m1⟩, ⟨se1m1, se2m1⟩, sam1⟩ := hsp.2.1 k (by omega)
        refine lv_astore (lv' := [(5, .ref (B k)), (4, .int (nI k)), (3, .int (nI n)), (2, .ref ar), (1, .int (su g k)), (0, .ref o)]) hx hb dX6_sure_23 hl (by decide) rfl (fun ls hl => ?_)
        refine lv_iload_n hx hb dX6_sure_25 rfl (lv_at hl 4 rfl) ?_
        refine lv_aload hx hb dX6_sure_26 (lv_at hl 0 rfl) ?_
        refine va_get (D := D) (ci := 5) (v := .int (g 6 k)) (C := RX5) (T := TX5) (N := 7) hx hb hts hinX5 hown hK hBdm1 0 rfl rfl 3 (by decide) (hts _ (List.mem_of_getElem? (i := 2) rfl)) (fun _ h9 => h9) rfl dX6_sure_28 ?_
        refine lv_iadd hx hb dX6_sure_31 ?_
        refine lv_istore_n (lv' := [(1, .int ((su g k) + (g 6 k))), (5, .ref (B k)), (4, .int (nI k)), (3, .int (nI n)), (2, .ref ar), (0, .ref o)]) hx hb dX6_sure_32 rfl hl (by decide) rfl (fun ls hl => ?_)
        refine lv_iinc (v := (nI (k + 1))) (lv' := [(4, .int (nI (k + 1))), (1, .int ((su g k) + (g 6 k))), (5, .ref (B k)), (3, .int (nI n)), (2, .ref ar), (0, .ref o)]) hx hb dX6_sure_33 hl (k := 2) rfl (nI_1 _) (by decide) rfl (fun ls hl => ?_)
        refine lv_goto (tgt := 13) hx hb dX6_sure_36 (by decide) ?_
        exact ih (k + 1) (by omega) (by omega) _ (rfl) _ (rfl) _ (lv_sub hl [0, 3, 4, 1, 5] rfl)
  exact loop13 _ 0 (Nat.lt_succ_self _) (by omega) _ (rfl) _ (rfl) _ (lv_sub hl [0, 1, 2, 3, 4] rfl)
set_option maxHeartbeats 4000000 in
set_option maxRecDepth 100000 in
/-- Sim.words -/
theorem zcX6_words (l : Launch) (D : va_G) (cI : ClassId) (cR : ClassId) (H : Heap) (o : Nat) (t : Nat) (ar : Nat) (n : Nat) (B : Nat → Nat) (E : Nat → Nat) (me : Nat → Int32) (lo : Nat → Int32) (c : Nat → Nat) (e : Nat → Nat) (rd : Int32) (tk : Int32) (g : zG) (hSm : zSm D cI cR o t ar n B E me lo c e rd tk g H) (hI : zI n me lo c e) : Met l yX6_words wsX6_words ({ frames := 1, cells := 0, slots := 0, locals := 20 } : Room) (zPk D [(cI, .int), (cR, .object zBC)] H [.ref o]) (zQ (some (.int (nI (dw g n)))) H) 0 0 (fun _ => False) := by
  refine z_kenter (cc := cX6_words) (maxL := 5) (ret := (some .int)) (by decide) rfl (Nat.le_of_ble_eq_true rfl) ?_
  intro pg ev s m args below meth cd hfix hr hlocks hname hK hHs hKw ls hl
  have hK1 : va_K D vwCl [(cI, .int)] s := hK.sub [0] rfl
  obtain ⟨hx, hb, hml, hown, hts⟩ := id hfix
  have hl : lv_has ls 5 [(0, .ref o)] := hl
  have hinX6 : ∀ w ∈ wsX60, w ∈ wsX6_words := by decide +kernel
  obtain ⟨hO, hQ, hF, hsp⟩ := id hSm
  obtain ⟨⟨ho1, ho2, ho3⟩, -, -⟩ := id hsp
  have hn := zI_n hI
  refine lv_iconst (v := 0) hx hb dX6_words_0 (by decide) ?_
  refine lv_istore_n (lv' := [(1, .int 0), (0, .ref o)]) hx hb dX6_words_1 rfl hl (by decide) rfl (fun ls hl => ?_)
  refine lv_iconst (v := 0) hx hb dX6_words_2 (by decide) ?_
  refine lv_istore_n (lv' := [(2, .int 0), (1, .int 0), (0, .ref o)]) hx hb dX6_words_3 rfl hl (by decide) rfl (fun ls hl => ?_)
  have loop4 : ∀ (fu : Nat) (k : Nat), n - k < fu → (k ≤ n) → ∀ (x2 : Int32), x2 = (nI k) → ∀ (x1 : Int32), x1 = (nI (lw g n k)) → ∀ ls : Array Slot, lv_has ls 5 [(2, .int x2), (1, .int x1), (0, .ref o)] → W pg l ev ({ frames := 1, cells := 0, slots := 0, locals := 20 } : Room) s m args below meth cd H [] 0 0 (MQ below (zQ (some (.int (nI (dw g n)))) H) args s 0 0 (fun _ => False)) (F0 m 4 ls []) := by
    intro fu
    induction fu with
    | zero => intro k hfu; exact absurd hfu (Nat.not_lt_zero _)
    | succ fu ih =>
      intro k hfu hi4_0 x2 ex2 x1 ex1 ls hl
      subst ex2
      subst ex1
      refine lv_iload_n hx hb dX6_words_4 rfl (lv_at hl 0 rfl) ?_
      refine lv_aload_n hx hb dX6_words_5 rfl (lv_at hl 2 rfl) ?_
      refine va_get (D := D) (ci := 6) (v := .ref ar) (C := RX6) (T := TX6) (N := 3) hx hb hts hinX6 hown hK hO 0 rfl rfl 0 (by decide) (hts _ (List.mem_of_getElem? (i := 1) rfl)) (fun _ h9 => h9) rfl dX6_words_6 ?_
      refine z_qlen (n := n) (f := (zbf n B)) hx hb hK hQ 0 1 rfl rfl dX6_words_9 ?_
      refine lv_icmp_ge (tgt := 86) hx hb dX6_words_10 (by decide) (fun c10 => ?_) (fun c10 => ?_)
      · have c10 := z_le (a := n) (b := k) c10 (by omega) (by omega)
        refine lv_iload_n hx hb dX6_words_86 rfl (lv_at hl 1 rfl) ?_
        refine z_toi (y := (nI (dw g n))) (by rw [show k = n by omega, lw_dw]) ?_
        exact z_iret hx hb hr hlocks dX6_words_87
      · have c10 := z_nle (a := n) (b := k) c10 (by omega) (by omega)
        refine lv_iconst (v := 1) hx hb dX6_words_13 (by decide) ?_
        refine lv_istore_n (lv' := [(3, .int 1), (2, .int (nI k)), (1, .int (nI (lw g n k))), (0, .ref o)]) hx hb dX6_words_14 rfl hl (by decide) rfl (fun ls hl => ?_)
        refine lv_iload_n hx hb dX6_words_15 rfl (lv_at hl 1 rfl) ?_
        refine lv_iconst (v := 1) hx hb dX6_words_16 (by decide) ?_
        refine lv_iadd hx hb dX6_words_17 ?_
        refine z_toi (y := nI (k + 1)) (nI_add k 1) ?_
        refine lv_istore (lv' := [(4, .int (nI (k + 1))), (3, .int 1), (2, .int (nI k)), (1, .int (nI (lw g n k))), (0, .ref o)]) hx hb dX6_words_18 hl (by decide) rfl (fun ls hl => ?_)
        have loop20 : ∀ (fu : Nat) (d : Nat), n - d < fu → (k + 1 + d ≤ n) → ∀ (x4 : Int32), x4 = (nI (k + 1 + d)) → ∀ (x3 : Int32), x3 = (zb (nl g k d = true)) → ∀ ls : Array Slot, lv_has ls 5 [(4, .int x4), (3, .int x3), (2, .int (nI k)), (1, .int (nI (lw g n k))), (0, .ref o)] → W pg l ev ({ frames := 1, cells := 0, slots := 0, locals := 20 } : Room) s m args below meth cd H [] 0 0 (MQ below (zQ (some (.int (nI (dw g n)))) H) args s 0 0 (fun _ => False)) (F0 m 20 ls []) := by
          intro fu
          induction fu with
          | zero => intro d hfu; exact absurd hfu (Nat.not_lt_zero _)
          | succ fu ih20 =>
            intro d hfu hi20_0 x4 ex4 x3 ex3 ls hl
            subst ex4
            subst ex3
            refine lv_iload hx hb dX6_words_20 (lv_at hl 0 rfl) ?_
            refine lv_aload_n hx hb dX6_words_22 rfl (lv_at hl 4 rfl) ?_
            refine va_get (D := D) (ci := 6) (v := .ref ar) (C := RX6) (T := TX6) (N := 3) hx hb hts hinX6 hown hK hO 0 rfl rfl 0 (by decide) (hts _ (List.mem_of_getElem? (i := 1) rfl)) (fun _ h9 => h9) rfl dX6_words_23 ?_
            refine z_qlen (n := n) (f := (zbf n B)) hx hb hK hQ 0 1 rfl rfl dX6_words_26 ?_
            refine lv_icmp_ge (tgt := 68) hx hb dX6_words_27 (by decide) (fun c27 => ?_) (fun c27 => ?_)
            · have c27 := z_le (a := n) (b := k + 1 + d) c27 (by omega) (by omega)
              refine lv_iload_n hx hb dX6_words_68 rfl (lv_at hl 3 rfl) ?_
              refine lv_iload_n hx hb dX6_words_69 rfl (lv_at hl 1 rfl) ?_
              refine lv_if_eq (tgt := 77) hx hb dX6_words_70 (by decide) (fun c70 => ?_) (fun c70 => ?_)
              · have c70 := zb_0 c70
                refine lv_iconst (v := 0) hx hb dX6_words_77 (by decide) ?_
                refine lv_iadd hx hb dX6_words_78 ?_
                refine z_toi (y := nI (lw g n k + 0)) (nI_add (lw g n k) 0) ?_
                refine lv_istore_n (lv' := [(1, .int (nI (lw g n k + 0))), (4, .int (nI (k + 1 + d))), (3, .int (zb (nl g k d = true))), (2, .int (nI k)), (0, .ref o)]) hx hb dX6_words_79 rfl hl (by decide) rfl (fun ls hl => ?_)
                refine lv_iinc (v := (nI (k + 1))) (lv' := [(2, .int (nI (k + 1))), (1, .int (nI (lw g n k + 0))), (4, .int (nI (k + 1 + d))), (3, .int (zb (nl g k d = true))), (0, .ref o)]) hx hb dX6_words_80 hl (k := 3) rfl (nI_1 _) (by decide) rfl (fun ls hl => ?_)
                refine lv_goto (tgt := 4) hx hb dX6_words_83 (by decide) ?_
                exact ih (k + 1) (by omega) (by omega) _ (rfl) _ (by rw [lw_n (show d = n - 1 - k by omega) c70]; try rfl) _ (lv_sub hl [0, 1, 4] rfl)
              · have c70 := zb_1 c70
                refine lv_iconst (v := 1) hx hb dX6_words_73 (by decide) ?_
                refine lv_goto (tgt := 78) hx hb dX6_words_74 (by decide) ?_
                refine lv_iadd hx hb dX6_words_78 ?_
                refine z_toi (y := nI (lw g n k + 1)) (nI_add (lw g n k) 1) ?_
                refine lv_istore_n (lv' := [(1, .int (nI (lw g n k + 1))), (4, .int (nI (k + 1 + d))), (3, .int (zb (nl g k d = true))), (2, .int (nI k)), (0, .ref o)]) hx hb dX6_words_79 rfl hl (by decide) rfl (fun ls hl => ?_)
                refine lv_iinc (v := (nI (k + 1))) (lv' := [(2, .int (nI (k + 1))), (1, .int (nI (lw g n k + 1))), (4, .int (nI (k + 1 + d))), (3, .int (zb (nl g k d = true))), (0, .ref o)]) hx hb dX6_words_80 hl (k := 3) rfl (nI_1 _) (by decide) rfl (fun ls hl => ?_)
                refine lv_goto (tgt := 4) hx hb dX6_words_83 (by decide) ?_
                exact ih (k + 1) (by omega) (by omega) _ (rfl) _ (by rw [lw_y (show d = n - 1 - k by omega) c70]; try rfl) _ (lv_sub hl [0, 1, 4] rfl)
            · have c27 := z_nle (a := n) (b := k + 1 + d) c27 (by omega) (by omega)
              refine lv_iload_n hx hb dX6_words_30 rfl (lv_at hl 1 rfl) ?_
              refine lv_if_eq (tgt := 60) hx hb dX6_words_31 (by decide) (fun c31 => ?_) (fun c31 => ?_)
              · have c31 := zb_0 c31
                refine lv_iconst (v := 0) hx hb dX6_words_60 (by decide) ?_
                refine lv_istore_n (lv' := [(3, .int 0), (4, .int (nI (k + 1 + d))), (2, .int (nI k)), (1, .int (nI (lw g n k))), (0, .ref o)]) hx hb dX6_words_61 rfl hl (by decide) rfl (fun ls hl => ?_)
                refine lv_iinc (v := (nI (k + 1 + d + 1))) (lv' := [(4, .int (nI (k + 1 + d + 1))), (3, .int 0), (2, .int (nI k)), (1, .int (nI (lw g n k))), (0, .ref o)]) hx hb dX6_words_62 hl (k := 1) rfl (nI_1 _) (by decide) rfl (fun ls hl => ?_)
                refine lv_goto (tgt := 20) hx hb dX6_words_65 (by decide) ?_
                exact ih20 (d + 1) (by omega) (by omega) _ (rfl) _ (zb_f (nl_f c31)) _ (lv_sub hl [0, 1, 2, 3, 4] rfl)
              · have c31 := zb_1 c31
                refine lv_aload_n hx hb dX6_words_34 rfl (lv_at hl 4 rfl) ?_
                refine va_get (D := D) (ci := 6) (v := .ref ar) (C := RX6) (T := TX6) (N := 3) hx hb hts hinX6 hown hK hO 0 rfl rfl 0 (by decide) (hts _ (List.mem_of_getElem? (i := 1) rfl)) (fun _ h9 => h9) rfl dX6_words_35 ?_
                refine lv_iload hx hb dX6_words_38 (lv_at hl 0 rfl) ?_
                refine z_aald (a := ar) (n := n) (f := (zbf n B)) (j := (k + 1 + d)) hx hb hK hQ 0 1 rfl rfl rfl rfl (by omega) (by omega) (zbf_in (by omega)) dX6_words_40 ?_
                obtain ⟨hBdm1, hEam1⟩ := hF (k + 1 + d) (by omega)
                obtain ⟨⟨sb1m1, sb2m1⟩, ⟨se1m1, se2m1⟩, sam1⟩ := hsp.2.1 (k + 1 + d) (by omega)
                refine z_ki (va_runV (As := []) (rest := []) hfix (zcX5_word l D cI H (B (k + 1 + d)) (E (k + 1 + d)) (zcb g 0 (k + 1 + d)) (zcb g 2 (k + 1 + d)) (zcb g 4 (k + 1 + d)) (g 6 (k + 1 + d)) (me (k + 1 + d)) (lo (k + 1 + d)) hBdm1) (cwV 0 hts gX6_words_X5_word rfl rfl rfl (by decide +kernel) ⟨Nat.le_of_ble_eq_true rfl, Nat.le_of_ble_eq_true rfl⟩) (z_preV hK hK1 hBdm1 (ci := 5) (q0 := 0) rfl rfl rfl) rfl rfl hl.1 rfl (lv_room (Nat.le_of_ble_eq_true rfl)) dX6_words_41 ⟨by omega, by omega⟩) ?_
                refine z_toi (y := wd g (k + 1 + d)) (zb_wd g (k + 1 + d)) ?_
                refine lv_aload_n hx hb dX6_words_44 rfl (lv_at hl 4 rfl) ?_
                refine va_get (D := D) (ci := 6) (v := .ref ar) (C := RX6) (T := TX6) (N := 3) hx hb hts hinX6 hown hK hO 0 rfl rfl 0 (by decide) (hts _ (List.mem_of_getElem? (i := 1) rfl)) (fun _ h9 => h9) rfl dX6_words_45 ?_
                refine lv_iload_n hx hb dX6_words_48 rfl (lv_at hl 2 rfl) ?_
                refine z_aald (a := ar) (n := n) (f := (zbf n B)) (j := k) hx hb hK hQ 0 1 rfl rfl rfl rfl (by omega) (by omega) (zbf_in (by omega)) dX6_words_49 ?_
                obtain ⟨hBdm2, hEam2⟩ := hF k (by omega)
                obtain ⟨⟨sb1m2, sb2m2⟩, ⟨se1m2, se2m2⟩, sam2⟩ := hsp.2.1 k (by omega)
                refine z_ki (va_runV (As := []) (rest := [.int (wd g (k + 1 + d))]) hfix (zcX5_word l D cI H (B k) (E k) (zcb g 0 k) (zcb g 2 k) (zcb g 4 k) (g 6 k) (me k) (lo k) hBdm2) (cwV 0 hts gX6_words_X5_word rfl rfl rfl (by decide +kernel) ⟨Nat.le_of_ble_eq_true rfl, Nat.le_of_ble_eq_true rfl⟩) (z_preV hK hK1 hBdm2 (ci := 5) (q0 := 0) rfl rfl rfl) rfl rfl hl.1 rfl (lv_room (Nat.le_of_ble_eq_true rfl)) dX6_words_50 ⟨by omega, by omega⟩) ?_
                refine z_toi (y := wd g k) (zb_wd g k) ?_
                refine lv_icmp_eq (tgt := 60) hx hb dX6_words_53 (by decide) (fun c53 => ?_) (fun c53 => ?_)
                · refine lv_iconst (v := 0) hx hb dX6_words_60 (by decide) ?_
                  refine lv_istore_n (lv' := [(3, .int 0), (4, .int (nI (k + 1 + d))), (2, .int (nI k)), (1, .int (nI (lw g n k))), (0, .ref o)]) hx hb dX6_words_61 rfl hl (by decide) rfl (fun ls hl => ?_)
                  refine lv_iinc (v := (nI (k + 1 + d + 1))) (lv' := [(4, .int (nI (k + 1 + d + 1))), (3, .int 0), (2, .int (nI k)), (1, .int (nI (lw g n k))), (0, .ref o)]) hx hb dX6_words_62 hl (k := 1) rfl (nI_1 _) (by decide) rfl (fun ls hl => ?_)
                  refine lv_goto (tgt := 20) hx hb dX6_words_65 (by decide) ?_
                  exact ih20 (d + 1) (by omega) (by omega) _ (rfl) _ (zb_f (nl_e c53)) _ (lv_sub hl [0, 1, 2, 3, 4] rfl)
                · refine lv_iconst (v := 1) hx hb dX6_words_56 (by decide) ?_
                  refine lv_goto (tgt := 61) hx hb dX6_words_57 (by decide) ?_
                  refine lv_istore_n (lv' := [(3, .int 1), (4, .int (nI (k + 1 + d))), (2, .int (nI k)), (1, .int (nI (lw g n k))), (0, .ref o)]) hx hb dX6_words_61 rfl hl (by decide) rfl (fun ls hl => ?_)
                  refine lv_iinc (v := (nI (k + 1 + d + 1))) (lv' := [(4, .int (nI (k + 1 + d + 1))), (3, .int 1), (2, .int (nI k)), (1, .int (nI (lw g n k))), (0, .ref o)]) hx hb dX6_words_62 hl (k := 1) rfl (nI_1 _) (by decide) rfl (fun ls hl => ?_)
                  refine lv_goto (tgt := 20) hx hb dX6_words_65 (by decide) ?_
                  exact ih20 (d + 1) (by omega) (by omega) _ (rfl) _ (zb_t (nl_t c31 c53)) _ (lv_sub hl [0, 1, 2, 3, 4] rfl)
        exact loop20 _ 0 (Nat.lt_succ_self _) (by omega) _ (rfl) _ (zb_t rfl) _ (lv_sub hl [0, 1, 2, 3, 4] rfl)
  exact loop4 _ 0 (Nat.lt_succ_self _) (by omega) _ (rfl) _ (rfl) _ (lv_sub hl [0, 1, 2] rfl)
set_option maxHeartbeats 4000000 in
set_option maxRecDepth 100000 in
/-- Sim.come -/
theorem zcX6_come (l : Launch) (D : va_G) (cI : ClassId) (cR : ClassId) (H : Heap) (o : Nat) (t : Nat) (ar : Nat) (n : Nat) (B : Nat → Nat) (E : Nat → Nat) (me : Nat → Int32) (lo : Nat → Int32) (c : Nat → Nat) (e : Nat → Nat) (rd : Int32) (tk : Int32) (g : zG) (m9 : Nat) (x : Nat) (hSm : zSm D cI cR o t ar n B E me lo c e rd tk g H) (hI : zI n me lo c e) (hsz : H.size = t) (hn12 : n < 12) : Met l yX6_come wsX6_come ({ frames := 2, cells := 6, slots := 26, locals := 32 } : Room) (zPk D [(cI, .int), (cR, .object zBC)] H [.ref o, .int (nI m9), .int (nI x)]) (zM (fun H1 => zSm D cI cR o (t + 6) t (n + 1) (zx B n (t + 1)) (zx E n (t + 5)) (upd me n (nI m9)) (upd lo n (nI x)) c e rd tk (wh g n 0 0) H1 ∧ H1.size = t + 6) none (fun q => o ≤ q)) 6 26 (fun q => o ≤ q) := by
  refine z_kenter (cc := cX6_come) (maxL := 5) (ret := none) (by decide) rfl (Nat.le_of_ble_eq_true rfl) ?_
  intro pg ev s m args below meth cd hfix hr hlocks hname hK hHs hKw ls hl
  have hK1 : va_K D vwCl [(cI, .int)] s := hK.sub [0] rfl
  obtain ⟨hx, hb, hml, hown, hts⟩ := id hfix
  have hl : lv_has ls 5 [(0, .ref o), (1, .int (nI m9)), (2, .int (nI x))] := hl
  have hS : va_S (fun q => o ≤ q) s.heap H [] := by rw [hHs]; exact va_S.rf
  have hz : H.size ≤ H.size := Nat.le_refl _
  have hinX5 : ∀ w ∈ wsX50, w ∈ wsX6_come := by decide +kernel
  have hinX6 : ∀ w ∈ wsX60, w ∈ wsX6_come := by decide +kernel
  obtain ⟨hO, hQ, hF, hsp⟩ := id hSm
  obtain ⟨⟨ho1, ho2, ho3⟩, -, -⟩ := id hsp
  have hn := zI_n hI
  refine lv_aload_n hx hb dX6_come_0 rfl (lv_at hl 0 rfl) ?_
  refine va_get (D := D) (ci := 6) (v := .ref ar) (C := RX6) (T := TX6) (N := 3) hx hb hts hinX6 hown hK hO 0 rfl rfl 0 (by decide) (hts _ (List.mem_of_getElem? (i := 1) rfl)) (fun _ h9 => h9) rfl dX6_come_1 ?_
  refine z_qlen (n := n) (f := (zbf n B)) hx hb hK hQ 0 1 rfl rfl dX6_come_4 ?_
  refine lv_iconst (v := 1) hx hb dX6_come_5 (by decide) ?_
  refine lv_iadd hx hb dX6_come_6 ?_
  refine z_toi (y := nI (n + 1)) (nI_add n 1) ?_
  refine z_newq (N := (n + 1)) (C := RX5) hx hb hown (hts _ (List.mem_of_getElem? (i := 2) rfl)) hKw.1 hK 1 rfl rfl (by omega) (by show _ ≤ 6; omega) (by show _ ≤ 26; omega) dX6_come_7 (h := t + 0) hsz (fun H1 hQn2 hz1 hk1 => ?_)
  have hS := z_Sgrow hS (by omega) (fun q h => hk1 q (by omega))
  have hsz : H1.size = t + 1 := by omega
  have hz : H.size ≤ H1.size := by omega
  have hO3 := zOb_kept hO (fun q h1 h2 h3 => (fun q (h9 : q < H.size) (_ : True) => hk1 q (by omega)) q h1 (trivial))
  have hQ4 := zQr_kept hQ (fun q h1 h2 h3 => (fun q (h9 : q < H.size) (_ : True) => hk1 q (by omega)) q h1 (trivial))
  have hF5 := zFm_kept hsp hF (fun q h1 h2 h3 => (fun q (h9 : q < H.size) (_ : True) => hk1 q (by omega)) q h1 (trivial))
  refine lv_astore_n (lv' := [(3, .ref t), (0, .ref o), (1, .int (nI m9)), (2, .int (nI x))]) hx hb dX6_come_10 rfl hl (by decide) rfl (fun ls hl => ?_)
  refine lv_iconst (v := 0) hx hb dX6_come_11 (by decide) ?_
  refine lv_istore (lv' := [(4, .int 0), (3, .ref t), (0, .ref o), (1, .int (nI m9)), (2, .int (nI x))]) hx hb dX6_come_12 hl (by decide) rfl (fun ls hl => ?_)
  have loop14 : ∀ (fu : Nat) (k : Nat), n - k < fu → (k ≤ n) → ∀ (x4 : Int32), x4 = (nI k) → ∀ (H6 : Heap) (lo7 : List Loc), va_P D vwCl [(o, .inr (6, [.ref ar, .int rd, .int tk]))] H6 → va_P D vwCl (zQr cR ar n (zbf n B)) H6 → zFm D cI n B E me lo c e g H6 → va_P D vwCl (zQr cR t (n + 1) (zbf k B)) H6 → (H6.size = t + 1) → H.size ≤ H6.size → va_S (fun q => o ≤ q) s.heap H6 lo7 → ∀ ls : Array Slot, lv_has ls 5 [(4, .int x4), (3, .ref t), (0, .ref o), (1, .int (nI m9)), (2, .int (nI x))] → W pg l ev ({ frames := 2, cells := 6, slots := 26, locals := 32 } : Room) s m args below meth cd H6 lo7 (0 + 1) (0 + (n + 1)) (MQ below (zM (fun H1 => zSm D cI cR o (t + 6) t (n + 1) (zx B n (t + 1)) (zx E n (t + 5)) (upd me n (nI m9)) (upd lo n (nI x)) c e rd tk (wh g n 0 0) H1 ∧ H1.size = t + 6) none (fun q => o ≤ q)) args s 6 26 (fun q => o ≤ q)) (F0 m 14 ls []) := by
    intro fu
    induction fu with
    | zero => intro k hfu; exact absurd hfu (Nat.not_lt_zero _)
    | succ fu ih =>
      intro k hfu hi14_0 x4 ex4 H6 lo7 hO8 hQ9 hF10 hQn11 hh14_0 hz hS ls hl
      subst ex4
      have hsz := hh14_0
      refine lv_iload hx hb dX6_come_14 (lv_at hl 0 rfl) ?_
      refine lv_aload_n hx hb dX6_come_16 rfl (lv_at hl 2 rfl) ?_
      refine va_get (D := D) (ci := 6) (v := .ref ar) (C := RX6) (T := TX6) (N := 3) hx hb hts hinX6 hown hK hO8 0 rfl rfl 0 (by decide) (hts _ (List.mem_of_getElem? (i := 1) rfl)) (fun _ h9 => h9) rfl dX6_come_17 ?_
      refine z_qlen (n := n) (f := (zbf n B)) hx hb hK hQ9 0 1 rfl rfl dX6_come_20 ?_
      refine lv_icmp_ge (tgt := 41) hx hb dX6_come_21 (by decide) (fun c21 => ?_) (fun c21 => ?_)
      · have c21 := z_le (a := n) (b := k) c21 (by omega) (by omega)
        refine lv_aload_n hx hb dX6_come_41 rfl (lv_at hl 1 rfl) ?_
        refine lv_aload_n hx hb dX6_come_42 rfl (lv_at hl 2 rfl) ?_
        refine va_get (D := D) (ci := 6) (v := .ref ar) (C := RX6) (T := TX6) (N := 3) hx hb hts hinX6 hown hK hO8 0 rfl rfl 0 (by decide) (hts _ (List.mem_of_getElem? (i := 1) rfl)) (fun _ h9 => h9) rfl dX6_come_43 ?_
        refine z_qlen (n := n) (f := (zbf n B)) hx hb hK hQ9 0 1 rfl rfl dX6_come_46 ?_
        refine z_new (ci := 5) (C := RX5) (T := TX5) (N := 7) (fs := [.null, .null, .null, .int 0, .int 0, .int 0, .null]) hx hb hts hinX5 tyX5 tyX5_ok hown (hts _ (List.mem_of_getElem? (i := 2) rfl)) (hts _ (List.mem_of_getElem? (i := 3) rfl)) (hts _ (List.mem_of_getElem? (i := 4) rfl)) hK rfl (fun j hj => match j, hj with | 0, _ => rfl | 1, _ => rfl | 2, _ => rfl | 3, _ => rfl | 4, _ => rfl | 5, _ => rfl | 6, _ => rfl | _ + 7, h => absurd h (by omega)) (Nat.le_of_ble_eq_true rfl) (by show 0 + (n + 1) + 7 ≤ 26; omega) dX6_come_47 (h := t + 1) hsz (fun H12 hOb13 hz1 hk1 => ?_)
        have hS := z_Sgrow hS (by omega) (fun q h => hk1 q (by omega))
        have hsz : H12.size = t + 2 := by omega
        have hz : H.size ≤ H12.size := by omega
        have hO14 := zOb_kept hO8 (fun q h1 h2 h3 => (fun q (h9 : q < H6.size) (_ : True) => hk1 q (by omega)) q h1 (trivial))
        have hQ15 := zQr_kept hQ9 (fun q h1 h2 h3 => (fun q (h9 : q < H6.size) (_ : True) => hk1 q (by omega)) q h1 (trivial))
        have hF16 := zFm_kept hsp hF10 (fun q h1 h2 h3 => (fun q (h9 : q < H6.size) (_ : True) => hk1 q (by omega)) q h1 (trivial))
        have hQn17 := zQr_kept hQn11 (fun q h1 h2 h3 => (fun q (h9 : q < H6.size) (_ : True) => hk1 q (by omega)) q h1 (trivial))
        refine lv_dup hx hb dX6_come_50 rfl ?_
        refine z_mv (va_runIN (As := []) (rest := [.ref (t + 1), .int (nI n), .ref t]) hfix (zcX5_init l D cI H12 (t + 1) hOb13 (by omega)) ⟨va_cnB 0 hts gX6_come_X5_init_n24 rfl rfl rfl hKw.2.1 (hts _ (List.mem_of_getElem? (i := 4) rfl)) (by decide +kernel) ⟨Nat.le_of_ble_eq_true rfl, Nat.le_of_ble_eq_true rfl⟩, rfl, (hts _ (List.mem_of_getElem? (i := 7) rfl))⟩ (z_preS hK1) rfl rfl hl.1 rfl (lv_room (Nat.le_of_ble_eq_true rfl)) dX6_come_51 ⟨Nat.le_of_ble_eq_true rfl, by show 0 + (n + 1) + 7 + 6 ≤ 26; omega⟩) hS (fun q _ h => by have h8 : (t + 1) ≤ q := h; show o ≤ q; omega) (fun q h => by have h8 : (t + 1) ≤ q := h; show o ≤ q; omega) (fun H18 lo19 hB hz1 hk1 hS => ?_)
        have hsz : H18.size = t + 6 := by have h9 := hB.2.2; omega
        have hz : H.size ≤ H18.size := by omega
        have hO20 := zOb_kept hO14 (fun q h1 h2 h3 => hk1 q h1 (fun h8 => by have h7 : (t + 1) ≤ q := h8; omega))
        have hQ21 := zQr_kept hQ15 (fun q h1 h2 h3 => hk1 q h1 (fun h8 => by have h7 : (t + 1) ≤ q := h8; omega))
        have hF22 := zFm_kept hsp hF16 (fun q h1 h2 h3 => hk1 q h1 (fun h8 => by have h7 : (t + 1) ≤ q := h8; omega))
        have hQn23 := zQr_kept hQn17 (fun q h1 h2 h3 => hk1 q h1 (fun h8 => by have h7 : (t + 1) ≤ q := h8; omega))
        have hW24 : va_P D vwCl (zBw cI (t + 1) (t + 5) (fun _ => 0) (fun _ => -1) (fun _ => 0) 0 0 0) H18 := hB.1
        have hEn25 : va_P D vwCl (zAr cI (t + 5) 0 (fun _ => 0)) H18 := hB.2.1
        refine z_aast (n := (n + 1)) (f := (zbf k B)) (j := n) (r := (RX5, TX5, 7)) hx hb hK hQn23 hW24 (by show o ≤ _; omega) hS 0 0 1 5 rfl rfl rfl rfl rfl (by omega) (by omega) dX6_come_54 (fun H26 lo27 hP1 hz1 hk1 hS => ?_)
        have hsz : H26.size = t + 6 := by omega
        have hz : H.size ≤ H26.size := by omega
        have hO28 := zOb_kept hO20 (fun q h1 h2 h3 => (fun q _ h => hk1 q h) q h1 (by omega))
        have hQ29 := zQr_kept hQ21 (fun q h1 h2 h3 => (fun q _ h => hk1 q h) q h1 (by omega))
        have hF30 := zFm_kept hsp hF22 (fun q h1 h2 h3 => (fun q _ h => hk1 q h) q h1 (by omega))
        have hQ31 : va_P D vwCl (zQr cR t (n + 1) (va_up (zbf k B) n (some (t + 1)))) H26 := hP1
        have hW32 := zBw_kept hW24 (fun q h1 h2 h3 => (fun q _ h => hk1 q h) q h1 (by omega))
        have hEn33 := zAr_kept hEn25 (fun q h1 h2 h3 => (fun q _ h => hk1 q h) q h1 (by omega))
        refine lv_aload_n hx hb dX6_come_55 rfl (lv_at hl 1 rfl) ?_
        refine lv_aload_n hx hb dX6_come_56 rfl (lv_at hl 2 rfl) ?_
        refine va_get (D := D) (ci := 6) (v := .ref ar) (C := RX6) (T := TX6) (N := 3) hx hb hts hinX6 hown hK hO28 0 rfl rfl 0 (by decide) (hts _ (List.mem_of_getElem? (i := 1) rfl)) (fun _ h9 => h9) rfl dX6_come_57 ?_
        refine z_qlen (n := n) (f := (zbf n B)) hx hb hK hQ29 0 1 rfl rfl dX6_come_60 ?_
        refine z_aald (a := t) (n := (n + 1)) (f := (va_up (zbf k B) n (some (t + 1)))) (j := n) hx hb hK hQ31 0 1 rfl rfl rfl rfl (by omega) (by omega) (va_up_self _ _ _) dX6_come_61 ?_
        refine lv_iload_n hx hb dX6_come_62 rfl (lv_at hl 3 rfl) ?_
        refine z_put (D := D) (ci := 5) (v := .int (nI m9)) (ty := .int) (C := RX5) (T := TX5) (N := 7) hx hb hts hinX5 tyX5 tyX5_ok nmX5 hown hK hW32 (by show o ≤ _; omega) hS 0 rfl rfl 4 (by decide) (hts _ (List.mem_of_getElem? (i := 5) rfl)) (fun _ h9 => h9) rfl (by decide +kernel) rfl rfl (Nat.le_of_ble_eq_true rfl) dX6_come_63 (fun H34 lo35 hP1 hz1 hk1 hS => ?_)
        have hsz : H34.size = t + 6 := by omega
        have hz : H.size ≤ H34.size := by omega
        have hO36 := zOb_kept hO28 (fun q h1 h2 h3 => (fun q _ h => hk1 q h) q h1 (by omega))
        have hQ37 := zQr_kept hQ29 (fun q h1 h2 h3 => (fun q _ h => hk1 q h) q h1 (by omega))
        have hF38 := zFm_kept hsp hF30 (fun q h1 h2 h3 => (fun q _ h => hk1 q h) q h1 (by omega))
        have hQ39 := zQr_kept hQ31 (fun q h1 h2 h3 => (fun q _ h => hk1 q h) q h1 (by omega))
        have hW40 : va_P D vwCl (zBw cI (t + 1) (t + 5) (fun _ => 0) (fun _ => -1) (fun _ => 0) 0 (nI m9) 0) H34 := z_set zBw_c hW32 0 rfl hP1 (fun q _ h => hk1 q h)
        have hEn41 := zAr_kept hEn33 (fun q h1 h2 h3 => (fun q _ h => hk1 q h) q h1 (by omega))
        refine lv_aload_n hx hb dX6_come_66 rfl (lv_at hl 1 rfl) ?_
        refine lv_aload_n hx hb dX6_come_67 rfl (lv_at hl 2 rfl) ?_
        refine va_get (D := D) (ci := 6) (v := .ref ar) (C := RX6) (T := TX6) (N := 3) hx hb hts hinX6 hown hK hO36 0 rfl rfl 0 (by decide) (hts _ (List.mem_of_getElem? (i := 1) rfl)) (fun _ h9 => h9) rfl dX6_come_68 ?_
        refine z_qlen (n := n) (f := (zbf n B)) hx hb hK hQ37 0 1 rfl rfl dX6_come_71 ?_
        refine z_aald (a := t) (n := (n + 1)) (f := (va_up (zbf k B) n (some (t + 1)))) (j := n) hx hb hK hQ39 0 1 rfl rfl rfl rfl (by omega) (by omega) (va_up_self _ _ _) dX6_come_72 ?_
        refine lv_iload_n hx hb dX6_come_73 rfl (lv_at hl 4 rfl) ?_
        refine z_put (D := D) (ci := 5) (v := .int (nI x)) (ty := .int) (C := RX5) (T := TX5) (N := 7) hx hb hts hinX5 tyX5 tyX5_ok nmX5 hown hK hW40 (by show o ≤ _; omega) hS 0 rfl rfl 5 (by decide) (hts _ (List.mem_of_getElem? (i := 6) rfl)) (fun _ h9 => h9) rfl (by decide +kernel) rfl rfl (Nat.le_of_ble_eq_true rfl) dX6_come_74 (fun H42 lo43 hP1 hz1 hk1 hS => ?_)
        have hsz : H42.size = t + 6 := by omega
        have hz : H.size ≤ H42.size := by omega
        have hO44 := zOb_kept hO36 (fun q h1 h2 h3 => (fun q _ h => hk1 q h) q h1 (by omega))
        have hQ45 := zQr_kept hQ37 (fun q h1 h2 h3 => (fun q _ h => hk1 q h) q h1 (by omega))
        have hF46 := zFm_kept hsp hF38 (fun q h1 h2 h3 => (fun q _ h => hk1 q h) q h1 (by omega))
        have hQ47 := zQr_kept hQ39 (fun q h1 h2 h3 => (fun q _ h => hk1 q h) q h1 (by omega))
        have hW48 : va_P D vwCl (zBw cI (t + 1) (t + 5) (fun _ => 0) (fun _ => -1) (fun _ => 0) 0 (nI m9) (nI x)) H42 := z_set zBw_c hW40 0 rfl hP1 (fun q _ h => hk1 q h)
        have hEn49 := zAr_kept hEn41 (fun q h1 h2 h3 => (fun q _ h => hk1 q h) q h1 (by omega))
        refine lv_aload_n hx hb dX6_come_77 rfl (lv_at hl 2 rfl) ?_
        refine lv_aload_n hx hb dX6_come_78 rfl (lv_at hl 1 rfl) ?_
        refine z_put (D := D) (ci := 6) (v := .ref t) (ty := (.array (.object "ParrotJuryLaw$Bird"))) (C := RX6) (T := TX6) (N := 3) hx hb hts hinX6 tyX6 tyX6_ok nmX6 hown hK hO44 (by show o ≤ _; omega) hS 0 rfl rfl 0 (by decide) (hts _ (List.mem_of_getElem? (i := 1) rfl)) (fun _ h9 => h9) rfl (by decide +kernel) rfl rfl (Nat.le_of_ble_eq_true rfl) dX6_come_79 (fun H50 lo51 hP1 hz1 hk1 hS => ?_)
        have hsz : H50.size = t + 6 := by omega
        have hz : H.size ≤ H50.size := by omega
        have hO52 : va_P D vwCl [(o, .inr (6, [.ref t, .int rd, .int tk]))] H50 := z_set zOb_c hO44 0 rfl hP1 (fun q _ h => hk1 q h)
        have hQ53 := zQr_kept hQ45 (fun q h1 h2 h3 => (fun q _ h => hk1 q h) q h1 (by omega))
        have hF54 := zFm_kept hsp hF46 (fun q h1 h2 h3 => (fun q _ h => hk1 q h) q h1 (by omega))
        have hQ55 := zQr_kept hQ47 (fun q h1 h2 h3 => (fun q _ h => hk1 q h) q h1 (by omega))
        have hW56 := zBw_kept hW48 (fun q h1 h2 h3 => (fun q _ h => hk1 q h) q h1 (by omega))
        have hEn57 := zAr_kept hEn49 (fun q h1 h2 h3 => (fun q _ h => hk1 q h) q h1 (by omega))
        refine W.widen (k := 6) (n := 26) (by omega) (by omega) ?_
        exact z_vretM (⟨⟨hO52, zQ_come hQ55 (by omega), zFm_come hF54 hW56 hEn57 (hI.2.2 n (Nat.le_refl _)), zSp_come hsp⟩, hsz⟩) hx hb hr hlocks hS dX6_come_82
      · have c21 := z_nle (a := n) (b := k) c21 (by omega) (by omega)
        refine lv_aload_n hx hb dX6_come_24 rfl (lv_at hl 1 rfl) ?_
        refine lv_iload hx hb dX6_come_25 (lv_at hl 0 rfl) ?_
        refine lv_aload_n hx hb dX6_come_27 rfl (lv_at hl 2 rfl) ?_
        refine va_get (D := D) (ci := 6) (v := .ref ar) (C := RX6) (T := TX6) (N := 3) hx hb hts hinX6 hown hK hO8 0 rfl rfl 0 (by decide) (hts _ (List.mem_of_getElem? (i := 1) rfl)) (fun _ h9 => h9) rfl dX6_come_28 ?_
        refine lv_iload hx hb dX6_come_31 (lv_at hl 0 rfl) ?_
        refine z_aald (a := ar) (n := n) (f := (zbf n B)) (j := k) hx hb hK hQ9 0 1 rfl rfl rfl rfl (by omega) (by omega) (zbf_in (by omega)) dX6_come_33 ?_
        obtain ⟨hBdm58, hEam58⟩ := hF10 k (by omega)
        obtain ⟨⟨sb1m58, sb2m58⟩, ⟨se1m58, se2m58⟩, sam58⟩ := hsp.2.1 k (by omega)
        refine z_aast (n := (n + 1)) (f := (zbf k B)) (j := k) (r := (RX5, TX5, 7)) hx hb hK hQn11 hBdm58 (by show o ≤ _; omega) hS 0 0 1 5 rfl rfl rfl rfl rfl (by omega) (by omega) dX6_come_34 (fun H59 lo60 hP1 hz1 hk1 hS => ?_)
        have hsz : H59.size = t + 1 := by omega
        have hz : H.size ≤ H59.size := by omega
        have hO61 := zOb_kept hO8 (fun q h1 h2 h3 => (fun q _ h => hk1 q h) q h1 (by omega))
        have hQ62 := zQr_kept hQ9 (fun q h1 h2 h3 => (fun q _ h => hk1 q h) q h1 (by omega))
        have hF63 := zFm_kept hsp hF10 (fun q h1 h2 h3 => (fun q _ h => hk1 q h) q h1 (by omega))
        have hQ64 : va_P D vwCl (zQr cR t (n + 1) (va_up (zbf k B) k (some (B k)))) H59 := hP1
        have hBdm65 := zBw_kept hBdm58 (fun q h1 h2 h3 => (fun q _ h => hk1 q h) q h1 (by omega))
        have hEam66 := zAr_kept hEam58 (fun q h1 h2 h3 => (fun q _ h => hk1 q h) q h1 (by omega))
        refine lv_iinc (v := (nI (k + 1))) (lv' := [(4, .int (nI (k + 1))), (3, .ref t), (0, .ref o), (1, .int (nI m9)), (2, .int (nI x))]) hx hb dX6_come_35 hl (k := 0) rfl (nI_1 _) (by decide) rfl (fun ls hl => ?_)
        refine lv_goto (tgt := 14) hx hb dX6_come_38 (by decide) ?_
        exact ih (k + 1) (by omega) (by omega) _ (rfl) _ _ (hO61) (hQ62) (hF63) (by rw [← zbf_up]; exact hQ64) (by omega) hz hS _ (lv_sub hl [0, 1, 2, 3, 4] rfl)
  exact loop14 _ 0 (Nat.lt_succ_self _) (by omega) _ (rfl) _ _ hO3 hQ4 hF5 (by rw [zbf_0]; exact hQn2) (hsz) hz hS _ (lv_sub hl [0, 1, 2, 3, 4] rfl)
set_option maxHeartbeats 4000000 in
set_option maxRecDepth 100000 in
/-- Sim.listen -/
theorem zcX6_listen_a (l : Launch) (D : va_G) (cI : ClassId) (cR : ClassId) (H : Heap) (o : Nat) (t : Nat) (ar : Nat) (n : Nat) (B : Nat → Nat) (E : Nat → Nat) (me : Nat → Int32) (lo : Nat → Int32) (c : Nat → Nat) (e : Nat → Nat) (rd : Int32) (tk : Int32) (g : zG) (p : Nat) (x : Nat) (hSm : zSm D cI cR o t ar n B E me lo c e rd tk g H) (hI : zI n me lo c e) (hsz : H.size = t) (hp : p < n) (hx : x < n) (hpn : po e p x (c p) = none) (hc9 : c p < 4) : Met l yX6_listen wsX6_listen ({ frames := 1, cells := 1, slots := 5, locals := 22 } : Room) (zPk D [(cI, .int), (cR, .object zBC)] H [.ref o, .int (nI p), .int (nI x)]) (zM (fun H1 => zSm D cI cR o (t + 1) ar n B (zx E p t) me lo (zu c p (c p + 1)) (zu e (p * 4 + c p) x) rd tk g H1 ∧ H1.size = t + 1) (some (.int (nI (c p + 1)))) (fun q => o ≤ q)) 1 5 (fun q => o ≤ q) := by
  refine z_kenter (cc := cX6_listen) (maxL := 7) (ret := (some .int)) (by decide) rfl (Nat.le_of_ble_eq_true rfl) ?_
  intro pg ev s m args below meth cd hfix hr hlocks hname hK hHs hKw ls hl
  have hK1 : va_K D vwCl [(cI, .int)] s := hK.sub [0] rfl
  obtain ⟨hx, hb, hml, hown, hts⟩ := id hfix
  have hl : lv_has ls 7 [(0, .ref o), (1, .int (nI p)), (2, .int (nI x))] := hl
  have hS : va_S (fun q => o ≤ q) s.heap H [] := by rw [hHs]; exact va_S.rf
  have hz : H.size ≤ H.size := Nat.le_refl _
  have hinX5 : ∀ w ∈ wsX50, w ∈ wsX6_listen := by decide +kernel
  have hinX6 : ∀ w ∈ wsX60, w ∈ wsX6_listen := by decide +kernel
  obtain ⟨hO, hQ, hF, hsp⟩ := id hSm
  obtain ⟨⟨ho1, ho2, ho3⟩, -, -⟩ := id hsp
  have hn := zI_n hI
  have hc4 := zI_c hI p
  have hzu : (zu c p (c p + 1)) p = c p + 1 := by simp [zu]
  refine lv_aload_n hx hb dX6_listen_0 rfl (lv_at hl 0 rfl) ?_
  refine va_get (D := D) (ci := 6) (v := .ref ar) (C := RX6) (T := TX6) (N := 3) hx hb hts hinX6 hown hK hO 0 rfl rfl 0 (by decide) (hts _ (List.mem_of_getElem? (i := 1) rfl)) (fun _ h9 => h9) rfl dX6_listen_1 ?_
  refine lv_iload_n hx hb dX6_listen_4 rfl (lv_at hl 1 rfl) ?_
  refine z_aald (a := ar) (n := n) (f := (zbf n B)) (j := p) hx hb hK hQ 0 1 rfl rfl rfl rfl (by omega) (by omega) (zbf_in (by omega)) dX6_listen_5 ?_
  obtain ⟨hBdm1, hEam1⟩ := hF p (by omega)
  obtain ⟨⟨sb1m1, sb2m1⟩, ⟨se1m1, se2m1⟩, sam1⟩ := hsp.2.1 p (by omega)
  refine lv_astore_n (lv' := [(3, .ref (B p)), (0, .ref o), (1, .int (nI p)), (2, .int (nI x))]) hx hb dX6_listen_6 rfl hl (by decide) rfl (fun ls hl => ?_)
  refine lv_aload_n hx hb dX6_listen_7 rfl (lv_at hl 0 rfl) ?_
  refine lv_iload_n hx hb dX6_listen_8 rfl (lv_at hl 3 rfl) ?_
  refine z_ki (va_runV (As := [.int (nI x)]) (rest := []) hfix (zcX5_place l D cI H (B p) (E p) (zcb g 0 p) (zcb g 2 p) (zcb g 4 p) (g 6 p) (me p) (lo p) (c p) e p x hBdm1 hEam1 hc4 (fun j hj => by have := zI_e hI hj; omega) (by omega)) (cwV 1 hts gX6_listen_X5_place rfl rfl rfl (by decide +kernel) ⟨Nat.le_of_ble_eq_true rfl, Nat.le_of_ble_eq_true rfl⟩) (z_preV hK hK1 hBdm1 (ci := 5) (q0 := 0) rfl rfl rfl) rfl rfl hl.1 rfl (lv_room (Nat.le_of_ble_eq_true rfl)) dX6_listen_9 ⟨by omega, by omega⟩) ?_
  refine z_toi (y := (-1)) (by rw [hpn]; rfl) ?_
  refine lv_istore (lv' := [(4, .int (-1)), (3, .ref (B p)), (0, .ref o), (1, .int (nI p)), (2, .int (nI x))]) hx hb dX6_listen_12 hl (by decide) rfl (fun ls hl => ?_)
  refine lv_aload_n hx hb dX6_listen_14 rfl (lv_at hl 1 rfl) ?_
  refine va_get (D := D) (ci := 5) (v := .ref (E p)) (C := RX5) (T := TX5) (N := 7) hx hb hts hinX5 hown hK hBdm1 0 rfl rfl 6 (by decide) (hts _ (List.mem_of_getElem? (i := 2) rfl)) (fun _ h9 => h9) rfl dX6_listen_15 ?_
  refine z_alen (n := (c p)) (f := (zer e p)) hx hb hK hEam1 0 0 rfl rfl dX6_listen_18 ?_
  refine lv_iload hx hb dX6_listen_19 (lv_at hl 0 rfl) ?_
  refine lv_if_ge (tgt := 28) hx hb dX6_listen_21 (by decide) (fun c21 => ?_) (fun c21 => ?_)
  · exact absurd c21 (by decide)
  · refine lv_iconst (v := 1) hx hb dX6_listen_24 (by decide) ?_
    refine lv_goto (tgt := 29) hx hb dX6_listen_25 (by decide) ?_
    refine lv_iadd hx hb dX6_listen_29 ?_
    refine z_toi (y := nI ((c p) + 1)) (nI_add (c p) 1) ?_
    refine z_newi hx hb (hts _ (List.mem_of_getElem? (i := 3) rfl)) hK 0 rfl (N := (c p) + 1) rfl (by omega) (Nat.le_of_ble_eq_true rfl) (by show 0 + _ ≤ 5; omega) dX6_listen_30 (h := t + 0) hsz (fun H2 hAr3 hz1 hk1 => ?_)
    have hS := z_Sgrow hS (by omega) (fun q h => hk1 q (by omega))
    have hsz : H2.size = t + 1 := by omega
    have hz : H.size ≤ H2.size := by omega
    have hO4 := zOb_kept hO (fun q h1 h2 h3 => (fun q (h9 : q < H.size) (_ : True) => hk1 q (by omega)) q h1 (trivial))
    have hQ5 := zQr_kept hQ (fun q h1 h2 h3 => (fun q (h9 : q < H.size) (_ : True) => hk1 q (by omega)) q h1 (trivial))
    have hF6 := zFm_kept hsp hF (fun q h1 h2 h3 => (fun q (h9 : q < H.size) (_ : True) => hk1 q (by omega)) q h1 (trivial))
    have hBdm7 := zBw_kept hBdm1 (fun q h1 h2 h3 => (fun q (h9 : q < H.size) (_ : True) => hk1 q (by omega)) q h1 (trivial))
    have hEam8 := zAr_kept hEam1 (fun q h1 h2 h3 => (fun q (h9 : q < H.size) (_ : True) => hk1 q (by omega)) q h1 (trivial))
    refine lv_astore (lv' := [(5, .ref t), (4, .int (-1)), (3, .ref (B p)), (0, .ref o), (1, .int (nI p)), (2, .int (nI x))]) hx hb dX6_listen_32 hl (by decide) rfl (fun ls hl => ?_)
    refine lv_iconst (v := 0) hx hb dX6_listen_34 (by decide) ?_
    refine lv_istore (lv' := [(6, .int 0), (5, .ref t), (4, .int (-1)), (3, .ref (B p)), (0, .ref o), (1, .int (nI p)), (2, .int (nI x))]) hx hb dX6_listen_35 hl (by decide) rfl (fun ls hl => ?_)
    have loop37 : ∀ (fu : Nat) (i : Nat), (c p + 1) - i < fu → (i ≤ c p + 1) → ∀ (x6 : Int32), x6 = (nI i) → ∀ (H9 : Heap) (lo10 : List Loc), va_P D vwCl [(o, .inr (6, [.ref ar, .int rd, .int tk]))] H9 → va_P D vwCl (zQr cR ar n (zbf n B)) H9 → zFm D cI n B E me lo c e g H9 → va_P D vwCl (zBw cI (B p) (E p) (zcb g 0 p) (zcb g 2 p) (zcb g 4 p) (g 6 p) (me p) (lo p)) H9 → va_P D vwCl (zAr cI (E p) (c p) (zer e p)) H9 → va_P D vwCl (zAr cI t (c p + 1) (zcp (zer (zu e (p * 4 + c p) x) p) (fun _ => 0) i)) H9 → (H9.size = t + 1) → H.size ≤ H9.size → va_S (fun q => o ≤ q) s.heap H9 lo10 → ∀ ls : Array Slot, lv_has ls 7 [(6, .int x6), (5, .ref t), (4, .int (-1)), (3, .ref (B p)), (0, .ref o), (1, .int (nI p)), (2, .int (nI x))] → W pg l ev ({ frames := 1, cells := 1, slots := 5, locals := 22 } : Room) s m args below meth cd H9 lo10 (0 + 1) (0 + ((c p) + 1)) (MQ below (zM (fun H1 => zSm D cI cR o (t + 1) ar n B (zx E p t) me lo (zu c p (c p + 1)) (zu e (p * 4 + c p) x) rd tk g H1 ∧ H1.size = t + 1) (some (.int (nI (c p + 1)))) (fun q => o ≤ q)) args s 1 5 (fun q => o ≤ q)) (F0 m 37 ls []) := by
      intro fu
      induction fu with
      | zero => intro i hfu; exact absurd hfu (Nat.not_lt_zero _)
      | succ fu ih =>
        intro i hfu hi37_0 x6 ex6 H9 lo10 hO11 hQ12 hF13 hBp14 hEp15 hAn16 hh37_0 hz hS ls hl
        subst ex6
        have hsz := hh37_0
        refine lv_iload hx hb dX6_listen_37 (lv_at hl 0 rfl) ?_
        refine lv_aload hx hb dX6_listen_39 (lv_at hl 1 rfl) ?_
        refine z_alen (n := (c p + 1)) (f := (zcp (zer (zu e (p * 4 + c p) x) p) (fun _ => 0) i)) hx hb hK hAn16 0 0 rfl rfl dX6_listen_41 ?_
        refine lv_icmp_ge (tgt := 106) hx hb dX6_listen_42 (by decide) (fun c42 => ?_) (fun c42 => ?_)
        · have c42 := z_le (a := (c p + 1)) (b := i) c42 (by omega) (by omega)
          have hi9 : i = c p + 1 := by omega
          refine lv_aload_n hx hb dX6_listen_106 rfl (lv_at hl 3 rfl) ?_
          refine lv_aload hx hb dX6_listen_107 (lv_at hl 1 rfl) ?_
          refine z_put (D := D) (ci := 5) (v := .ref t) (ty := (.array .int)) (C := RX5) (T := TX5) (N := 7) hx hb hts hinX5 tyX5 tyX5_ok nmX5 hown hK hBp14 (by show o ≤ _; omega) hS 0 rfl rfl 6 (by decide) (hts _ (List.mem_of_getElem? (i := 2) rfl)) (fun _ h9 => h9) rfl (by decide +kernel) rfl rfl (Nat.le_of_ble_eq_true rfl) dX6_listen_109 (fun H17 lo18 hP1 hz1 hk1 hS => ?_)
          have hsz : H17.size = t + 1 := by omega
          have hz : H.size ≤ H17.size := by omega
          have hO19 := zOb_kept hO11 (fun q h1 h2 h3 => (fun q _ h => hk1 q h) q h1 (by omega))
          have hQ20 := zQr_kept hQ12 (fun q h1 h2 h3 => (fun q _ h => hk1 q h) q h1 (by omega))
          have hBp21 : va_P D vwCl (zBw cI (B p) t (zcb g 0 p) (zcb g 2 p) (zcb g 4 p) (g 6 p) (me p) (lo p)) H17 := z_set zBw_c hBp14 0 rfl hP1 (fun q _ h => hk1 q h)
          have hAn22 := zAr_kept hAn16 (fun q h1 h2 h3 => (fun q _ h => hk1 q h) q h1 (by omega))
          have hkF := hk1
          refine lv_aload hx hb dX6_listen_112 (lv_at hl 1 rfl) ?_
          refine z_alen (n := (c p + 1)) (f := (zcp (zer (zu e (p * 4 + c p) x) p) (fun _ => 0) i)) hx hb hK hAn22 0 0 rfl rfl dX6_listen_114 ?_
          refine W.widen (k := 1) (n := 5) (by omega) (by omega) ?_
          exact z_iretM (⟨⟨hO19, hQ20, zFm_ears hsp hF13 hp hBp21 (by rw [hzu]; exact z_arr_ext hAn22 (fun j hj => zcp_all (by omega))) (fun q _ h => hkF q h) (fun j hj => ⟨by simp [zu, hj], fun k hk => by have := zI_c hI j; simp only [zu]; rw [if_neg (by omega)]⟩), zSp_ears hsp hp⟩, by omega⟩) hx hb hr hlocks hS dX6_listen_115
        · have c42 := z_nle (a := (c p + 1)) (b := i) c42 (by omega) (by omega)
          refine lv_aload hx hb dX6_listen_45 (lv_at hl 1 rfl) ?_
          refine lv_iload hx hb dX6_listen_47 (lv_at hl 0 rfl) ?_
          refine lv_iload hx hb dX6_listen_49 (lv_at hl 2 rfl) ?_
          refine lv_if_ge (tgt := 78) hx hb dX6_listen_51 (by decide) (fun c51 => ?_) (fun c51 => ?_)
          · exact absurd c51 (by decide)
          · refine lv_iload hx hb dX6_listen_54 (lv_at hl 0 rfl) ?_
            refine lv_aload_n hx hb dX6_listen_56 rfl (lv_at hl 3 rfl) ?_
            refine va_get (D := D) (ci := 5) (v := .ref (E p)) (C := RX5) (T := TX5) (N := 7) hx hb hts hinX5 hown hK hBp14 0 rfl rfl 6 (by decide) (hts _ (List.mem_of_getElem? (i := 2) rfl)) (fun _ h9 => h9) rfl dX6_listen_57 ?_
            refine z_alen (n := (c p)) (f := (zer e p)) hx hb hK hEp15 0 0 rfl rfl dX6_listen_60 ?_
            refine lv_icmp_ge (tgt := 74) hx hb dX6_listen_61 (by decide) (fun c61 => ?_) (fun c61 => ?_)
            · have c61 := z_le (a := (c p)) (b := i) c61 (by omega) (by omega)
              refine lv_iload_n hx hb dX6_listen_74 rfl (lv_at hl 6 rfl) ?_
              refine lv_goto (tgt := 99) hx hb dX6_listen_75 (by decide) ?_
              refine z_iast (n := (c p + 1)) (f := (zcp (zer (zu e (p * 4 + c p) x) p) (fun _ => 0) i)) (x := (nI x)) (j := i) hx hb hK hAn16 (by show o ≤ _; omega) hS 0 0 rfl rfl rfl (by omega) (by omega) dX6_listen_99 (fun H23 lo24 hP1 hz1 hk1 hS => ?_)
              have hsz : H23.size = t + 1 := by omega
              have hz : H.size ≤ H23.size := by omega
              have hO25 := zOb_kept hO11 (fun q h1 h2 h3 => (fun q _ h => hk1 q h) q h1 (by omega))
              have hQ26 := zQr_kept hQ12 (fun q h1 h2 h3 => (fun q _ h => hk1 q h) q h1 (by omega))
              have hF27 := zFm_kept hsp hF13 (fun q h1 h2 h3 => (fun q _ h => hk1 q h) q h1 (by omega))
              have hBp28 := zBw_kept hBp14 (fun q h1 h2 h3 => (fun q _ h => hk1 q h) q h1 (by omega))
              have hEp29 := zAr_kept hEp15 (fun q h1 h2 h3 => (fun q _ h => hk1 q h) q h1 (by omega))
              have hAn30 : va_P D vwCl (zAr cI t (c p + 1) (upd (zcp (zer (zu e (p * 4 + c p) x) p) (fun _ => 0) i) i (nI x))) H23 := z_set zAr_c hAn16 0 rfl hP1 (fun q _ h => hk1 q h)
              refine lv_iinc (v := (nI (i + 1))) (lv' := [(6, .int (nI (i + 1))), (5, .ref t), (4, .int (-1)), (3, .ref (B p)), (0, .ref o), (1, .int (nI p)), (2, .int (nI x))]) hx hb dX6_listen_100 hl (k := 0) rfl (nI_1 _) (by decide) rfl (fun ls hl => ?_)
              refine lv_goto (tgt := 37) hx hb dX6_listen_103 (by decide) ?_
              exact ih (i + 1) (by omega) (by omega) _ (rfl) _ _ (hO25) (hQ26) (hF27) (hBp28) (hEp29) (z_arr_ext hAn30 (fun j _ => zcp_v (zla_new (by omega)) j)) (by omega) hz hS _ (lv_sub hl [0, 1, 2, 3, 4, 5, 6] rfl)
            · have c61 := z_nle (a := (c p)) (b := i) c61 (by omega) (by omega)
              refine lv_aload_n hx hb dX6_listen_64 rfl (lv_at hl 3 rfl) ?_
              refine va_get (D := D) (ci := 5) (v := .ref (E p)) (C := RX5) (T := TX5) (N := 7) hx hb hts hinX5 hown hK hBp14 0 rfl rfl 6 (by decide) (hts _ (List.mem_of_getElem? (i := 2) rfl)) (fun _ h9 => h9) rfl dX6_listen_65 ?_
              refine lv_iload hx hb dX6_listen_68 (lv_at hl 0 rfl) ?_
              refine z_iald (a := (E p)) (n := (c p)) (f := (zer e p)) (j := i) hx hb hK hEp15 0 0 rfl rfl rfl (by omega) (by omega) dX6_listen_70 ?_
              refine lv_goto (tgt := 99) hx hb dX6_listen_71 (by decide) ?_
              refine z_iast (n := (c p + 1)) (f := (zcp (zer (zu e (p * 4 + c p) x) p) (fun _ => 0) i)) (x := (nI (e (p * 4 + i)))) (j := i) hx hb hK hAn16 (by show o ≤ _; omega) hS 0 0 rfl rfl rfl (by omega) (by omega) dX6_listen_99 (fun H31 lo32 hP1 hz1 hk1 hS => ?_)
              have hsz : H31.size = t + 1 := by omega
              have hz : H.size ≤ H31.size := by omega
              have hO33 := zOb_kept hO11 (fun q h1 h2 h3 => (fun q _ h => hk1 q h) q h1 (by omega))
              have hQ34 := zQr_kept hQ12 (fun q h1 h2 h3 => (fun q _ h => hk1 q h) q h1 (by omega))
              have hF35 := zFm_kept hsp hF13 (fun q h1 h2 h3 => (fun q _ h => hk1 q h) q h1 (by omega))
              have hBp36 := zBw_kept hBp14 (fun q h1 h2 h3 => (fun q _ h => hk1 q h) q h1 (by omega))
              have hEp37 := zAr_kept hEp15 (fun q h1 h2 h3 => (fun q _ h => hk1 q h) q h1 (by omega))
              have hAn38 : va_P D vwCl (zAr cI t (c p + 1) (upd (zcp (zer (zu e (p * 4 + c p) x) p) (fun _ => 0) i) i (nI (e (p * 4 + i))))) H31 := z_set zAr_c hAn16 0 rfl hP1 (fun q _ h => hk1 q h)
              refine lv_iinc (v := (nI (i + 1))) (lv' := [(6, .int (nI (i + 1))), (5, .ref t), (4, .int (-1)), (3, .ref (B p)), (0, .ref o), (1, .int (nI p)), (2, .int (nI x))]) hx hb dX6_listen_100 hl (k := 0) rfl (nI_1 _) (by decide) rfl (fun ls hl => ?_)
              refine lv_goto (tgt := 37) hx hb dX6_listen_103 (by decide) ?_
              exact ih (i + 1) (by omega) (by omega) _ (rfl) _ _ (hO33) (hQ34) (hF35) (hBp36) (hEp37) (z_arr_ext hAn38 (fun j _ => zcp_v (zla_in c61) j)) (by omega) hz hS _ (lv_sub hl [0, 1, 2, 3, 4, 5, 6] rfl)
    exact loop37 _ 0 (Nat.lt_succ_self _) (by omega) _ (rfl) _ _ hO4 hQ5 hF6 hBdm7 hEam8 (z_arr_ext hAr3 (fun j _ => rfl)) (hsz) hz hS _ (lv_sub hl [0, 1, 2, 3, 4, 5, 6] rfl)
set_option maxHeartbeats 4000000 in
set_option maxRecDepth 100000 in
/-- Sim.listen -/
theorem zcX6_listen_d (l : Launch) (D : va_G) (cI : ClassId) (cR : ClassId) (H : Heap) (o : Nat) (t : Nat) (ar : Nat) (n : Nat) (B : Nat → Nat) (E : Nat → Nat) (me : Nat → Int32) (lo : Nat → Int32) (c : Nat → Nat) (e : Nat → Nat) (rd : Int32) (tk : Int32) (g : zG) (p : Nat) (x : Nat) (k : Nat) (hSm : zSm D cI cR o t ar n B E me lo c e rd tk g H) (hI : zI n me lo c e) (hsz : H.size = t) (hp : p < n) (hx : x < n) (hpn : po e p x (c p) = some k) : Met l yX6_listen wsX6_listen ({ frames := 1, cells := 1, slots := 5, locals := 22 } : Room) (zPk D [(cI, .int), (cR, .object zBC)] H [.ref o, .int (nI p), .int (nI x)]) (zM (fun H1 => zSm D cI cR o (t + 1) ar n B (zx E p t) me lo (zu c p (c p - 1)) (zdr e p k (c p - 1)) rd tk g H1 ∧ H1.size = t + 1) (some (.int (nI (c p - 1)))) (fun q => o ≤ q)) 1 5 (fun q => o ≤ q) := by
  refine z_kenter (cc := cX6_listen) (maxL := 7) (ret := (some .int)) (by decide) rfl (Nat.le_of_ble_eq_true rfl) ?_
  intro pg ev s m args below meth cd hfix hr hlocks hname hK hHs hKw ls hl
  have hK1 : va_K D vwCl [(cI, .int)] s := hK.sub [0] rfl
  obtain ⟨hx, hb, hml, hown, hts⟩ := id hfix
  have hl : lv_has ls 7 [(0, .ref o), (1, .int (nI p)), (2, .int (nI x))] := hl
  have hS : va_S (fun q => o ≤ q) s.heap H [] := by rw [hHs]; exact va_S.rf
  have hz : H.size ≤ H.size := Nat.le_refl _
  have hinX5 : ∀ w ∈ wsX50, w ∈ wsX6_listen := by decide +kernel
  have hinX6 : ∀ w ∈ wsX60, w ∈ wsX6_listen := by decide +kernel
  obtain ⟨hO, hQ, hF, hsp⟩ := id hSm
  obtain ⟨⟨ho1, ho2, ho3⟩, -, -⟩ := id hsp
  have hn := zI_n hI
  have hc4 := zI_c hI p
  have hzu : (zu c p (c p - 1)) p = c p - 1 := by simp [zu]
  have hkc := (zd_po_lt hpn).1
  refine lv_aload_n hx hb dX6_listen_0 rfl (lv_at hl 0 rfl) ?_
  refine va_get (D := D) (ci := 6) (v := .ref ar) (C := RX6) (T := TX6) (N := 3) hx hb hts hinX6 hown hK hO 0 rfl rfl 0 (by decide) (hts _ (List.mem_of_getElem? (i := 1) rfl)) (fun _ h9 => h9) rfl dX6_listen_1 ?_
  refine lv_iload_n hx hb dX6_listen_4 rfl (lv_at hl 1 rfl) ?_
  refine z_aald (a := ar) (n := n) (f := (zbf n B)) (j := p) hx hb hK hQ 0 1 rfl rfl rfl rfl (by omega) (by omega) (zbf_in (by omega)) dX6_listen_5 ?_
  obtain ⟨hBdm1, hEam1⟩ := hF p (by omega)
  obtain ⟨⟨sb1m1, sb2m1⟩, ⟨se1m1, se2m1⟩, sam1⟩ := hsp.2.1 p (by omega)
  refine lv_astore_n (lv' := [(3, .ref (B p)), (0, .ref o), (1, .int (nI p)), (2, .int (nI x))]) hx hb dX6_listen_6 rfl hl (by decide) rfl (fun ls hl => ?_)
  refine lv_aload_n hx hb dX6_listen_7 rfl (lv_at hl 0 rfl) ?_
  refine lv_iload_n hx hb dX6_listen_8 rfl (lv_at hl 3 rfl) ?_
  refine z_ki (va_runV (As := [.int (nI x)]) (rest := []) hfix (zcX5_place l D cI H (B p) (E p) (zcb g 0 p) (zcb g 2 p) (zcb g 4 p) (g 6 p) (me p) (lo p) (c p) e p x hBdm1 hEam1 hc4 (fun j hj => by have := zI_e hI hj; omega) (by omega)) (cwV 1 hts gX6_listen_X5_place rfl rfl rfl (by decide +kernel) ⟨Nat.le_of_ble_eq_true rfl, Nat.le_of_ble_eq_true rfl⟩) (z_preV hK hK1 hBdm1 (ci := 5) (q0 := 0) rfl rfl rfl) rfl rfl hl.1 rfl (lv_room (Nat.le_of_ble_eq_true rfl)) dX6_listen_9 ⟨by omega, by omega⟩) ?_
  refine z_toi (y := nI k) (by rw [hpn]; rfl) ?_
  refine lv_istore (lv' := [(4, .int (nI k)), (3, .ref (B p)), (0, .ref o), (1, .int (nI p)), (2, .int (nI x))]) hx hb dX6_listen_12 hl (by decide) rfl (fun ls hl => ?_)
  refine lv_aload_n hx hb dX6_listen_14 rfl (lv_at hl 1 rfl) ?_
  refine va_get (D := D) (ci := 5) (v := .ref (E p)) (C := RX5) (T := TX5) (N := 7) hx hb hts hinX5 hown hK hBdm1 0 rfl rfl 6 (by decide) (hts _ (List.mem_of_getElem? (i := 2) rfl)) (fun _ h9 => h9) rfl dX6_listen_15 ?_
  refine z_alen (n := (c p)) (f := (zer e p)) hx hb hK hEam1 0 0 rfl rfl dX6_listen_18 ?_
  refine lv_iload hx hb dX6_listen_19 (lv_at hl 0 rfl) ?_
  refine lv_if_ge (tgt := 28) hx hb dX6_listen_21 (by decide) (fun c21 => ?_) (fun c21 => ?_)
  · have c21 := z_le (a := 0) (b := k) c21 (by omega) (by omega)
    refine lv_iconst (v := (-1)) hx hb dX6_listen_28 (by decide) ?_
    refine lv_iadd hx hb dX6_listen_29 ?_
    refine z_toi (y := nI (c p - 1)) (zm1 (by omega)) ?_
    refine z_newi hx hb (hts _ (List.mem_of_getElem? (i := 3) rfl)) hK 0 rfl (N := c p - 1) rfl (by omega) (Nat.le_of_ble_eq_true rfl) (by show 0 + _ ≤ 5; omega) dX6_listen_30 (h := t + 0) hsz (fun H2 hAr3 hz1 hk1 => ?_)
    have hS := z_Sgrow hS (by omega) (fun q h => hk1 q (by omega))
    have hsz : H2.size = t + 1 := by omega
    have hz : H.size ≤ H2.size := by omega
    have hO4 := zOb_kept hO (fun q h1 h2 h3 => (fun q (h9 : q < H.size) (_ : True) => hk1 q (by omega)) q h1 (trivial))
    have hQ5 := zQr_kept hQ (fun q h1 h2 h3 => (fun q (h9 : q < H.size) (_ : True) => hk1 q (by omega)) q h1 (trivial))
    have hF6 := zFm_kept hsp hF (fun q h1 h2 h3 => (fun q (h9 : q < H.size) (_ : True) => hk1 q (by omega)) q h1 (trivial))
    have hBdm7 := zBw_kept hBdm1 (fun q h1 h2 h3 => (fun q (h9 : q < H.size) (_ : True) => hk1 q (by omega)) q h1 (trivial))
    have hEam8 := zAr_kept hEam1 (fun q h1 h2 h3 => (fun q (h9 : q < H.size) (_ : True) => hk1 q (by omega)) q h1 (trivial))
    refine lv_astore (lv' := [(5, .ref t), (4, .int (nI k)), (3, .ref (B p)), (0, .ref o), (1, .int (nI p)), (2, .int (nI x))]) hx hb dX6_listen_32 hl (by decide) rfl (fun ls hl => ?_)
    refine lv_iconst (v := 0) hx hb dX6_listen_34 (by decide) ?_
    refine lv_istore (lv' := [(6, .int 0), (5, .ref t), (4, .int (nI k)), (3, .ref (B p)), (0, .ref o), (1, .int (nI p)), (2, .int (nI x))]) hx hb dX6_listen_35 hl (by decide) rfl (fun ls hl => ?_)
    have loop37 : ∀ (fu : Nat) (i : Nat), (c p - 1) - i < fu → (i ≤ c p - 1) → ∀ (x6 : Int32), x6 = (nI i) → ∀ (H9 : Heap) (lo10 : List Loc), va_P D vwCl [(o, .inr (6, [.ref ar, .int rd, .int tk]))] H9 → va_P D vwCl (zQr cR ar n (zbf n B)) H9 → zFm D cI n B E me lo c e g H9 → va_P D vwCl (zBw cI (B p) (E p) (zcb g 0 p) (zcb g 2 p) (zcb g 4 p) (g 6 p) (me p) (lo p)) H9 → va_P D vwCl (zAr cI (E p) (c p) (zer e p)) H9 → va_P D vwCl (zAr cI t (c p - 1) (zcp (zer (zdr e p k (c p - 1)) p) (fun _ => 0) i)) H9 → (H9.size = t + 1) → H.size ≤ H9.size → va_S (fun q => o ≤ q) s.heap H9 lo10 → ∀ ls : Array Slot, lv_has ls 7 [(6, .int x6), (5, .ref t), (4, .int (nI k)), (3, .ref (B p)), (0, .ref o), (1, .int (nI p)), (2, .int (nI x))] → W pg l ev ({ frames := 1, cells := 1, slots := 5, locals := 22 } : Room) s m args below meth cd H9 lo10 (0 + 1) (0 + (c p - 1)) (MQ below (zM (fun H1 => zSm D cI cR o (t + 1) ar n B (zx E p t) me lo (zu c p (c p - 1)) (zdr e p k (c p - 1)) rd tk g H1 ∧ H1.size = t + 1) (some (.int (nI (c p - 1)))) (fun q => o ≤ q)) args s 1 5 (fun q => o ≤ q)) (F0 m 37 ls []) := by
      intro fu
      induction fu with
      | zero => intro i hfu; exact absurd hfu (Nat.not_lt_zero _)
      | succ fu ih =>
        intro i hfu hi37_0 x6 ex6 H9 lo10 hO11 hQ12 hF13 hBp14 hEp15 hAn16 hh37_0 hz hS ls hl
        subst ex6
        have hsz := hh37_0
        refine lv_iload hx hb dX6_listen_37 (lv_at hl 0 rfl) ?_
        refine lv_aload hx hb dX6_listen_39 (lv_at hl 1 rfl) ?_
        refine z_alen (n := (c p - 1)) (f := (zcp (zer (zdr e p k (c p - 1)) p) (fun _ => 0) i)) hx hb hK hAn16 0 0 rfl rfl dX6_listen_41 ?_
        refine lv_icmp_ge (tgt := 106) hx hb dX6_listen_42 (by decide) (fun c42 => ?_) (fun c42 => ?_)
        · have c42 := z_le (a := (c p - 1)) (b := i) c42 (by omega) (by omega)
          have hi9 : i = c p - 1 := by omega
          refine lv_aload_n hx hb dX6_listen_106 rfl (lv_at hl 3 rfl) ?_
          refine lv_aload hx hb dX6_listen_107 (lv_at hl 1 rfl) ?_
          refine z_put (D := D) (ci := 5) (v := .ref t) (ty := (.array .int)) (C := RX5) (T := TX5) (N := 7) hx hb hts hinX5 tyX5 tyX5_ok nmX5 hown hK hBp14 (by show o ≤ _; omega) hS 0 rfl rfl 6 (by decide) (hts _ (List.mem_of_getElem? (i := 2) rfl)) (fun _ h9 => h9) rfl (by decide +kernel) rfl rfl (Nat.le_of_ble_eq_true rfl) dX6_listen_109 (fun H17 lo18 hP1 hz1 hk1 hS => ?_)
          have hsz : H17.size = t + 1 := by omega
          have hz : H.size ≤ H17.size := by omega
          have hO19 := zOb_kept hO11 (fun q h1 h2 h3 => (fun q _ h => hk1 q h) q h1 (by omega))
          have hQ20 := zQr_kept hQ12 (fun q h1 h2 h3 => (fun q _ h => hk1 q h) q h1 (by omega))
          have hBp21 : va_P D vwCl (zBw cI (B p) t (zcb g 0 p) (zcb g 2 p) (zcb g 4 p) (g 6 p) (me p) (lo p)) H17 := z_set zBw_c hBp14 0 rfl hP1 (fun q _ h => hk1 q h)
          have hAn22 := zAr_kept hAn16 (fun q h1 h2 h3 => (fun q _ h => hk1 q h) q h1 (by omega))
          have hkF := hk1
          refine lv_aload hx hb dX6_listen_112 (lv_at hl 1 rfl) ?_
          refine z_alen (n := (c p - 1)) (f := (zcp (zer (zdr e p k (c p - 1)) p) (fun _ => 0) i)) hx hb hK hAn22 0 0 rfl rfl dX6_listen_114 ?_
          refine W.widen (k := 1) (n := 5) (by omega) (by omega) ?_
          exact z_iretM (⟨⟨hO19, hQ20, zFm_ears hsp hF13 hp hBp21 (by rw [hzu]; exact z_arr_ext hAn22 (fun j hj => zcp_all (by omega))) (fun q _ h => hkF q h) (fun j hj => ⟨by simp [zu, hj], fun k2 hk2 => by have := zI_c hI j; simp only [zdr]; rw [if_neg (by omega)]⟩), zSp_ears hsp hp⟩, by omega⟩) hx hb hr hlocks hS dX6_listen_115
        · have c42 := z_nle (a := (c p - 1)) (b := i) c42 (by omega) (by omega)
          refine lv_aload hx hb dX6_listen_45 (lv_at hl 1 rfl) ?_
          refine lv_iload hx hb dX6_listen_47 (lv_at hl 0 rfl) ?_
          refine lv_iload hx hb dX6_listen_49 (lv_at hl 2 rfl) ?_
          refine lv_if_ge (tgt := 78) hx hb dX6_listen_51 (by decide) (fun c51 => ?_) (fun c51 => ?_)
          · have c51 := z_le (a := 0) (b := k) c51 (by omega) (by omega)
            refine lv_aload_n hx hb dX6_listen_78 rfl (lv_at hl 3 rfl) ?_
            refine va_get (D := D) (ci := 5) (v := .ref (E p)) (C := RX5) (T := TX5) (N := 7) hx hb hts hinX5 hown hK hBp14 0 rfl rfl 6 (by decide) (hts _ (List.mem_of_getElem? (i := 2) rfl)) (fun _ h9 => h9) rfl dX6_listen_79 ?_
            refine lv_iload hx hb dX6_listen_82 (lv_at hl 0 rfl) ?_
            refine lv_iload hx hb dX6_listen_84 (lv_at hl 2 rfl) ?_
            refine lv_icmp_ge (tgt := 94) hx hb dX6_listen_86 (by decide) (fun c86 => ?_) (fun c86 => ?_)
            · have c86 := z_le (a := k) (b := i) c86 (by omega) (by omega)
              refine lv_iload hx hb dX6_listen_94 (lv_at hl 0 rfl) ?_
              refine lv_iconst (v := 1) hx hb dX6_listen_96 (by decide) ?_
              refine lv_iadd hx hb dX6_listen_97 ?_
              refine z_toi (y := nI (i + 1)) (nI_add i 1) ?_
              refine z_iald (a := (E p)) (n := (c p)) (f := (zer e p)) (j := (i + 1)) hx hb hK hEp15 0 0 rfl rfl rfl (by omega) (by omega) dX6_listen_98 ?_
              refine z_iast (n := (c p - 1)) (f := (zcp (zer (zdr e p k (c p - 1)) p) (fun _ => 0) i)) (x := (nI (e (p * 4 + (i + 1))))) (j := i) hx hb hK hAn16 (by show o ≤ _; omega) hS 0 0 rfl rfl rfl (by omega) (by omega) dX6_listen_99 (fun H23 lo24 hP1 hz1 hk1 hS => ?_)
              have hsz : H23.size = t + 1 := by omega
              have hz : H.size ≤ H23.size := by omega
              have hO25 := zOb_kept hO11 (fun q h1 h2 h3 => (fun q _ h => hk1 q h) q h1 (by omega))
              have hQ26 := zQr_kept hQ12 (fun q h1 h2 h3 => (fun q _ h => hk1 q h) q h1 (by omega))
              have hF27 := zFm_kept hsp hF13 (fun q h1 h2 h3 => (fun q _ h => hk1 q h) q h1 (by omega))
              have hBp28 := zBw_kept hBp14 (fun q h1 h2 h3 => (fun q _ h => hk1 q h) q h1 (by omega))
              have hEp29 := zAr_kept hEp15 (fun q h1 h2 h3 => (fun q _ h => hk1 q h) q h1 (by omega))
              have hAn30 : va_P D vwCl (zAr cI t (c p - 1) (upd (zcp (zer (zdr e p k (c p - 1)) p) (fun _ => 0) i) i (nI (e (p * 4 + (i + 1)))))) H23 := z_set zAr_c hAn16 0 rfl hP1 (fun q _ h => hk1 q h)
              refine lv_iinc (v := (nI (i + 1))) (lv' := [(6, .int (nI (i + 1))), (5, .ref t), (4, .int (nI k)), (3, .ref (B p)), (0, .ref o), (1, .int (nI p)), (2, .int (nI x))]) hx hb dX6_listen_100 hl (k := 0) rfl (nI_1 _) (by decide) rfl (fun ls hl => ?_)
              refine lv_goto (tgt := 37) hx hb dX6_listen_103 (by decide) ?_
              exact ih (i + 1) (by omega) (by omega) _ (rfl) _ _ (hO25) (hQ26) (hF27) (hBp28) (hEp29) (z_arr_ext hAn30 (fun j _ => zcp_v (zld_hi c86 (by omega)) j)) (by omega) hz hS _ (lv_sub hl [0, 1, 2, 3, 4, 5, 6] rfl)
            · have c86 := z_nle (a := k) (b := i) c86 (by omega) (by omega)
              refine lv_iload hx hb dX6_listen_89 (lv_at hl 0 rfl) ?_
              refine lv_goto (tgt := 98) hx hb dX6_listen_91 (by decide) ?_
              refine z_iald (a := (E p)) (n := (c p)) (f := (zer e p)) (j := i) hx hb hK hEp15 0 0 rfl rfl rfl (by omega) (by omega) dX6_listen_98 ?_
              refine z_iast (n := (c p - 1)) (f := (zcp (zer (zdr e p k (c p - 1)) p) (fun _ => 0) i)) (x := (nI (e (p * 4 + i)))) (j := i) hx hb hK hAn16 (by show o ≤ _; omega) hS 0 0 rfl rfl rfl (by omega) (by omega) dX6_listen_99 (fun H31 lo32 hP1 hz1 hk1 hS => ?_)
              have hsz : H31.size = t + 1 := by omega
              have hz : H.size ≤ H31.size := by omega
              have hO33 := zOb_kept hO11 (fun q h1 h2 h3 => (fun q _ h => hk1 q h) q h1 (by omega))
              have hQ34 := zQr_kept hQ12 (fun q h1 h2 h3 => (fun q _ h => hk1 q h) q h1 (by omega))
              have hF35 := zFm_kept hsp hF13 (fun q h1 h2 h3 => (fun q _ h => hk1 q h) q h1 (by omega))
              have hBp36 := zBw_kept hBp14 (fun q h1 h2 h3 => (fun q _ h => hk1 q h) q h1 (by omega))
              have hEp37 := zAr_kept hEp15 (fun q h1 h2 h3 => (fun q _ h => hk1 q h) q h1 (by omega))
              have hAn38 : va_P D vwCl (zAr cI t (c p - 1) (upd (zcp (zer (zdr e p k (c p - 1)) p) (fun _ => 0) i) i (nI (e (p * 4 + i))))) H31 := z_set zAr_c hAn16 0 rfl hP1 (fun q _ h => hk1 q h)
              refine lv_iinc (v := (nI (i + 1))) (lv' := [(6, .int (nI (i + 1))), (5, .ref t), (4, .int (nI k)), (3, .ref (B p)), (0, .ref o), (1, .int (nI p)), (2, .int (nI x))]) hx hb dX6_listen_100 hl (k := 0) rfl (nI_1 _) (by decide) rfl (fun ls hl => ?_)
              refine lv_goto (tgt := 37) hx hb dX6_listen_103 (by decide) ?_
              exact ih (i + 1) (by omega) (by omega) _ (rfl) _ _ (hO33) (hQ34) (hF35) (hBp36) (hEp37) (z_arr_ext hAn38 (fun j _ => zcp_v (zld_lo c86) j)) (by omega) hz hS _ (lv_sub hl [0, 1, 2, 3, 4, 5, 6] rfl)
          · have c51 := z_nle (a := 0) (b := k) c51 (by omega) (by omega)
            omega
    exact loop37 _ 0 (Nat.lt_succ_self _) (by omega) _ (rfl) _ _ hO4 hQ5 hF6 hBdm7 hEam8 (z_arr_ext hAr3 (fun j _ => rfl)) (hsz) hz hS _ (lv_sub hl [0, 1, 2, 3, 4, 5, 6] rfl)
  · have c21 := z_nle (a := 0) (b := k) c21 (by omega) (by omega)
    omega
