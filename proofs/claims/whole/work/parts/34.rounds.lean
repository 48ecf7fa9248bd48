set_option maxHeartbeats 4000000 in
set_option maxRecDepth 100000 in
/-- counted -/
theorem zcX5_counted (l : Launch) (D : va_G) (cI : ClassId) (H : Heap) (b : Nat) (tn : Int32) (n : Nat) (g : zG) (me : Nat → Int32) (lo : Nat → Int32) (c : Nat → Nat) (bf : Nat → Int32) (e : Nat → Nat) (rd : Int32) (tk : Int32) (q : Nat) (hM : va_P D vwCl (zMo cI b tn n (jf g me lo c) bf (zn e) (nm rd tk)) H) (hI : zI n me lo c e) (hq : q ≤ 5) : Met l yX5_counted wsX5_counted ({ frames := 2, cells := 0, slots := 0, locals := 43 } : Room) (zPc D [(cI, .int)] H [.ref b, .int (nI q)]) (zQ (some (.int (tj n (rd, tk, g) q))) H) 0 0 (fun _ => False) := by
  refine z_enter (cc := cX5_counted) (maxL := 6) (ret := (some .int)) (by decide) rfl (Nat.le_of_ble_eq_true rfl) ?_
  intro pg ev s m args below meth cd hfix hr hlocks hname hK hHs ls hl
  obtain ⟨hx, hb, hml, hown, hts⟩ := id hfix
  have hl : lv_has ls 6 [(0, .ref b), (1, .int (nI q))] := hl
  have hinX5 : ∀ w ∈ wsX50, w ∈ wsX5_counted := by decide +kernel
  have hn := zI_n hI
  refine lv_iconst (v := 0) hx hb dX5_counted_0 (by decide) ?_
  refine lv_istore_n (lv' := [(2, .int 0), (0, .ref b), (1, .int (nI q))]) hx hb dX5_counted_1 rfl hl (by decide) rfl (fun ls hl => ?_)
  refine lv_iload_n hx hb dX5_counted_2 rfl (lv_at hl 2 rfl) ?_
  have hsw : q = 0 ∨ q = 1 ∨ q = 2 ∨ q = 3 ∨ q = 4 ∨ q = 5 := by omega
  rcases hsw with hsw | hsw | hsw | hsw | hsw | hsw
  · refine lv_tableIn (x := nI q) (off := 33) (tgt := 36) hx hb dX5_counted_3 (by rw [hsw]; decide) (by rw [hsw]; decide) (by rw [hsw]; rfl) (by decide) ?_
    refine lv_aload_n hx hb dX5_counted_36 rfl (lv_at hl 1 rfl) ?_
    refine va_get (D := D) (ci := 5) (v := .ref (b + 4)) (C := RX5) (T := TX5) (N := 6) hx hb hts hinX5 hown hK hM 0 rfl rfl 5 (by decide) (hts _ (List.mem_of_getElem? (i := 1) rfl)) (fun _ h9 => h9) rfl dX5_counted_37 ?_
    refine lv_iconst (v := 0) hx hb dX5_counted_40 (by decide) ?_
    refine z_iald (a := (b + 4)) (n := 2) (f := (nm rd tk)) (j := 0) hx hb hK hM 4 0 rfl rfl rfl (by omega) (by omega) dX5_counted_41 ?_
    refine z_toi (y := rd) rfl ?_
    refine z_toi (y := (tj n (rd, tk, g) q)) (by rw [hsw]; rfl) ?_
    exact z_iret hx hb hr hlocks dX5_counted_42
  · refine lv_tableIn (x := nI q) (off := 40) (tgt := 43) hx hb dX5_counted_3 (by rw [hsw]; decide) (by rw [hsw]; decide) (by rw [hsw]; rfl) (by decide) ?_
    refine lv_aload_n hx hb dX5_counted_43 rfl (lv_at hl 1 rfl) ?_
    refine va_get (D := D) (ci := 5) (v := .int (nI n)) (C := RX5) (T := TX5) (N := 6) hx hb hts hinX5 hown hK hM 0 rfl rfl 1 (by decide) (hts _ (List.mem_of_getElem? (i := 2) rfl)) (fun _ h9 => h9) rfl dX5_counted_44 ?_
    refine z_toi (y := (tj n (rd, tk, g) q)) (by rw [hsw]; rfl) ?_
    exact z_iret hx hb hr hlocks dX5_counted_47
  · refine lv_tableIn (x := nI q) (off := 45) (tgt := 48) hx hb dX5_counted_3 (by rw [hsw]; decide) (by rw [hsw]; decide) (by rw [hsw]; rfl) (by decide) ?_
    refine lv_iconst (v := 0) hx hb dX5_counted_48 (by decide) ?_
    refine lv_istore_n (lv' := [(3, .int 0), (2, .int 0), (0, .ref b), (1, .int (nI q))]) hx hb dX5_counted_49 rfl hl (by decide) rfl (fun ls hl => ?_)
    have loop50 : ∀ (fu : Nat) (k : Nat), n - k < fu → (k ≤ n) → ∀ (x3 : Int32), x3 = (nI k) → ∀ (x2 : Int32), x2 = (nI (dw g k)) → ∀ ls : Array Slot, lv_has ls 6 [(3, .int x3), (2, .int x2), (0, .ref b), (1, .int (nI q))] → W pg l ev ({ frames := 2, cells := 0, slots := 0, locals := 43 } : Room) s m args below meth cd H [] 0 0 (MQ below (zQ (some (.int (tj n (rd, tk, g) q))) H) args s 0 0 (fun _ => False)) (F0 m 50 ls []) := by
      intro fu
      induction fu with
      | zero => intro k hfu; exact absurd hfu (Nat.not_lt_zero _)
      | succ fu ih50 =>
        intro k hfu hi50_0 x3 ex3 x2 ex2 ls hl
        subst ex3
        subst ex2
        refine lv_iload_n hx hb dX5_counted_50 rfl (lv_at hl 0 rfl) ?_
        refine lv_aload_n hx hb dX5_counted_51 rfl (lv_at hl 2 rfl) ?_
        refine va_get (D := D) (ci := 5) (v := .int (nI n)) (C := RX5) (T := TX5) (N := 6) hx hb hts hinX5 hown hK hM 0 rfl rfl 1 (by decide) (hts _ (List.mem_of_getElem? (i := 2) rfl)) (fun _ h9 => h9) rfl dX5_counted_52 ?_
        refine lv_icmp_ge (tgt := 121) hx hb dX5_counted_55 (by decide) (fun c55 => ?_) (fun c55 => ?_)
        · have c55 := z_le (a := n) (b := k) c55 (by omega) (by omega)
          refine lv_iload_n hx hb dX5_counted_121 rfl (lv_at hl 1 rfl) ?_
          refine z_toi (y := (tj n (rd, tk, g) q)) (by rw [hsw, show n = k by omega]; rfl) ?_
          exact z_iret hx hb hr hlocks dX5_counted_122
        · have c55 := z_nle (a := n) (b := k) c55 (by omega) (by omega)
          refine lv_iconst (v := 1) hx hb dX5_counted_58 (by decide) ?_
          refine lv_istore (lv' := [(4, .int 1), (3, .int (nI k)), (2, .int (nI (dw g k))), (0, .ref b), (1, .int (nI q))]) hx hb dX5_counted_59 hl (by decide) rfl (fun ls hl => ?_)
          refine lv_iconst (v := 0) hx hb dX5_counted_61 (by decide) ?_
          refine lv_istore (lv' := [(5, .int 0), (4, .int 1), (3, .int (nI k)), (2, .int (nI (dw g k))), (0, .ref b), (1, .int (nI q))]) hx hb dX5_counted_62 hl (by decide) rfl (fun ls hl => ?_)
          have loop64 : ∀ (fu : Nat) (j : Nat), k - j < fu → (j ≤ k) → ∀ (x5 : Int32), x5 = (nI j) → ∀ (x4 : Int32), x4 = (zb (nw g k j = true)) → ∀ ls : Array Slot, lv_has ls 6 [(5, .int x5), (4, .int x4), (3, .int (nI k)), (2, .int (nI (dw g k))), (0, .ref b), (1, .int (nI q))] → W pg l ev ({ frames := 2, cells := 0, slots := 0, locals := 43 } : Room) s m args below meth cd H [] 0 0 (MQ below (zQ (some (.int (tj n (rd, tk, g) q))) H) args s 0 0 (fun _ => False)) (F0 m 64 ls []) := by
            intro fu
            induction fu with
            | zero => intro j hfu; exact absurd hfu (Nat.not_lt_zero _)
            | succ fu ih64 =>
              intro j hfu hi64_0 x5 ex5 x4 ex4 ls hl
              subst ex5
              subst ex4
              refine lv_iload hx hb dX5_counted_64 (lv_at hl 0 rfl) ?_
              refine lv_iload_n hx hb dX5_counted_66 rfl (lv_at hl 2 rfl) ?_
              refine lv_icmp_ge (tgt := 102) hx hb dX5_counted_67 (by decide) (fun c67 => ?_) (fun c67 => ?_)
              · have c67 := z_le (a := k) (b := j) c67 (by omega) (by omega)
                refine lv_iload_n hx hb dX5_counted_102 rfl (lv_at hl 3 rfl) ?_
                refine lv_iload hx hb dX5_counted_103 (lv_at hl 1 rfl) ?_
                refine lv_if_eq (tgt := 112) hx hb dX5_counted_105 (by decide) (fun c105 => ?_) (fun c105 => ?_)
                · have c105 := zb_0 c105
                  refine lv_iconst (v := 0) hx hb dX5_counted_112 (by decide) ?_
                  refine lv_iadd hx hb dX5_counted_113 ?_
                  refine z_toi (y := nI (dw g k + 0)) (nI_add (dw g k) 0) ?_
                  refine lv_istore_n (lv' := [(2, .int (nI (dw g k + 0))), (5, .int (nI j)), (4, .int (zb (nw g k j = true))), (3, .int (nI k)), (0, .ref b), (1, .int (nI q))]) hx hb dX5_counted_114 rfl hl (by decide) rfl (fun ls hl => ?_)
                  refine lv_iinc (v := (nI (k + 1))) (lv' := [(3, .int (nI (k + 1))), (2, .int (nI (dw g k + 0))), (5, .int (nI j)), (4, .int (zb (nw g k j = true))), (0, .ref b), (1, .int (nI q))]) hx hb dX5_counted_115 hl (k := 3) rfl (nI_1 _) (by decide) rfl (fun ls hl => ?_)
                  refine lv_goto (tgt := 50) hx hb dX5_counted_118 (by decide) ?_
                  have c105 := c105
                  have hkk : nw g k j = nw g k k := by rw [show j = k by omega]
                  rw [hkk] at c105
                  exact ih50 (k + 1) (by omega) (by omega) _ (rfl) _ (by simp only [dw]; first | (rw [if_pos c105] <;> rfl) | (rw [if_neg c105] <;> rfl)) _ (lv_sub hl [0, 1, 4, 5] rfl)
                · have c105 := zb_1 c105
                  refine lv_iconst (v := 1) hx hb dX5_counted_108 (by decide) ?_
                  refine lv_goto (tgt := 113) hx hb dX5_counted_109 (by decide) ?_
                  refine lv_iadd hx hb dX5_counted_113 ?_
                  refine z_toi (y := nI (dw g k + 1)) (nI_add (dw g k) 1) ?_
                  refine lv_istore_n (lv' := [(2, .int (nI (dw g k + 1))), (5, .int (nI j)), (4, .int (zb (nw g k j = true))), (3, .int (nI k)), (0, .ref b), (1, .int (nI q))]) hx hb dX5_counted_114 rfl hl (by decide) rfl (fun ls hl => ?_)
                  refine lv_iinc (v := (nI (k + 1))) (lv' := [(3, .int (nI (k + 1))), (2, .int (nI (dw g k + 1))), (5, .int (nI j)), (4, .int (zb (nw g k j = true))), (0, .ref b), (1, .int (nI q))]) hx hb dX5_counted_115 hl (k := 3) rfl (nI_1 _) (by decide) rfl (fun ls hl => ?_)
                  refine lv_goto (tgt := 50) hx hb dX5_counted_118 (by decide) ?_
                  have c105 := c105
                  have hkk : nw g k j = nw g k k := by rw [show j = k by omega]
                  rw [hkk] at c105
                  exact ih50 (k + 1) (by omega) (by omega) _ (rfl) _ (by simp only [dw]; first | (rw [if_pos c105] <;> rfl) | (rw [if_neg c105] <;> rfl)) _ (lv_sub hl [0, 1, 4, 5] rfl)
              · have c67 := z_nle (a := k) (b := j) c67 (by omega) (by omega)
                refine lv_iload hx hb dX5_counted_70 (lv_at hl 1 rfl) ?_
                refine lv_if_eq (tgt := 93) hx hb dX5_counted_72 (by decide) (fun c72 => ?_) (fun c72 => ?_)
                · have c72 := zb_0 c72
                  refine lv_iconst (v := 0) hx hb dX5_counted_93 (by decide) ?_
                  refine lv_istore (lv' := [(4, .int 0), (5, .int (nI j)), (3, .int (nI k)), (2, .int (nI (dw g k))), (0, .ref b), (1, .int (nI q))]) hx hb dX5_counted_94 hl (by decide) rfl (fun ls hl => ?_)
                  refine lv_iinc (v := (nI (j + 1))) (lv' := [(5, .int (nI (j + 1))), (4, .int 0), (3, .int (nI k)), (2, .int (nI (dw g k))), (0, .ref b), (1, .int (nI q))]) hx hb dX5_counted_96 hl (k := 1) rfl (nI_1 _) (by decide) rfl (fun ls hl => ?_)
                  refine lv_goto (tgt := 64) hx hb dX5_counted_99 (by decide) ?_
                  exact ih64 (j + 1) (by omega) (by omega) _ (rfl) _ (zb_f (nw_f1 c72)) _ (lv_sub hl [0, 1, 2, 3, 4, 5] rfl)
                · have c72 := zb_1 c72
                  refine lv_aload_n hx hb dX5_counted_75 rfl (lv_at hl 4 rfl) ?_
                  refine lv_iload hx hb dX5_counted_76 (lv_at hl 0 rfl) ?_
                  refine z_ki (va_runV (As := [.int (nI j)]) (rest := []) hfix (zcX5_word l D cI H b tn n g me lo c bf e rd tk j hM (by omega)) (cwV 1 hts gX5_counted_X5_word rfl rfl rfl (by decide +kernel) ⟨Nat.le_of_ble_eq_true rfl, Nat.le_of_ble_eq_true rfl⟩) (z_preV hK hK hM (ci := 5) (q0 := 0) rfl rfl rfl) rfl rfl hl.1 rfl (lv_room (Nat.le_of_ble_eq_true rfl)) dX5_counted_78 ⟨by omega, by omega⟩) ?_
                  refine lv_aload_n hx hb dX5_counted_81 rfl (lv_at hl 4 rfl) ?_
                  refine lv_iload_n hx hb dX5_counted_82 rfl (lv_at hl 2 rfl) ?_
                  refine z_ki (va_runV (As := [.int (nI k)]) (rest := [.int (wd g j)]) hfix (zcX5_word l D cI H b tn n g me lo c bf e rd tk k hM (by omega)) (cwV 1 hts gX5_counted_X5_word rfl rfl rfl (by decide +kernel) ⟨Nat.le_of_ble_eq_true rfl, Nat.le_of_ble_eq_true rfl⟩) (z_preV hK hK hM (ci := 5) (q0 := 0) rfl rfl rfl) rfl rfl hl.1 rfl (lv_room (Nat.le_of_ble_eq_true rfl)) dX5_counted_83 ⟨by omega, by omega⟩) ?_
                  refine lv_icmp_eq (tgt := 93) hx hb dX5_counted_86 (by decide) (fun c86 => ?_) (fun c86 => ?_)
                  · refine lv_iconst (v := 0) hx hb dX5_counted_93 (by decide) ?_
                    refine lv_istore (lv' := [(4, .int 0), (5, .int (nI j)), (3, .int (nI k)), (2, .int (nI (dw g k))), (0, .ref b), (1, .int (nI q))]) hx hb dX5_counted_94 hl (by decide) rfl (fun ls hl => ?_)
                    refine lv_iinc (v := (nI (j + 1))) (lv' := [(5, .int (nI (j + 1))), (4, .int 0), (3, .int (nI k)), (2, .int (nI (dw g k))), (0, .ref b), (1, .int (nI q))]) hx hb dX5_counted_96 hl (k := 1) rfl (nI_1 _) (by decide) rfl (fun ls hl => ?_)
                    refine lv_goto (tgt := 64) hx hb dX5_counted_99 (by decide) ?_
                    exact ih64 (j + 1) (by omega) (by omega) _ (rfl) _ (zb_f (by rw [nw_F c86 (Nat.lt_succ_self _)]; decide)) _ (lv_sub hl [0, 1, 2, 3, 4, 5] rfl)
                  · refine lv_iconst (v := 1) hx hb dX5_counted_89 (by decide) ?_
                    refine lv_goto (tgt := 94) hx hb dX5_counted_90 (by decide) ?_
                    refine lv_istore (lv' := [(4, .int 1), (5, .int (nI j)), (3, .int (nI k)), (2, .int (nI (dw g k))), (0, .ref b), (1, .int (nI q))]) hx hb dX5_counted_94 hl (by decide) rfl (fun ls hl => ?_)
                    refine lv_iinc (v := (nI (j + 1))) (lv' := [(5, .int (nI (j + 1))), (4, .int 1), (3, .int (nI k)), (2, .int (nI (dw g k))), (0, .ref b), (1, .int (nI q))]) hx hb dX5_counted_96 hl (k := 1) rfl (nI_1 _) (by decide) rfl (fun ls hl => ?_)
                    refine lv_goto (tgt := 64) hx hb dX5_counted_99 (by decide) ?_
                    exact ih64 (j + 1) (by omega) (by omega) _ (rfl) _ (zb_t (nw_T c72 c86)) _ (lv_sub hl [0, 1, 2, 3, 4, 5] rfl)
          exact loop64 _ 0 (Nat.lt_succ_self _) (by omega) _ (rfl) _ (zb_t rfl) _ (lv_sub hl [0, 1, 2, 3, 4, 5] rfl)
    exact loop50 _ 0 (Nat.lt_succ_self _) (by omega) _ (rfl) _ (rfl) _ (lv_sub hl [0, 1, 2, 3] rfl)
  · refine lv_tableIn (x := nI q) (off := 120) (tgt := 123) hx hb dX5_counted_3 (by rw [hsw]; decide) (by rw [hsw]; decide) (by rw [hsw]; rfl) (by decide) ?_
    refine lv_iconst (v := 0) hx hb dX5_counted_123 (by decide) ?_
    refine lv_istore_n (lv' := [(3, .int 0), (2, .int 0), (0, .ref b), (1, .int (nI q))]) hx hb dX5_counted_124 rfl hl (by decide) rfl (fun ls hl => ?_)
    have loop125 : ∀ (fu : Nat) (k : Nat), n - k < fu → (k ≤ n) → ∀ (x3 : Int32), x3 = (nI k) → ∀ (x2 : Int32), x2 = (nI (ct g k)) → ∀ ls : Array Slot, lv_has ls 6 [(3, .int x3), (2, .int x2), (0, .ref b), (1, .int (nI q))] → W pg l ev ({ frames := 2, cells := 0, slots := 0, locals := 43 } : Room) s m args below meth cd H [] 0 0 (MQ below (zQ (some (.int (tj n (rd, tk, g) q))) H) args s 0 0 (fun _ => False)) (F0 m 125 ls []) := by
      intro fu
      induction fu with
      | zero => intro k hfu; exact absurd hfu (Nat.not_lt_zero _)
      | succ fu ih =>
        intro k hfu hi125_0 x3 ex3 x2 ex2 ls hl
        subst ex3
        subst ex2
        refine lv_iload_n hx hb dX5_counted_125 rfl (lv_at hl 0 rfl) ?_
        refine lv_aload_n hx hb dX5_counted_126 rfl (lv_at hl 2 rfl) ?_
        refine va_get (D := D) (ci := 5) (v := .int (nI n)) (C := RX5) (T := TX5) (N := 6) hx hb hts hinX5 hown hK hM 0 rfl rfl 1 (by decide) (hts _ (List.mem_of_getElem? (i := 2) rfl)) (fun _ h9 => h9) rfl dX5_counted_127 ?_
        refine lv_icmp_ge (tgt := 173) hx hb dX5_counted_130 (by decide) (fun c130 => ?_) (fun c130 => ?_)
        · have c130 := z_le (a := n) (b := k) c130 (by omega) (by omega)
          refine lv_iload_n hx hb dX5_counted_173 rfl (lv_at hl 1 rfl) ?_
          refine z_toi (y := (tj n (rd, tk, g) q)) (by rw [hsw, show n = k by omega]; rfl) ?_
          exact z_iret hx hb hr hlocks dX5_counted_174
        · have c130 := z_nle (a := n) (b := k) c130 (by omega) (by omega)
          refine lv_iload_n hx hb dX5_counted_133 rfl (lv_at hl 1 rfl) ?_
          refine lv_aload_n hx hb dX5_counted_134 rfl (lv_at hl 2 rfl) ?_
          refine lv_iload_n hx hb dX5_counted_135 rfl (lv_at hl 0 rfl) ?_
          refine lv_iconst (v := 2) hx hb dX5_counted_136 (by decide) ?_
          refine z_ki (va_runV (As := [.int (nI k), .int 2]) (rest := [.int (nI (ct g k))]) hfix (zcX5_ju l D cI H b tn n (jf g me lo c) bf (zn e) (nm rd tk) k 2 hM (by omega) (by omega)) (cwV 2 hts gX5_counted_X5_ju rfl rfl rfl (by decide +kernel) ⟨Nat.le_of_ble_eq_true rfl, Nat.le_of_ble_eq_true rfl⟩) (z_preV hK hK hM (ci := 5) (q0 := 0) rfl rfl rfl) rfl rfl hl.1 rfl (lv_room (Nat.le_of_ble_eq_true rfl)) dX5_counted_137 ⟨by omega, by omega⟩) ?_
          refine z_toi (y := (g 2 k)) (jf_g (by omega)) ?_
          refine lv_iconst (v := (-1)) hx hb dX5_counted_140 (by decide) ?_
          refine lv_icmp_ne (tgt := 148) hx hb dX5_counted_141 (by decide) (fun c141 => ?_) (fun c141 => ?_)
          · refine lv_iconst (v := 0) hx hb dX5_counted_148 (by decide) ?_
            refine lv_aload_n hx hb dX5_counted_149 rfl (lv_at hl 2 rfl) ?_
            refine lv_iload_n hx hb dX5_counted_150 rfl (lv_at hl 0 rfl) ?_
            refine lv_iconst (v := 3) hx hb dX5_counted_151 (by decide) ?_
            refine z_ki (va_runV (As := [.int (nI k), .int 3]) (rest := [.int 0, .int (nI (ct g k))]) hfix (zcX5_ju l D cI H b tn n (jf g me lo c) bf (zn e) (nm rd tk) k 3 hM (by omega) (by omega)) (cwV 2 hts gX5_counted_X5_ju rfl rfl rfl (by decide +kernel) ⟨Nat.le_of_ble_eq_true rfl, Nat.le_of_ble_eq_true rfl⟩) (z_preV hK hK hM (ci := 5) (q0 := 0) rfl rfl rfl) rfl rfl hl.1 rfl (lv_room (Nat.le_of_ble_eq_true rfl)) dX5_counted_152 ⟨by omega, by omega⟩) ?_
            refine z_toi (y := (g 3 k)) (jf_g (by omega)) ?_
            refine lv_iconst (v := (-1)) hx hb dX5_counted_155 (by decide) ?_
            refine lv_icmp_ne (tgt := 163) hx hb dX5_counted_156 (by decide) (fun c156 => ?_) (fun c156 => ?_)
            · refine lv_iconst (v := 0) hx hb dX5_counted_163 (by decide) ?_
              refine lv_iadd hx hb dX5_counted_164 ?_
              refine z_toi (y := nI (0 + 0)) (nI_add 0 0) ?_
              refine lv_iadd hx hb dX5_counted_165 ?_
              refine z_toi (y := nI (ct g k + (0 + 0))) (nI_add (ct g k) (0 + 0)) ?_
              refine lv_istore_n (lv' := [(2, .int (nI (ct g k + (0 + 0)))), (3, .int (nI k)), (0, .ref b), (1, .int (nI q))]) hx hb dX5_counted_166 rfl hl (by decide) rfl (fun ls hl => ?_)
              refine lv_iinc (v := (nI (k + 1))) (lv' := [(3, .int (nI (k + 1))), (2, .int (nI (ct g k + (0 + 0)))), (0, .ref b), (1, .int (nI q))]) hx hb dX5_counted_167 hl (k := 1) rfl (nI_1 _) (by decide) rfl (fun ls hl => ?_)
              refine lv_goto (tgt := 125) hx hb dX5_counted_170 (by decide) ?_
              exact ih (k + 1) (by omega) (by omega) _ (rfl) _ (by first | (rw [ct_11 c141 c156] <;> rfl) | (rw [ct_10 c141 c156] <;> rfl) | (rw [ct_01 c141 c156] <;> rfl) | (rw [ct_00 c141 c156] <;> rfl)) _ (lv_sub hl [0, 1, 2, 3] rfl)
            · refine lv_iconst (v := 1) hx hb dX5_counted_159 (by decide) ?_
              refine lv_goto (tgt := 164) hx hb dX5_counted_160 (by decide) ?_
              refine lv_iadd hx hb dX5_counted_164 ?_
              refine z_toi (y := nI (0 + 1)) (nI_add 0 1) ?_
              refine lv_iadd hx hb dX5_counted_165 ?_
              refine z_toi (y := nI (ct g k + (0 + 1))) (nI_add (ct g k) (0 + 1)) ?_
              refine lv_istore_n (lv' := [(2, .int (nI (ct g k + (0 + 1)))), (3, .int (nI k)), (0, .ref b), (1, .int (nI q))]) hx hb dX5_counted_166 rfl hl (by decide) rfl (fun ls hl => ?_)
              refine lv_iinc (v := (nI (k + 1))) (lv' := [(3, .int (nI (k + 1))), (2, .int (nI (ct g k + (0 + 1)))), (0, .ref b), (1, .int (nI q))]) hx hb dX5_counted_167 hl (k := 1) rfl (nI_1 _) (by decide) rfl (fun ls hl => ?_)
              refine lv_goto (tgt := 125) hx hb dX5_counted_170 (by decide) ?_
              exact ih (k + 1) (by omega) (by omega) _ (rfl) _ (by first | (rw [ct_11 c141 c156] <;> rfl) | (rw [ct_10 c141 c156] <;> rfl) | (rw [ct_01 c141 c156] <;> rfl) | (rw [ct_00 c141 c156] <;> rfl)) _ (lv_sub hl [0, 1, 2, 3] rfl)
          · refine lv_iconst (v := 1) hx hb dX5_counted_144 (by decide) ?_
            refine lv_goto (tgt := 149) hx hb dX5_counted_145 (by decide) ?_
            refine lv_aload_n hx hb dX5_counted_149 rfl (lv_at hl 2 rfl) ?_
            refine lv_iload_n hx hb dX5_counted_150 rfl (lv_at hl 0 rfl) ?_
            refine lv_iconst (v := 3) hx hb dX5_counted_151 (by decide) ?_
            refine z_ki (va_runV (As := [.int (nI k), .int 3]) (rest := [.int 1, .int (nI (ct g k))]) hfix (zcX5_ju l D cI H b tn n (jf g me lo c) bf (zn e) (nm rd tk) k 3 hM (by omega) (by omega)) (cwV 2 hts gX5_counted_X5_ju rfl rfl rfl (by decide +kernel) ⟨Nat.le_of_ble_eq_true rfl, Nat.le_of_ble_eq_true rfl⟩) (z_preV hK hK hM (ci := 5) (q0 := 0) rfl rfl rfl) rfl rfl hl.1 rfl (lv_room (Nat.le_of_ble_eq_true rfl)) dX5_counted_152 ⟨by omega, by omega⟩) ?_
            refine z_toi (y := (g 3 k)) (jf_g (by omega)) ?_
            refine lv_iconst (v := (-1)) hx hb dX5_counted_155 (by decide) ?_
            refine lv_icmp_ne (tgt := 163) hx hb dX5_counted_156 (by decide) (fun c156 => ?_) (fun c156 => ?_)
            · refine lv_iconst (v := 0) hx hb dX5_counted_163 (by decide) ?_
              refine lv_iadd hx hb dX5_counted_164 ?_
              refine z_toi (y := nI (1 + 0)) (nI_add 1 0) ?_
              refine lv_iadd hx hb dX5_counted_165 ?_
              refine z_toi (y := nI (ct g k + (1 + 0))) (nI_add (ct g k) (1 + 0)) ?_
              refine lv_istore_n (lv' := [(2, .int (nI (ct g k + (1 + 0)))), (3, .int (nI k)), (0, .ref b), (1, .int (nI q))]) hx hb dX5_counted_166 rfl hl (by decide) rfl (fun ls hl => ?_)
              refine lv_iinc (v := (nI (k + 1))) (lv' := [(3, .int (nI (k + 1))), (2, .int (nI (ct g k + (1 + 0)))), (0, .ref b), (1, .int (nI q))]) hx hb dX5_counted_167 hl (k := 1) rfl (nI_1 _) (by decide) rfl (fun ls hl => ?_)
              refine lv_goto (tgt := 125) hx hb dX5_counted_170 (by decide) ?_
              exact ih (k + 1) (by omega) (by omega) _ (rfl) _ (by first | (rw [ct_11 c141 c156] <;> rfl) | (rw [ct_10 c141 c156] <;> rfl) | (rw [ct_01 c141 c156] <;> rfl) | (rw [ct_00 c141 c156] <;> rfl)) _ (lv_sub hl [0, 1, 2, 3] rfl)
            · refine lv_iconst (v := 1) hx hb dX5_counted_159 (by decide) ?_
              refine lv_goto (tgt := 164) hx hb dX5_counted_160 (by decide) ?_
              refine lv_iadd hx hb dX5_counted_164 ?_
              refine z_toi (y := nI (1 + 1)) (nI_add 1 1) ?_
              refine lv_iadd hx hb dX5_counted_165 ?_
              refine z_toi (y := nI (ct g k + (1 + 1))) (nI_add (ct g k) (1 + 1)) ?_
              refine lv_istore_n (lv' := [(2, .int (nI (ct g k + (1 + 1)))), (3, .int (nI k)), (0, .ref b), (1, .int (nI q))]) hx hb dX5_counted_166 rfl hl (by decide) rfl (fun ls hl => ?_)
              refine lv_iinc (v := (nI (k + 1))) (lv' := [(3, .int (nI (k + 1))), (2, .int (nI (ct g k + (1 + 1)))), (0, .ref b), (1, .int (nI q))]) hx hb dX5_counted_167 hl (k := 1) rfl (nI_1 _) (by decide) rfl (fun ls hl => ?_)
              refine lv_goto (tgt := 125) hx hb dX5_counted_170 (by decide) ?_
              exact ih (k + 1) (by omega) (by omega) _ (rfl) _ (by first | (rw [ct_11 c141 c156] <;> rfl) | (rw [ct_10 c141 c156] <;> rfl) | (rw [ct_01 c141 c156] <;> rfl) | (rw [ct_00 c141 c156] <;> rfl)) _ (lv_sub hl [0, 1, 2, 3] rfl)
    exact loop125 _ 0 (Nat.lt_succ_self _) (by omega) _ (rfl) _ (rfl) _ (lv_sub hl [0, 1, 2, 3] rfl)
  · refine lv_tableIn (x := nI q) (off := 172) (tgt := 175) hx hb dX5_counted_3 (by rw [hsw]; decide) (by rw [hsw]; decide) (by rw [hsw]; rfl) (by decide) ?_
    refine lv_iconst (v := 0) hx hb dX5_counted_175 (by decide) ?_
    refine lv_istore_n (lv' := [(3, .int 0), (2, .int 0), (0, .ref b), (1, .int (nI q))]) hx hb dX5_counted_176 rfl hl (by decide) rfl (fun ls hl => ?_)
    have loop177 : ∀ (fu : Nat) (k : Nat), n - k < fu → (k ≤ n) → ∀ (x3 : Int32), x3 = (nI k) → ∀ (x2 : Int32), x2 = (su g k) → ∀ ls : Array Slot, lv_has ls 6 [(3, .int x3), (2, .int x2), (0, .ref b), (1, .int (nI q))] → W pg l ev ({ frames := 2, cells := 0, slots := 0, locals := 43 } : Room) s m args below meth cd H [] 0 0 (MQ below (zQ (some (.int (tj n (rd, tk, g) q))) H) args s 0 0 (fun _ => False)) (F0 m 177 ls []) := by
      intro fu
      induction fu with
      | zero => intro k hfu; exact absurd hfu (Nat.not_lt_zero _)
      | succ fu ih =>
        intro k hfu hi177_0 x3 ex3 x2 ex2 ls hl
        subst ex3
        subst ex2
        refine lv_iload_n hx hb dX5_counted_177 rfl (lv_at hl 0 rfl) ?_
        refine lv_aload_n hx hb dX5_counted_178 rfl (lv_at hl 2 rfl) ?_
        refine va_get (D := D) (ci := 5) (v := .int (nI n)) (C := RX5) (T := TX5) (N := 6) hx hb hts hinX5 hown hK hM 0 rfl rfl 1 (by decide) (hts _ (List.mem_of_getElem? (i := 2) rfl)) (fun _ h9 => h9) rfl dX5_counted_179 ?_
        refine lv_icmp_ge (tgt := 201) hx hb dX5_counted_182 (by decide) (fun c182 => ?_) (fun c182 => ?_)
        · have c182 := z_le (a := n) (b := k) c182 (by omega) (by omega)
          refine lv_iload_n hx hb dX5_counted_201 rfl (lv_at hl 1 rfl) ?_
          refine z_toi (y := (tj n (rd, tk, g) q)) (by rw [hsw, show n = k by omega]; rfl) ?_
          exact z_iret hx hb hr hlocks dX5_counted_202
        · have c182 := z_nle (a := n) (b := k) c182 (by omega) (by omega)
          refine lv_iload_n hx hb dX5_counted_185 rfl (lv_at hl 1 rfl) ?_
          refine lv_aload_n hx hb dX5_counted_186 rfl (lv_at hl 2 rfl) ?_
          refine lv_iload_n hx hb dX5_counted_187 rfl (lv_at hl 0 rfl) ?_
          refine lv_bipush (v := 6) hx hb dX5_counted_188 (by decide) ?_
          refine z_ki (va_runV (As := [.int (nI k), .int 6]) (rest := [.int (su g k)]) hfix (zcX5_ju l D cI H b tn n (jf g me lo c) bf (zn e) (nm rd tk) k 6 hM (by omega) (by omega)) (cwV 2 hts gX5_counted_X5_ju rfl rfl rfl (by decide +kernel) ⟨Nat.le_of_ble_eq_true rfl, Nat.le_of_ble_eq_true rfl⟩) (z_preV hK hK hM (ci := 5) (q0 := 0) rfl rfl rfl) rfl rfl hl.1 rfl (lv_room (Nat.le_of_ble_eq_true rfl)) dX5_counted_190 ⟨by omega, by omega⟩) ?_
          refine z_toi (y := (g 6 k)) (jf_g (by omega)) ?_
          refine lv_iadd hx hb dX5_counted_193 ?_
          refine lv_istore_n (lv' := [(2, .int ((su g k) + (g 6 k))), (3, .int (nI k)), (0, .ref b), (1, .int (nI q))]) hx hb dX5_counted_194 rfl hl (by decide) rfl (fun ls hl => ?_)
          refine lv_iinc (v := (nI (k + 1))) (lv' := [(3, .int (nI (k + 1))), (2, .int ((su g k) + (g 6 k))), (0, .ref b), (1, .int (nI q))]) hx hb dX5_counted_195 hl (k := 1) rfl (nI_1 _) (by decide) rfl (fun ls hl => ?_)
          refine lv_goto (tgt := 177) hx hb dX5_counted_198 (by decide) ?_
          exact ih (k + 1) (by omega) (by omega) _ (rfl) _ (rfl) _ (lv_sub hl [0, 1, 2, 3] rfl)
    exact loop177 _ 0 (Nat.lt_succ_self _) (by omega) _ (rfl) _ (rfl) _ (lv_sub hl [0, 1, 2, 3] rfl)
  · refine lv_tableOut (x := nI q) (tgt := 203) hx hb dX5_counted_3 (by rw [hsw]; decide) (by decide) ?_
    refine lv_aload_n hx hb dX5_counted_203 rfl (lv_at hl 1 rfl) ?_
    refine va_get (D := D) (ci := 5) (v := .ref (b + 4)) (C := RX5) (T := TX5) (N := 6) hx hb hts hinX5 hown hK hM 0 rfl rfl 5 (by decide) (hts _ (List.mem_of_getElem? (i := 1) rfl)) (fun _ h9 => h9) rfl dX5_counted_204 ?_
    refine lv_iconst (v := 1) hx hb dX5_counted_207 (by decide) ?_
    refine z_iald (a := (b + 4)) (n := 2) (f := (nm rd tk)) (j := 1) hx hb hK hM 4 0 rfl rfl rfl (by omega) (by omega) dX5_counted_208 ?_
    refine z_toi (y := tk) rfl ?_
    refine z_toi (y := (tj n (rd, tk, g) q)) (by rw [hsw]; rfl) ?_
    exact z_iret hx hb hr hlocks dX5_counted_209
set_option maxHeartbeats 4000000 in
set_option maxRecDepth 100000 in
/-- takes -/
theorem zcX5_takes (l : Launch) (D : va_G) (cI : ClassId) (H : Heap) (b : Nat) (tn : Int32) (n : Nat) (g : zG) (me : Nat → Int32) (lo : Nat → Int32) (c : Nat → Nat) (g0 : zG) (e : Nat → Nat) (rd : Int32) (tk : Int32) (p : Nat) (hM : va_P D vwCl (zMo cI b tn n (jf g me lo c) (jf g0 me lo c) (zn e) (nm rd tk)) H) (hI : zI n me lo c e) (hZ : zJ n g0) (hp : p < n) : Met l yX5_takes wsX5_takes ({ frames := 2, cells := 0, slots := 0, locals := 45 } : Room) (zPc D [(cI, .int)] H [.ref b, .int (nI p)]) (zM (fun H1 => va_P D vwCl (zMo cI b tn n (jf (stG lo c e g0 p g) me lo c) (jf g0 me lo c) (zn e) (nm rd tk)) H1 ∧ H1.size = H.size) (some (.int (zb (tkn lo c e g0 p = true)))) (zF b (b + 5))) 0 0 (zF b (b + 5)) := by
  refine z_enter (cc := cX5_takes) (maxL := 4) (ret := (some .boolean)) (by decide) rfl (Nat.le_of_ble_eq_true rfl) ?_
  intro pg ev s m args below meth cd hfix hr hlocks hname hK hHs ls hl
  obtain ⟨hx, hb, hml, hown, hts⟩ := id hfix
  have hl : lv_has ls 4 [(0, .ref b), (1, .int (nI p))] := hl
  have hS : va_S (zF b (b + 5)) s.heap H [] := by rw [hHs]; exact va_S.rf
  have hz : H.size = H.size := rfl
  have hn := zI_n hI
  refine lv_aload_n hx hb dX5_takes_0 rfl (lv_at hl 0 rfl) ?_
  refine lv_iload_n hx hb dX5_takes_1 rfl (lv_at hl 1 rfl) ?_
  refine z_ki (va_runV (As := [.int (nI p)]) (rest := []) hfix (zcX5_heard l D cI H b tn n g me lo c (jf g0 me lo c) e rd tk p hM hI (by omega)) (cwV 1 hts gX5_takes_X5_heard rfl rfl rfl (by decide +kernel) ⟨Nat.le_of_ble_eq_true rfl, Nat.le_of_ble_eq_true rfl⟩) (z_preV hK hK hM (ci := 5) (q0 := 0) rfl rfl rfl) rfl rfl hl.1 rfl (lv_room (Nat.le_of_ble_eq_true rfl)) dX5_takes_2 ⟨by omega, by omega⟩) ?_
  refine lv_istore_n (lv' := [(2, .int (zo (hd lo e p (c p)))), (0, .ref b), (1, .int (nI p))]) hx hb dX5_takes_5 rfl hl (by decide) rfl (fun ls hl => ?_)
  refine lv_iload_n hx hb dX5_takes_6 rfl (lv_at hl 0 rfl) ?_
  refine lv_iconst (v := (-1)) hx hb dX5_takes_7 (by decide) ?_
  refine lv_icmp_ne (tgt := 13) hx hb dX5_takes_8 (by decide) (fun c8 => ?_) (fun c8 => ?_)
  · have c8 := fun h => c8 ((zo_m1 (fun q hq => by have h1 := zI_hd hI hq; omega)).mpr h)
    obtain ⟨o, hho⟩ : ∃ o, hd lo e p (c p) = some o := Option.ne_none_iff_exists'.mp c8
    have ho := zI_hd hI hho
    have hl : lv_has ls 4 [(2, .int (nI o)), (0, .ref b), (1, .int (nI p))] := by rw [hho] at hl; exact hl
    refine lv_aload_n hx hb dX5_takes_13 rfl (lv_at hl 1 rfl) ?_
    refine lv_iload_n hx hb dX5_takes_14 rfl (lv_at hl 2 rfl) ?_
    refine lv_iconst (v := 0) hx hb dX5_takes_15 (by decide) ?_
    refine z_ki (va_runV (As := [.int (nI p), .int 0]) (rest := []) hfix (zcX5_be l D cI H b tn n (jf g me lo c) (jf g0 me lo c) (zn e) (nm rd tk) p 0 hM (by omega) (by omega)) (cwV 2 hts gX5_takes_X5_be rfl rfl rfl (by decide +kernel) ⟨Nat.le_of_ble_eq_true rfl, Nat.le_of_ble_eq_true rfl⟩) (z_preV hK hK hM (ci := 5) (q0 := 0) rfl rfl rfl) rfl rfl hl.1 rfl (lv_room (Nat.le_of_ble_eq_true rfl)) dX5_takes_16 ⟨by omega, by omega⟩) ?_
    refine z_toi (y := (g0 0 p)) (jf_g (by omega)) ?_
    refine lv_aload_n hx hb dX5_takes_19 rfl (lv_at hl 1 rfl) ?_
    refine lv_iload_n hx hb dX5_takes_20 rfl (lv_at hl 0 rfl) ?_
    refine lv_iconst (v := 0) hx hb dX5_takes_21 (by decide) ?_
    refine z_ki (va_runV (As := [.int (nI o), .int 0]) (rest := [.int (g0 0 p)]) hfix (zcX5_be l D cI H b tn n (jf g me lo c) (jf g0 me lo c) (zn e) (nm rd tk) o 0 hM (by omega) (by omega)) (cwV 2 hts gX5_takes_X5_be rfl rfl rfl (by decide +kernel) ⟨Nat.le_of_ble_eq_true rfl, Nat.le_of_ble_eq_true rfl⟩) (z_preV hK hK hM (ci := 5) (q0 := 0) rfl rfl rfl) rfl rfl hl.1 rfl (lv_room (Nat.le_of_ble_eq_true rfl)) dX5_takes_22 ⟨by omega, by omega⟩) ?_
    refine z_toi (y := (g0 0 o)) (jf_g (by omega)) ?_
    refine lv_icmp_ne (tgt := 66) hx hb dX5_takes_25 (by decide) (fun c25 => ?_) (fun c25 => ?_)
    · have hw : ¬ wd g0 p = wd g0 o := fun h => c25 ((wd_eq hZ hp ho).mp h).1
      refine lv_aload_n hx hb dX5_takes_66 rfl (lv_at hl 1 rfl) ?_
      refine lv_iload_n hx hb dX5_takes_67 rfl (lv_at hl 2 rfl) ?_
      refine lv_bipush (v := 6) hx hb dX5_takes_68 (by decide) ?_
      refine z_ki (va_runV (As := [.int (nI p), .int 6]) (rest := []) hfix (zcX5_be l D cI H b tn n (jf g me lo c) (jf g0 me lo c) (zn e) (nm rd tk) p 6 hM (by omega) (by omega)) (cwV 2 hts gX5_takes_X5_be rfl rfl rfl (by decide +kernel) ⟨Nat.le_of_ble_eq_true rfl, Nat.le_of_ble_eq_true rfl⟩) (z_preV hK hK hM (ci := 5) (q0 := 0) rfl rfl rfl) rfl rfl hl.1 rfl (lv_room (Nat.le_of_ble_eq_true rfl)) dX5_takes_70 ⟨by omega, by omega⟩) ?_
      refine z_toi (y := (g0 6 p)) (jf_g (by omega)) ?_
      refine lv_aload_n hx hb dX5_takes_73 rfl (lv_at hl 1 rfl) ?_
      refine lv_iload_n hx hb dX5_takes_74 rfl (lv_at hl 0 rfl) ?_
      refine lv_bipush (v := 6) hx hb dX5_takes_75 (by decide) ?_
      refine z_ki (va_runV (As := [.int (nI o), .int 6]) (rest := [.int (g0 6 p)]) hfix (zcX5_be l D cI H b tn n (jf g me lo c) (jf g0 me lo c) (zn e) (nm rd tk) o 6 hM (by omega) (by omega)) (cwV 2 hts gX5_takes_X5_be rfl rfl rfl (by decide +kernel) ⟨Nat.le_of_ble_eq_true rfl, Nat.le_of_ble_eq_true rfl⟩) (z_preV hK hK hM (ci := 5) (q0 := 0) rfl rfl rfl) rfl rfl hl.1 rfl (lv_room (Nat.le_of_ble_eq_true rfl)) dX5_takes_77 ⟨by omega, by omega⟩) ?_
      refine z_toi (y := (g0 6 o)) (jf_g (by omega)) ?_
      refine lv_icmp_le (tgt := 101) hx hb dX5_takes_80 (by decide) (fun c80 => ?_) (fun c80 => ?_)
      · refine lv_iload_n hx hb dX5_takes_101 rfl (lv_at hl 2 rfl) ?_
        refine lv_iconst (v := 2) hx hb dX5_takes_102 (by decide) ?_
        refine lv_irem hx hb dX5_takes_103 (by decide) ?_
        refine z_toi (y := zrem (nI p) 2) rfl ?_
        refine z_toi (y := nI (p % 2)) (pk_rem (by omega) (by decide) (by decide)) ?_
        refine lv_istore_n (lv' := [(3, .int (nI (p % 2))), (2, .int (nI o)), (0, .ref b), (1, .int (nI p))]) hx hb dX5_takes_104 rfl hl (by decide) rfl (fun ls hl => ?_)
        refine lv_aload_n hx hb dX5_takes_105 rfl (lv_at hl 2 rfl) ?_
        refine lv_iload_n hx hb dX5_takes_106 rfl (lv_at hl 3 rfl) ?_
        refine lv_iload_n hx hb dX5_takes_107 rfl (lv_at hl 0 rfl) ?_
        refine lv_aload_n hx hb dX5_takes_108 rfl (lv_at hl 2 rfl) ?_
        refine lv_iload_n hx hb dX5_takes_109 rfl (lv_at hl 1 rfl) ?_
        refine lv_iload_n hx hb dX5_takes_110 rfl (lv_at hl 0 rfl) ?_
        refine z_ki (va_runV (As := [.int (nI o), .int (nI (p % 2))]) (rest := [.int (nI (p % 2)), .int (nI p), .ref b]) hfix (zcX5_be l D cI H b tn n (jf g me lo c) (jf g0 me lo c) (zn e) (nm rd tk) o (p % 2) hM (by omega) (by omega)) (cwV 2 hts gX5_takes_X5_be rfl rfl rfl (by decide +kernel) ⟨Nat.le_of_ble_eq_true rfl, Nat.le_of_ble_eq_true rfl⟩) (z_preV hK hK hM (ci := 5) (q0 := 0) rfl rfl rfl) rfl rfl hl.1 rfl (lv_room (Nat.le_of_ble_eq_true rfl)) dX5_takes_111 ⟨by omega, by omega⟩) ?_
        refine z_toi (y := (g0 (p % 2) o)) (jf_g (by omega)) ?_
        refine z_mv (va_runV (As := [.int (nI p), .int (nI (p % 2)), .int (g0 (p % 2) o)]) (rest := []) hfix (zcX5_put l D cI H b tn n (jf g me lo c) (jf g0 me lo c) (zn e) (nm rd tk) p (p % 2) (g0 (p % 2) o) hM (by omega) (by omega)) (cwV 3 hts gX5_takes_X5_put rfl rfl rfl (by decide +kernel) ⟨Nat.le_of_ble_eq_true rfl, Nat.le_of_ble_eq_true rfl⟩) (z_preV hK hK hM (ci := 5) (q0 := 0) rfl rfl rfl) rfl rfl hl.1 rfl (lv_room (Nat.le_of_ble_eq_true rfl)) dX5_takes_114 ⟨by omega, by omega⟩) hS (fun q _ h => by simp only [zF] at h ⊢; omega) (fun q h => by simp only [zF] at h ⊢; omega) (fun H1 lo2 hB hz1 hk1 hS => ?_)
        have hB1 := hB.1
        rw [jf_z2 (show p % 2 < 7 by omega)] at hB1
        have hz : H1.size = H.size := (hB.2).trans hz
        have hM3 : va_P D vwCl (zMo cI b tn n (jf (z2 g (p % 2) p (g0 (p % 2) o)) me lo c) (jf g0 me lo c) (zn e) (nm rd tk)) H1 := hB1
        refine lv_aload_n hx hb dX5_takes_117 rfl (lv_at hl 2 rfl) ?_
        refine lv_iload_n hx hb dX5_takes_118 rfl (lv_at hl 3 rfl) ?_
        refine lv_iconst (v := 2) hx hb dX5_takes_119 (by decide) ?_
        refine lv_iload_n hx hb dX5_takes_120 rfl (lv_at hl 0 rfl) ?_
        refine lv_iadd hx hb dX5_takes_121 ?_
        refine z_toi (y := nI (2 + (p % 2))) (nI_add 2 (p % 2)) ?_
        refine lv_iload_n hx hb dX5_takes_122 rfl (lv_at hl 1 rfl) ?_
        refine z_mv (va_runV (As := [.int (nI p), .int (nI (2 + (p % 2))), .int (nI o)]) (rest := []) hfix (zcX5_put l D cI H1 b tn n (jf (z2 g (p % 2) p (g0 (p % 2) o)) me lo c) (jf g0 me lo c) (zn e) (nm rd tk) p (2 + (p % 2)) (nI o) hM3 (by omega) (by omega)) (cwV 3 hts gX5_takes_X5_put rfl rfl rfl (by decide +kernel) ⟨Nat.le_of_ble_eq_true rfl, Nat.le_of_ble_eq_true rfl⟩) (z_preV hK hK hM3 (ci := 5) (q0 := 0) rfl rfl rfl) rfl rfl hl.1 rfl (lv_room (Nat.le_of_ble_eq_true rfl)) dX5_takes_123 ⟨by omega, by omega⟩) hS (fun q _ h => by simp only [zF] at h ⊢; omega) (fun q h => by simp only [zF] at h ⊢; omega) (fun H4 lo5 hB hz1 hk1 hS => ?_)
        have hB1 := hB.1
        rw [jf_z2 (show 2 + (p % 2) < 7 by omega)] at hB1
        have hz : H4.size = H.size := (hB.2).trans hz
        have hM6 : va_P D vwCl (zMo cI b tn n (jf (z2 (z2 g (p % 2) p (g0 (p % 2) o)) (2 + (p % 2)) p (nI o)) me lo c) (jf g0 me lo c) (zn e) (nm rd tk)) H4 := hB1
        refine lv_aload_n hx hb dX5_takes_126 rfl (lv_at hl 2 rfl) ?_
        refine lv_iload_n hx hb dX5_takes_127 rfl (lv_at hl 3 rfl) ?_
        refine lv_iconst (v := 4) hx hb dX5_takes_128 (by decide) ?_
        refine lv_iload_n hx hb dX5_takes_129 rfl (lv_at hl 0 rfl) ?_
        refine lv_iadd hx hb dX5_takes_130 ?_
        refine z_toi (y := nI (4 + (p % 2))) (nI_add 4 (p % 2)) ?_
        refine lv_bipush (v := 99) hx hb dX5_takes_131 (by decide) ?_
        refine lv_aload_n hx hb dX5_takes_133 rfl (lv_at hl 2 rfl) ?_
        refine lv_iload_n hx hb dX5_takes_134 rfl (lv_at hl 1 rfl) ?_
        refine lv_iconst (v := 4) hx hb dX5_takes_135 (by decide) ?_
        refine lv_iload_n hx hb dX5_takes_136 rfl (lv_at hl 0 rfl) ?_
        refine lv_iadd hx hb dX5_takes_137 ?_
        refine z_toi (y := nI (4 + (p % 2))) (nI_add 4 (p % 2)) ?_
        refine z_ki (va_runV (As := [.int (nI o), .int (nI (4 + (p % 2)))]) (rest := [.int 99, .int (nI (4 + (p % 2))), .int (nI p), .ref b]) hfix (zcX5_be l D cI H4 b tn n (jf (z2 (z2 g (p % 2) p (g0 (p % 2) o)) (2 + (p % 2)) p (nI o)) me lo c) (jf g0 me lo c) (zn e) (nm rd tk) o (4 + (p % 2)) hM6 (by omega) (by omega)) (cwV 2 hts gX5_takes_X5_be rfl rfl rfl (by decide +kernel) ⟨Nat.le_of_ble_eq_true rfl, Nat.le_of_ble_eq_true rfl⟩) (z_preV hK hK hM6 (ci := 5) (q0 := 0) rfl rfl rfl) rfl rfl hl.1 rfl (lv_room (Nat.le_of_ble_eq_true rfl)) dX5_takes_138 ⟨by omega, by omega⟩) ?_
        refine z_toi (y := (g0 (4 + (p % 2)) o)) (jf_g (by omega)) ?_
        refine lv_iconst (v := 1) hx hb dX5_takes_141 (by decide) ?_
        refine lv_iadd hx hb dX5_takes_142 ?_
        refine va_mmin hx hb (by rw [hml]; exact hl.1.symm) hown (hts _ (List.mem_of_getElem? (i := 1) rfl)) (hts _ (List.mem_of_getElem? (i := 2) rfl)) (hts _ (List.mem_of_getElem? (i := 3) rfl)) (hts _ (List.mem_of_getElem? (i := 4) rfl)) (Nat.le_of_ble_eq_true rfl) (Nat.le_of_ble_eq_true rfl) (by omega) (by omega) dX5_takes_143 ?_
        refine z_toi (y := zmin 99 ((g0 (4 + (p % 2)) o) + 1)) rfl ?_
        refine z_mv (va_runV (As := [.int (nI p), .int (nI (4 + (p % 2))), .int (zmin 99 ((g0 (4 + (p % 2)) o) + 1))]) (rest := []) hfix (zcX5_put l D cI H4 b tn n (jf (z2 (z2 g (p % 2) p (g0 (p % 2) o)) (2 + (p % 2)) p (nI o)) me lo c) (jf g0 me lo c) (zn e) (nm rd tk) p (4 + (p % 2)) (zmin 99 ((g0 (4 + (p % 2)) o) + 1)) hM6 (by omega) (by omega)) (cwV 3 hts gX5_takes_X5_put rfl rfl rfl (by decide +kernel) ⟨Nat.le_of_ble_eq_true rfl, Nat.le_of_ble_eq_true rfl⟩) (z_preV hK hK hM6 (ci := 5) (q0 := 0) rfl rfl rfl) rfl rfl hl.1 rfl (lv_room (Nat.le_of_ble_eq_true rfl)) dX5_takes_146 ⟨by omega, by omega⟩) hS (fun q _ h => by simp only [zF] at h ⊢; omega) (fun q h => by simp only [zF] at h ⊢; omega) (fun H7 lo8 hB hz1 hk1 hS => ?_)
        have hB1 := hB.1
        rw [jf_z2 (show 4 + (p % 2) < 7 by omega)] at hB1
        have hz : H7.size = H.size := (hB.2).trans hz
        have hM9 : va_P D vwCl (zMo cI b tn n (jf (z2 (z2 (z2 g (p % 2) p (g0 (p % 2) o)) (2 + (p % 2)) p (nI o)) (4 + (p % 2)) p (zmin 99 ((g0 (4 + (p % 2)) o) + 1))) me lo c) (jf g0 me lo c) (zn e) (nm rd tk)) H7 := hB1
        refine lv_aload_n hx hb dX5_takes_149 rfl (lv_at hl 2 rfl) ?_
        refine lv_iload_n hx hb dX5_takes_150 rfl (lv_at hl 3 rfl) ?_
        refine lv_bipush (v := 6) hx hb dX5_takes_151 (by decide) ?_
        refine lv_iconst (v := 1) hx hb dX5_takes_153 (by decide) ?_
        refine z_mv (va_runV (As := [.int (nI p), .int 6, .int 1]) (rest := []) hfix (zcX5_put l D cI H7 b tn n (jf (z2 (z2 (z2 g (p % 2) p (g0 (p % 2) o)) (2 + (p % 2)) p (nI o)) (4 + (p % 2)) p (zmin 99 ((g0 (4 + (p % 2)) o) + 1))) me lo c) (jf g0 me lo c) (zn e) (nm rd tk) p 6 1 hM9 (by omega) (by omega)) (cwV 3 hts gX5_takes_X5_put rfl rfl rfl (by decide +kernel) ⟨Nat.le_of_ble_eq_true rfl, Nat.le_of_ble_eq_true rfl⟩) (z_preV hK hK hM9 (ci := 5) (q0 := 0) rfl rfl rfl) rfl rfl hl.1 rfl (lv_room (Nat.le_of_ble_eq_true rfl)) dX5_takes_154 ⟨by omega, by omega⟩) hS (fun q _ h => by simp only [zF] at h ⊢; omega) (fun q h => by simp only [zF] at h ⊢; omega) (fun H10 lo11 hB hz1 hk1 hS => ?_)
        have hB1 := hB.1
        rw [jf_z2 (show 6 < 7 by omega)] at hB1
        have hz : H10.size = H.size := (hB.2).trans hz
        have hM12 : va_P D vwCl (zMo cI b tn n (jf (z2 (z2 (z2 (z2 g (p % 2) p (g0 (p % 2) o)) (2 + (p % 2)) p (nI o)) (4 + (p % 2)) p (zmin 99 ((g0 (4 + (p % 2)) o) + 1))) 6 p 1) me lo c) (jf g0 me lo c) (zn e) (nm rd tk)) H10 := hB1
        refine lv_iconst (v := 1) hx hb dX5_takes_157 (by decide) ?_
        refine z_toi (y := (zb (tkn lo c e g0 p = true))) (zb_t (tkn_t hho hw c80)) ?_
        exact z_zretM (⟨by rw [stG_t hho hw c80, zmin_comm]; exact hM12, hz⟩) hx hb hr (zb_nar) hlocks hS dX5_takes_158
      · refine lv_aload_n hx hb dX5_takes_83 rfl (lv_at hl 1 rfl) ?_
        refine lv_iload_n hx hb dX5_takes_84 rfl (lv_at hl 2 rfl) ?_
        refine lv_bipush (v := 6) hx hb dX5_takes_85 (by decide) ?_
        refine lv_aload_n hx hb dX5_takes_87 rfl (lv_at hl 1 rfl) ?_
        refine lv_iload_n hx hb dX5_takes_88 rfl (lv_at hl 2 rfl) ?_
        refine lv_bipush (v := 6) hx hb dX5_takes_89 (by decide) ?_
        refine z_ki (va_runV (As := [.int (nI p), .int 6]) (rest := [.int 6, .int (nI p), .ref b]) hfix (zcX5_be l D cI H b tn n (jf g me lo c) (jf g0 me lo c) (zn e) (nm rd tk) p 6 hM (by omega) (by omega)) (cwV 2 hts gX5_takes_X5_be rfl rfl rfl (by decide +kernel) ⟨Nat.le_of_ble_eq_true rfl, Nat.le_of_ble_eq_true rfl⟩) (z_preV hK hK hM (ci := 5) (q0 := 0) rfl rfl rfl) rfl rfl hl.1 rfl (lv_room (Nat.le_of_ble_eq_true rfl)) dX5_takes_91 ⟨by omega, by omega⟩) ?_
        refine z_toi (y := (g0 6 p)) (jf_g (by omega)) ?_
        refine lv_iconst (v := 1) hx hb dX5_takes_94 (by decide) ?_
        refine lv_isub hx hb dX5_takes_95 ?_
        refine z_mv (va_runV (As := [.int (nI p), .int 6, .int ((g0 6 p) - 1)]) (rest := []) hfix (zcX5_put l D cI H b tn n (jf g me lo c) (jf g0 me lo c) (zn e) (nm rd tk) p 6 ((g0 6 p) - 1) hM (by omega) (by omega)) (cwV 3 hts gX5_takes_X5_put rfl rfl rfl (by decide +kernel) ⟨Nat.le_of_ble_eq_true rfl, Nat.le_of_ble_eq_true rfl⟩) (z_preV hK hK hM (ci := 5) (q0 := 0) rfl rfl rfl) rfl rfl hl.1 rfl (lv_room (Nat.le_of_ble_eq_true rfl)) dX5_takes_96 ⟨by omega, by omega⟩) hS (fun q _ h => by simp only [zF] at h ⊢; omega) (fun q h => by simp only [zF] at h ⊢; omega) (fun H13 lo14 hB hz1 hk1 hS => ?_)
        have hB1 := hB.1
        rw [jf_z2 (show 6 < 7 by omega)] at hB1
        have hz : H13.size = H.size := (hB.2).trans hz
        have hM15 : va_P D vwCl (zMo cI b tn n (jf (z2 g 6 p ((g0 6 p) - 1)) me lo c) (jf g0 me lo c) (zn e) (nm rd tk)) H13 := hB1
        refine lv_iconst (v := 0) hx hb dX5_takes_99 (by decide) ?_
        refine z_toi (y := (zb (tkn lo c e g0 p = true))) (zb_f (tkn_k hho c80)) ?_
        exact z_zretM (⟨by rw [stG_k hho hw c80]; exact hM15, hz⟩) hx hb hr (zb_nar) hlocks hS dX5_takes_100
    · refine lv_aload_n hx hb dX5_takes_28 rfl (lv_at hl 1 rfl) ?_
      refine lv_iload_n hx hb dX5_takes_29 rfl (lv_at hl 2 rfl) ?_
      refine lv_iconst (v := 1) hx hb dX5_takes_30 (by decide) ?_
      refine z_ki (va_runV (As := [.int (nI p), .int 1]) (rest := []) hfix (zcX5_be l D cI H b tn n (jf g me lo c) (jf g0 me lo c) (zn e) (nm rd tk) p 1 hM (by omega) (by omega)) (cwV 2 hts gX5_takes_X5_be rfl rfl rfl (by decide +kernel) ⟨Nat.le_of_ble_eq_true rfl, Nat.le_of_ble_eq_true rfl⟩) (z_preV hK hK hM (ci := 5) (q0 := 0) rfl rfl rfl) rfl rfl hl.1 rfl (lv_room (Nat.le_of_ble_eq_true rfl)) dX5_takes_31 ⟨by omega, by omega⟩) ?_
      refine z_toi (y := (g0 1 p)) (jf_g (by omega)) ?_
      refine lv_aload_n hx hb dX5_takes_34 rfl (lv_at hl 1 rfl) ?_
      refine lv_iload_n hx hb dX5_takes_35 rfl (lv_at hl 0 rfl) ?_
      refine lv_iconst (v := 1) hx hb dX5_takes_36 (by decide) ?_
      refine z_ki (va_runV (As := [.int (nI o), .int 1]) (rest := [.int (g0 1 p)]) hfix (zcX5_be l D cI H b tn n (jf g me lo c) (jf g0 me lo c) (zn e) (nm rd tk) o 1 hM (by omega) (by omega)) (cwV 2 hts gX5_takes_X5_be rfl rfl rfl (by decide +kernel) ⟨Nat.le_of_ble_eq_true rfl, Nat.le_of_ble_eq_true rfl⟩) (z_preV hK hK hM (ci := 5) (q0 := 0) rfl rfl rfl) rfl rfl hl.1 rfl (lv_room (Nat.le_of_ble_eq_true rfl)) dX5_takes_37 ⟨by omega, by omega⟩) ?_
      refine z_toi (y := (g0 1 o)) (jf_g (by omega)) ?_
      refine lv_icmp_ne (tgt := 66) hx hb dX5_takes_40 (by decide) (fun c40 => ?_) (fun c40 => ?_)
      · have hw : ¬ wd g0 p = wd g0 o := fun h => c40 ((wd_eq hZ hp ho).mp h).2
        refine lv_aload_n hx hb dX5_takes_66 rfl (lv_at hl 1 rfl) ?_
        refine lv_iload_n hx hb dX5_takes_67 rfl (lv_at hl 2 rfl) ?_
        refine lv_bipush (v := 6) hx hb dX5_takes_68 (by decide) ?_
        refine z_ki (va_runV (As := [.int (nI p), .int 6]) (rest := []) hfix (zcX5_be l D cI H b tn n (jf g me lo c) (jf g0 me lo c) (zn e) (nm rd tk) p 6 hM (by omega) (by omega)) (cwV 2 hts gX5_takes_X5_be rfl rfl rfl (by decide +kernel) ⟨Nat.le_of_ble_eq_true rfl, Nat.le_of_ble_eq_true rfl⟩) (z_preV hK hK hM (ci := 5) (q0 := 0) rfl rfl rfl) rfl rfl hl.1 rfl (lv_room (Nat.le_of_ble_eq_true rfl)) dX5_takes_70 ⟨by omega, by omega⟩) ?_
        refine z_toi (y := (g0 6 p)) (jf_g (by omega)) ?_
        refine lv_aload_n hx hb dX5_takes_73 rfl (lv_at hl 1 rfl) ?_
        refine lv_iload_n hx hb dX5_takes_74 rfl (lv_at hl 0 rfl) ?_
        refine lv_bipush (v := 6) hx hb dX5_takes_75 (by decide) ?_
        refine z_ki (va_runV (As := [.int (nI o), .int 6]) (rest := [.int (g0 6 p)]) hfix (zcX5_be l D cI H b tn n (jf g me lo c) (jf g0 me lo c) (zn e) (nm rd tk) o 6 hM (by omega) (by omega)) (cwV 2 hts gX5_takes_X5_be rfl rfl rfl (by decide +kernel) ⟨Nat.le_of_ble_eq_true rfl, Nat.le_of_ble_eq_true rfl⟩) (z_preV hK hK hM (ci := 5) (q0 := 0) rfl rfl rfl) rfl rfl hl.1 rfl (lv_room (Nat.le_of_ble_eq_true rfl)) dX5_takes_77 ⟨by omega, by omega⟩) ?_
        refine z_toi (y := (g0 6 o)) (jf_g (by omega)) ?_
        refine lv_icmp_le (tgt := 101) hx hb dX5_takes_80 (by decide) (fun c80 => ?_) (fun c80 => ?_)
        · refine lv_iload_n hx hb dX5_takes_101 rfl (lv_at hl 2 rfl) ?_
          refine lv_iconst (v := 2) hx hb dX5_takes_102 (by decide) ?_
          refine lv_irem hx hb dX5_takes_103 (by decide) ?_
          refine z_toi (y := zrem (nI p) 2) rfl ?_
          refine z_toi (y := nI (p % 2)) (pk_rem (by omega) (by decide) (by decide)) ?_
          refine lv_istore_n (lv' := [(3, .int (nI (p % 2))), (2, .int (nI o)), (0, .ref b), (1, .int (nI p))]) hx hb dX5_takes_104 rfl hl (by decide) rfl (fun ls hl => ?_)
          refine lv_aload_n hx hb dX5_takes_105 rfl (lv_at hl 2 rfl) ?_
          refine lv_iload_n hx hb dX5_takes_106 rfl (lv_at hl 3 rfl) ?_
          refine lv_iload_n hx hb dX5_takes_107 rfl (lv_at hl 0 rfl) ?_
          refine lv_aload_n hx hb dX5_takes_108 rfl (lv_at hl 2 rfl) ?_
          refine lv_iload_n hx hb dX5_takes_109 rfl (lv_at hl 1 rfl) ?_
          refine lv_iload_n hx hb dX5_takes_110 rfl (lv_at hl 0 rfl) ?_
          refine z_ki (va_runV (As := [.int (nI o), .int (nI (p % 2))]) (rest := [.int (nI (p % 2)), .int (nI p), .ref b]) hfix (zcX5_be l D cI H b tn n (jf g me lo c) (jf g0 me lo c) (zn e) (nm rd tk) o (p % 2) hM (by omega) (by omega)) (cwV 2 hts gX5_takes_X5_be rfl rfl rfl (by decide +kernel) ⟨Nat.le_of_ble_eq_true rfl, Nat.le_of_ble_eq_true rfl⟩) (z_preV hK hK hM (ci := 5) (q0 := 0) rfl rfl rfl) rfl rfl hl.1 rfl (lv_room (Nat.le_of_ble_eq_true rfl)) dX5_takes_111 ⟨by omega, by omega⟩) ?_
          refine z_toi (y := (g0 (p % 2) o)) (jf_g (by omega)) ?_
          refine z_mv (va_runV (As := [.int (nI p), .int (nI (p % 2)), .int (g0 (p % 2) o)]) (rest := []) hfix (zcX5_put l D cI H b tn n (jf g me lo c) (jf g0 me lo c) (zn e) (nm rd tk) p (p % 2) (g0 (p % 2) o) hM (by omega) (by omega)) (cwV 3 hts gX5_takes_X5_put rfl rfl rfl (by decide +kernel) ⟨Nat.le_of_ble_eq_true rfl, Nat.le_of_ble_eq_true rfl⟩) (z_preV hK hK hM (ci := 5) (q0 := 0) rfl rfl rfl) rfl rfl hl.1 rfl (lv_room (Nat.le_of_ble_eq_true rfl)) dX5_takes_114 ⟨by omega, by omega⟩) hS (fun q _ h => by simp only [zF] at h ⊢; omega) (fun q h => by simp only [zF] at h ⊢; omega) (fun H16 lo17 hB hz1 hk1 hS => ?_)
          have hB1 := hB.1
          rw [jf_z2 (show p % 2 < 7 by omega)] at hB1
          have hz : H16.size = H.size := (hB.2).trans hz
          have hM18 : va_P D vwCl (zMo cI b tn n (jf (z2 g (p % 2) p (g0 (p % 2) o)) me lo c) (jf g0 me lo c) (zn e) (nm rd tk)) H16 := hB1
          refine lv_aload_n hx hb dX5_takes_117 rfl (lv_at hl 2 rfl) ?_
          refine lv_iload_n hx hb dX5_takes_118 rfl (lv_at hl 3 rfl) ?_
          refine lv_iconst (v := 2) hx hb dX5_takes_119 (by decide) ?_
          refine lv_iload_n hx hb dX5_takes_120 rfl (lv_at hl 0 rfl) ?_
          refine lv_iadd hx hb dX5_takes_121 ?_
          refine z_toi (y := nI (2 + (p % 2))) (nI_add 2 (p % 2)) ?_
          refine lv_iload_n hx hb dX5_takes_122 rfl (lv_at hl 1 rfl) ?_
          refine z_mv (va_runV (As := [.int (nI p), .int (nI (2 + (p % 2))), .int (nI o)]) (rest := []) hfix (zcX5_put l D cI H16 b tn n (jf (z2 g (p % 2) p (g0 (p % 2) o)) me lo c) (jf g0 me lo c) (zn e) (nm rd tk) p (2 + (p % 2)) (nI o) hM18 (by omega) (by omega)) (cwV 3 hts gX5_takes_X5_put rfl rfl rfl (by decide +kernel) ⟨Nat.le_of_ble_eq_true rfl, Nat.le_of_ble_eq_true rfl⟩) (z_preV hK hK hM18 (ci := 5) (q0 := 0) rfl rfl rfl) rfl rfl hl.1 rfl (lv_room (Nat.le_of_ble_eq_true rfl)) dX5_takes_123 ⟨by omega, by omega⟩) hS (fun q _ h => by simp only [zF] at h ⊢; omega) (fun q h => by simp only [zF] at h ⊢; omega) (fun H19 lo20 hB hz1 hk1 hS => ?_)
          have hB1 := hB.1
          rw [jf_z2 (show 2 + (p % 2) < 7 by omega)] at hB1
          have hz : H19.size = H.size := (hB.2).trans hz
          have hM21 : va_P D vwCl (zMo cI b tn n (jf (z2 (z2 g (p % 2) p (g0 (p % 2) o)) (2 + (p % 2)) p (nI o)) me lo c) (jf g0 me lo c) (zn e) (nm rd tk)) H19 := hB1
          refine lv_aload_n hx hb dX5_takes_126 rfl (lv_at hl 2 rfl) ?_
          refine lv_iload_n hx hb dX5_takes_127 rfl (lv_at hl 3 rfl) ?_
          refine lv_iconst (v := 4) hx hb dX5_takes_128 (by decide) ?_
          refine lv_iload_n hx hb dX5_takes_129 rfl (lv_at hl 0 rfl) ?_
          refine lv_iadd hx hb dX5_takes_130 ?_
          refine z_toi (y := nI (4 + (p % 2))) (nI_add 4 (p % 2)) ?_
          refine lv_bipush (v := 99) hx hb dX5_takes_131 (by decide) ?_
          refine lv_aload_n hx hb dX5_takes_133 rfl (lv_at hl 2 rfl) ?_
          refine lv_iload_n hx hb dX5_takes_134 rfl (lv_at hl 1 rfl) ?_
          refine lv_iconst (v := 4) hx hb dX5_takes_135 (by decide) ?_
          refine lv_iload_n hx hb dX5_takes_136 rfl (lv_at hl 0 rfl) ?_
          refine lv_iadd hx hb dX5_takes_137 ?_
          refine z_toi (y := nI (4 + (p % 2))) (nI_add 4 (p % 2)) ?_
          refine z_ki (va_runV (As := [.int (nI o), .int (nI (4 + (p % 2)))]) (rest := [.int 99, .int (nI (4 + (p % 2))), .int (nI p), .ref b]) hfix (zcX5_be l D cI H19 b tn n (jf (z2 (z2 g (p % 2) p (g0 (p % 2) o)) (2 + (p % 2)) p (nI o)) me lo c) (jf g0 me lo c) (zn e) (nm rd tk) o (4 + (p % 2)) hM21 (by omega) (by omega)) (cwV 2 hts gX5_takes_X5_be rfl rfl rfl (by decide +kernel) ⟨Nat.le_of_ble_eq_true rfl, Nat.le_of_ble_eq_true rfl⟩) (z_preV hK hK hM21 (ci := 5) (q0 := 0) rfl rfl rfl) rfl rfl hl.1 rfl (lv_room (Nat.le_of_ble_eq_true rfl)) dX5_takes_138 ⟨by omega, by omega⟩) ?_
          refine z_toi (y := (g0 (4 + (p % 2)) o)) (jf_g (by omega)) ?_
          refine lv_iconst (v := 1) hx hb dX5_takes_141 (by decide) ?_
          refine lv_iadd hx hb dX5_takes_142 ?_
          refine va_mmin hx hb (by rw [hml]; exact hl.1.symm) hown (hts _ (List.mem_of_getElem? (i := 1) rfl)) (hts _ (List.mem_of_getElem? (i := 2) rfl)) (hts _ (List.mem_of_getElem? (i := 3) rfl)) (hts _ (List.mem_of_getElem? (i := 4) rfl)) (Nat.le_of_ble_eq_true rfl) (Nat.le_of_ble_eq_true rfl) (by omega) (by omega) dX5_takes_143 ?_
          refine z_toi (y := zmin 99 ((g0 (4 + (p % 2)) o) + 1)) rfl ?_
          refine z_mv (va_runV (As := [.int (nI p), .int (nI (4 + (p % 2))), .int (zmin 99 ((g0 (4 + (p % 2)) o) + 1))]) (rest := []) hfix (zcX5_put l D cI H19 b tn n (jf (z2 (z2 g (p % 2) p (g0 (p % 2) o)) (2 + (p % 2)) p (nI o)) me lo c) (jf g0 me lo c) (zn e) (nm rd tk) p (4 + (p % 2)) (zmin 99 ((g0 (4 + (p % 2)) o) + 1)) hM21 (by omega) (by omega)) (cwV 3 hts gX5_takes_X5_put rfl rfl rfl (by decide +kernel) ⟨Nat.le_of_ble_eq_true rfl, Nat.le_of_ble_eq_true rfl⟩) (z_preV hK hK hM21 (ci := 5) (q0 := 0) rfl rfl rfl) rfl rfl hl.1 rfl (lv_room (Nat.le_of_ble_eq_true rfl)) dX5_takes_146 ⟨by omega, by omega⟩) hS (fun q _ h => by simp only [zF] at h ⊢; omega) (fun q h => by simp only [zF] at h ⊢; omega) (fun H22 lo23 hB hz1 hk1 hS => ?_)
          have hB1 := hB.1
          rw [jf_z2 (show 4 + (p % 2) < 7 by omega)] at hB1
          have hz : H22.size = H.size := (hB.2).trans hz
          have hM24 : va_P D vwCl (zMo cI b tn n (jf (z2 (z2 (z2 g (p % 2) p (g0 (p % 2) o)) (2 + (p % 2)) p (nI o)) (4 + (p % 2)) p (zmin 99 ((g0 (4 + (p % 2)) o) + 1))) me lo c) (jf g0 me lo c) (zn e) (nm rd tk)) H22 := hB1
          refine lv_aload_n hx hb dX5_takes_149 rfl (lv_at hl 2 rfl) ?_
          refine lv_iload_n hx hb dX5_takes_150 rfl (lv_at hl 3 rfl) ?_
          refine lv_bipush (v := 6) hx hb dX5_takes_151 (by decide) ?_
          refine lv_iconst (v := 1) hx hb dX5_takes_153 (by decide) ?_
          refine z_mv (va_runV (As := [.int (nI p), .int 6, .int 1]) (rest := []) hfix (zcX5_put l D cI H22 b tn n (jf (z2 (z2 (z2 g (p % 2) p (g0 (p % 2) o)) (2 + (p % 2)) p (nI o)) (4 + (p % 2)) p (zmin 99 ((g0 (4 + (p % 2)) o) + 1))) me lo c) (jf g0 me lo c) (zn e) (nm rd tk) p 6 1 hM24 (by omega) (by omega)) (cwV 3 hts gX5_takes_X5_put rfl rfl rfl (by decide +kernel) ⟨Nat.le_of_ble_eq_true rfl, Nat.le_of_ble_eq_true rfl⟩) (z_preV hK hK hM24 (ci := 5) (q0 := 0) rfl rfl rfl) rfl rfl hl.1 rfl (lv_room (Nat.le_of_ble_eq_true rfl)) dX5_takes_154 ⟨by omega, by omega⟩) hS (fun q _ h => by simp only [zF] at h ⊢; omega) (fun q h => by simp only [zF] at h ⊢; omega) (fun H25 lo26 hB hz1 hk1 hS => ?_)
          have hB1 := hB.1
          rw [jf_z2 (show 6 < 7 by omega)] at hB1
          have hz : H25.size = H.size := (hB.2).trans hz
          have hM27 : va_P D vwCl (zMo cI b tn n (jf (z2 (z2 (z2 (z2 g (p % 2) p (g0 (p % 2) o)) (2 + (p % 2)) p (nI o)) (4 + (p % 2)) p (zmin 99 ((g0 (4 + (p % 2)) o) + 1))) 6 p 1) me lo c) (jf g0 me lo c) (zn e) (nm rd tk)) H25 := hB1
          refine lv_iconst (v := 1) hx hb dX5_takes_157 (by decide) ?_
          refine z_toi (y := (zb (tkn lo c e g0 p = true))) (zb_t (tkn_t hho hw c80)) ?_
          exact z_zretM (⟨by rw [stG_t hho hw c80, zmin_comm]; exact hM27, hz⟩) hx hb hr (zb_nar) hlocks hS dX5_takes_158
        · refine lv_aload_n hx hb dX5_takes_83 rfl (lv_at hl 1 rfl) ?_
          refine lv_iload_n hx hb dX5_takes_84 rfl (lv_at hl 2 rfl) ?_
          refine lv_bipush (v := 6) hx hb dX5_takes_85 (by decide) ?_
          refine lv_aload_n hx hb dX5_takes_87 rfl (lv_at hl 1 rfl) ?_
          refine lv_iload_n hx hb dX5_takes_88 rfl (lv_at hl 2 rfl) ?_
          refine lv_bipush (v := 6) hx hb dX5_takes_89 (by decide) ?_
          refine z_ki (va_runV (As := [.int (nI p), .int 6]) (rest := [.int 6, .int (nI p), .ref b]) hfix (zcX5_be l D cI H b tn n (jf g me lo c) (jf g0 me lo c) (zn e) (nm rd tk) p 6 hM (by omega) (by omega)) (cwV 2 hts gX5_takes_X5_be rfl rfl rfl (by decide +kernel) ⟨Nat.le_of_ble_eq_true rfl, Nat.le_of_ble_eq_true rfl⟩) (z_preV hK hK hM (ci := 5) (q0 := 0) rfl rfl rfl) rfl rfl hl.1 rfl (lv_room (Nat.le_of_ble_eq_true rfl)) dX5_takes_91 ⟨by omega, by omega⟩) ?_
          refine z_toi (y := (g0 6 p)) (jf_g (by omega)) ?_
          refine lv_iconst (v := 1) hx hb dX5_takes_94 (by decide) ?_
          refine lv_isub hx hb dX5_takes_95 ?_
          refine z_mv (va_runV (As := [.int (nI p), .int 6, .int ((g0 6 p) - 1)]) (rest := []) hfix (zcX5_put l D cI H b tn n (jf g me lo c) (jf g0 me lo c) (zn e) (nm rd tk) p 6 ((g0 6 p) - 1) hM (by omega) (by omega)) (cwV 3 hts gX5_takes_X5_put rfl rfl rfl (by decide +kernel) ⟨Nat.le_of_ble_eq_true rfl, Nat.le_of_ble_eq_true rfl⟩) (z_preV hK hK hM (ci := 5) (q0 := 0) rfl rfl rfl) rfl rfl hl.1 rfl (lv_room (Nat.le_of_ble_eq_true rfl)) dX5_takes_96 ⟨by omega, by omega⟩) hS (fun q _ h => by simp only [zF] at h ⊢; omega) (fun q h => by simp only [zF] at h ⊢; omega) (fun H28 lo29 hB hz1 hk1 hS => ?_)
          have hB1 := hB.1
          rw [jf_z2 (show 6 < 7 by omega)] at hB1
          have hz : H28.size = H.size := (hB.2).trans hz
          have hM30 : va_P D vwCl (zMo cI b tn n (jf (z2 g 6 p ((g0 6 p) - 1)) me lo c) (jf g0 me lo c) (zn e) (nm rd tk)) H28 := hB1
          refine lv_iconst (v := 0) hx hb dX5_takes_99 (by decide) ?_
          refine z_toi (y := (zb (tkn lo c e g0 p = true))) (zb_f (tkn_k hho c80)) ?_
          exact z_zretM (⟨by rw [stG_k hho hw c80]; exact hM30, hz⟩) hx hb hr (zb_nar) hlocks hS dX5_takes_100
      · have hw : wd g0 p = wd g0 o := (wd_eq hZ hp ho).mpr ⟨c25, c40⟩
        refine lv_aload_n hx hb dX5_takes_43 rfl (lv_at hl 1 rfl) ?_
        refine lv_iload_n hx hb dX5_takes_44 rfl (lv_at hl 2 rfl) ?_
        refine lv_bipush (v := 6) hx hb dX5_takes_45 (by decide) ?_
        refine lv_bipush (v := 9) hx hb dX5_takes_47 (by decide) ?_
        refine lv_aload_n hx hb dX5_takes_49 rfl (lv_at hl 1 rfl) ?_
        refine lv_iload_n hx hb dX5_takes_50 rfl (lv_at hl 2 rfl) ?_
        refine lv_bipush (v := 6) hx hb dX5_takes_51 (by decide) ?_
        refine z_ki (va_runV (As := [.int (nI p), .int 6]) (rest := [.int 9, .int 6, .int (nI p), .ref b]) hfix (zcX5_be l D cI H b tn n (jf g me lo c) (jf g0 me lo c) (zn e) (nm rd tk) p 6 hM (by omega) (by omega)) (cwV 2 hts gX5_takes_X5_be rfl rfl rfl (by decide +kernel) ⟨Nat.le_of_ble_eq_true rfl, Nat.le_of_ble_eq_true rfl⟩) (z_preV hK hK hM (ci := 5) (q0 := 0) rfl rfl rfl) rfl rfl hl.1 rfl (lv_room (Nat.le_of_ble_eq_true rfl)) dX5_takes_53 ⟨by omega, by omega⟩) ?_
        refine z_toi (y := (g0 6 p)) (jf_g (by omega)) ?_
        refine lv_iconst (v := 1) hx hb dX5_takes_56 (by decide) ?_
        refine lv_iadd hx hb dX5_takes_57 ?_
        refine va_mmin hx hb (by rw [hml]; exact hl.1.symm) hown (hts _ (List.mem_of_getElem? (i := 1) rfl)) (hts _ (List.mem_of_getElem? (i := 2) rfl)) (hts _ (List.mem_of_getElem? (i := 3) rfl)) (hts _ (List.mem_of_getElem? (i := 4) rfl)) (Nat.le_of_ble_eq_true rfl) (Nat.le_of_ble_eq_true rfl) (by omega) (by omega) dX5_takes_58 ?_
        refine z_toi (y := zmin 9 ((g0 6 p) + 1)) rfl ?_
        refine z_mv (va_runV (As := [.int (nI p), .int 6, .int (zmin 9 ((g0 6 p) + 1))]) (rest := []) hfix (zcX5_put l D cI H b tn n (jf g me lo c) (jf g0 me lo c) (zn e) (nm rd tk) p 6 (zmin 9 ((g0 6 p) + 1)) hM (by omega) (by omega)) (cwV 3 hts gX5_takes_X5_put rfl rfl rfl (by decide +kernel) ⟨Nat.le_of_ble_eq_true rfl, Nat.le_of_ble_eq_true rfl⟩) (z_preV hK hK hM (ci := 5) (q0 := 0) rfl rfl rfl) rfl rfl hl.1 rfl (lv_room (Nat.le_of_ble_eq_true rfl)) dX5_takes_61 ⟨by omega, by omega⟩) hS (fun q _ h => by simp only [zF] at h ⊢; omega) (fun q h => by simp only [zF] at h ⊢; omega) (fun H31 lo32 hB hz1 hk1 hS => ?_)
        have hB1 := hB.1
        rw [jf_z2 (show 6 < 7 by omega)] at hB1
        have hz : H31.size = H.size := (hB.2).trans hz
        have hM33 : va_P D vwCl (zMo cI b tn n (jf (z2 g 6 p (zmin 9 ((g0 6 p) + 1))) me lo c) (jf g0 me lo c) (zn e) (nm rd tk)) H31 := hB1
        refine lv_iconst (v := 0) hx hb dX5_takes_64 (by decide) ?_
        refine z_toi (y := (zb (tkn lo c e g0 p = true))) (zb_f (tkn_e hho hw)) ?_
        exact z_zretM (⟨by rw [stG_e hho hw, zmin_comm]; exact hM33, hz⟩) hx hb hr (zb_nar) hlocks hS dX5_takes_65
  · have c8 := (zo_m1 (fun q hq => by have h1 := zI_hd hI hq; omega)).mp c8
    refine lv_iconst (v := 0) hx hb dX5_takes_11 (by decide) ?_
    refine z_toi (y := (zb (tkn lo c e g0 p = true))) (zb_f (tkn_n c8)) ?_
    exact z_zretM (⟨by rw [stG_n c8]; exact hM, hz⟩) hx hb hr (zb_nar) hlocks hS dX5_takes_12
set_option maxHeartbeats 4000000 in
set_option maxRecDepth 100000 in
/-- roundOn -/
theorem zcX5_roundOn (l : Launch) (D : va_G) (cI : ClassId) (H : Heap) (b : Nat) (tn : Int32) (n : Nat) (g : zG) (me : Nat → Int32) (lo : Nat → Int32) (c : Nat → Nat) (bf : Nat → Int32) (e : Nat → Nat) (rd : Int32) (tk : Int32) (hM : va_P D vwCl (zMo cI b tn n (jf g me lo c) bf (zn e) (nm rd tk)) H) (hI : zI n me lo c e) (hZ : zJ n g) : Met l yX5_roundOn wsX5_roundOn ({ frames := 3, cells := 0, slots := 0, locals := 68 } : Room) (zPc D [(cI, .int)] H [.ref b]) (zM (fun H1 => va_P D vwCl (zMo cI b tn n (jf ((rO n me lo c e (rd, tk, g)).2.2) me lo c) (jf g me lo c) (zn e) (nm ((rO n me lo c e (rd, tk, g)).1) ((rO n me lo c e (rd, tk, g)).2.1))) H1 ∧ H1.size = H.size) none (zF b (b + 5))) 0 0 (zF b (b + 5)) := by
  refine z_enter (cc := cX5_roundOn) (maxL := 2) (ret := none) (by decide) rfl (Nat.le_of_ble_eq_true rfl) ?_
  intro pg ev s m args below meth cd hfix hr hlocks hname hK hHs ls hl
  obtain ⟨hx, hb, hml, hown, hts⟩ := id hfix
  have hl : lv_has ls 2 [(0, .ref b)] := hl
  have hS : va_S (zF b (b + 5)) s.heap H [] := by rw [hHs]; exact va_S.rf
  have hz : H.size = H.size := rfl
  have hinX5 : ∀ w ∈ wsX50, w ∈ wsX5_roundOn := by decide +kernel
  have hn := zI_n hI
  refine lv_aload_n hx hb dX5_roundOn_0 rfl (lv_at hl 0 rfl) ?_
  refine va_get (D := D) (ci := 5) (v := .ref (b + 1)) (C := RX5) (T := TX5) (N := 6) hx hb hts hinX5 hown hK hM 0 rfl rfl 2 (by decide) (hts _ (List.mem_of_getElem? (i := 1) rfl)) (fun _ h9 => h9) rfl dX5_roundOn_1 ?_
  refine lv_iconst (v := 0) hx hb dX5_roundOn_4 (by decide) ?_
  refine lv_aload_n hx hb dX5_roundOn_5 rfl (lv_at hl 0 rfl) ?_
  refine va_get (D := D) (ci := 5) (v := .ref (b + 2)) (C := RX5) (T := TX5) (N := 6) hx hb hts hinX5 hown hK hM 0 rfl rfl 3 (by decide) (hts _ (List.mem_of_getElem? (i := 2) rfl)) (fun _ h9 => h9) rfl dX5_roundOn_6 ?_
  refine lv_iconst (v := 0) hx hb dX5_roundOn_9 (by decide) ?_
  refine lv_aload_n hx hb dX5_roundOn_10 rfl (lv_at hl 0 rfl) ?_
  refine va_get (D := D) (ci := 5) (v := .ref (b + 1)) (C := RX5) (T := TX5) (N := 6) hx hb hts hinX5 hown hK hM 0 rfl rfl 2 (by decide) (hts _ (List.mem_of_getElem? (i := 1) rfl)) (fun _ h9 => h9) rfl dX5_roundOn_11 ?_
  refine z_alen (n := 120) (f := (jf g me lo c)) hx hb hK hM 1 0 rfl rfl dX5_roundOn_14 ?_
  refine z_copyi hx hb (by rw [hml]; exact hl.1.symm) hown (hts _ (List.mem_of_getElem? (i := 3) rfl)) (hts _ (List.mem_of_getElem? (i := 4) rfl)) (hts _ (List.mem_of_getElem? (i := 5) rfl)) (hts _ (List.mem_of_getElem? (i := 6) rfl)) hK hM hM (by simp only [zF]; omega) hS 1 2 0 rfl rfl rfl (sj := 0) (dj := 0) (k := 120) rfl rfl rfl (by omega) (by omega) (by omega) (by omega) (Nat.le_of_ble_eq_true rfl) (Nat.le_of_ble_eq_true rfl) dX5_roundOn_15 (fun H1 lo2 hP1 hz1 hk1 hS => ?_)
  have hz : H1.size = H.size := by omega
  have hM3 : va_P D vwCl (zMo cI b tn n (jf g me lo c) (jf g me lo c) (zn e) (nm rd tk)) H1 := z_set zMo_c hM 2 rfl (z_arr_ext hP1 (fun j hj => sb_cpy0 hj)) (fun q _ h => hk1 q h)
  refine lv_iconst (v := 0) hx hb dX5_roundOn_18 (by decide) ?_
  refine lv_istore_n (lv' := [(1, .int 0), (0, .ref b)]) hx hb dX5_roundOn_19 rfl hl (by decide) rfl (fun ls hl => ?_)
  have loop20 : ∀ (fu : Nat) (k : Nat), n - k < fu → (k ≤ n) → ∀ (x1 : Int32), x1 = (nI k) → ∀ (H4 : Heap) (lo5 : List Loc), va_P D vwCl (zMo cI b tn n (jf ((hA lo c e g (tk, g) k).2) me lo c) (jf g me lo c) (zn e) (nm rd ((hA lo c e g (tk, g) k).1))) H4 → H4.size = H.size → va_S (zF b (b + 5)) s.heap H4 lo5 → ∀ ls : Array Slot, lv_has ls 2 [(1, .int x1), (0, .ref b)] → W pg l ev ({ frames := 3, cells := 0, slots := 0, locals := 68 } : Room) s m args below meth cd H4 lo5 0 0 (MQ below (zM (fun H1 => va_P D vwCl (zMo cI b tn n (jf ((rO n me lo c e (rd, tk, g)).2.2) me lo c) (jf g me lo c) (zn e) (nm ((rO n me lo c e (rd, tk, g)).1) ((rO n me lo c e (rd, tk, g)).2.1))) H1 ∧ H1.size = H.size) none (zF b (b + 5))) args s 0 0 (zF b (b + 5))) (F0 m 20 ls []) := by
    intro fu
    induction fu with
    | zero => intro k hfu; exact absurd hfu (Nat.not_lt_zero _)
    | succ fu ih =>
      intro k hfu hi20_0 x1 ex1 H4 lo5 hM6 hz hS ls hl
      subst ex1
      refine lv_iload_n hx hb dX5_roundOn_20 rfl (lv_at hl 0 rfl) ?_
      refine lv_aload_n hx hb dX5_roundOn_21 rfl (lv_at hl 1 rfl) ?_
      refine va_get (D := D) (ci := 5) (v := .int (nI n)) (C := RX5) (T := TX5) (N := 6) hx hb hts hinX5 hown hK hM6 0 rfl rfl 1 (by decide) (hts _ (List.mem_of_getElem? (i := 7) rfl)) (fun _ h9 => h9) rfl dX5_roundOn_22 ?_
      refine lv_icmp_ge (tgt := 56) hx hb dX5_roundOn_25 (by decide) (fun c25 => ?_) (fun c25 => ?_)
      · have c25 := z_le (a := n) (b := k) c25 (by omega) (by omega)
        refine lv_iconst (v := 0) hx hb dX5_roundOn_56 (by decide) ?_
        refine lv_istore_n (lv' := [(1, .int 0), (0, .ref b)]) hx hb dX5_roundOn_57 rfl hl (by decide) rfl (fun ls hl => ?_)
        have loop58 : ∀ (fu : Nat) (k2 : Nat), n - k2 < fu → (k2 ≤ n) → ∀ (x1 : Int32), x1 = (nI k2) → ∀ (H7 : Heap) (lo8 : List Loc), va_P D vwCl (zMo cI b tn n (jf (fA rd me (hA lo c e g (tk, g) n).2 k2) me lo c) (jf g me lo c) (zn e) (nm rd ((hA lo c e g (tk, g) n).1))) H7 → H7.size = H.size → va_S (zF b (b + 5)) s.heap H7 lo8 → ∀ ls : Array Slot, lv_has ls 2 [(1, .int x1), (0, .ref b)] → W pg l ev ({ frames := 3, cells := 0, slots := 0, locals := 68 } : Room) s m args below meth cd H7 lo8 0 0 (MQ below (zM (fun H1 => va_P D vwCl (zMo cI b tn n (jf ((rO n me lo c e (rd, tk, g)).2.2) me lo c) (jf g me lo c) (zn e) (nm ((rO n me lo c e (rd, tk, g)).1) ((rO n me lo c e (rd, tk, g)).2.1))) H1 ∧ H1.size = H.size) none (zF b (b + 5))) args s 0 0 (zF b (b + 5))) (F0 m 58 ls []) := by
          intro fu
          induction fu with
          | zero => intro k2 hfu; exact absurd hfu (Nat.not_lt_zero _)
          | succ fu ih =>
            intro k2 hfu hi58_0 x1 ex1 H7 lo8 hM9 hz hS ls hl
            subst ex1
            refine lv_iload_n hx hb dX5_roundOn_58 rfl (lv_at hl 0 rfl) ?_
            refine lv_aload_n hx hb dX5_roundOn_59 rfl (lv_at hl 1 rfl) ?_
            refine va_get (D := D) (ci := 5) (v := .int (nI n)) (C := RX5) (T := TX5) (N := 6) hx hb hts hinX5 hown hK hM9 0 rfl rfl 1 (by decide) (hts _ (List.mem_of_getElem? (i := 7) rfl)) (fun _ h9 => h9) rfl dX5_roundOn_60 ?_
            refine lv_icmp_ge (tgt := 111) hx hb dX5_roundOn_63 (by decide) (fun c63 => ?_) (fun c63 => ?_)
            · have c63 := z_le (a := n) (b := k2) c63 (by omega) (by omega)
              refine lv_aload_n hx hb dX5_roundOn_111 rfl (lv_at hl 1 rfl) ?_
              refine va_get (D := D) (ci := 5) (v := .ref (b + 4)) (C := RX5) (T := TX5) (N := 6) hx hb hts hinX5 hown hK hM9 0 rfl rfl 5 (by decide) (hts _ (List.mem_of_getElem? (i := 8) rfl)) (fun _ h9 => h9) rfl dX5_roundOn_112 ?_
              refine lv_iconst (v := 0) hx hb dX5_roundOn_115 (by decide) ?_
              refine lv_dup2_11 hx hb dX5_roundOn_116 rfl rfl ?_
              refine z_iald (a := (b + 4)) (n := 2) (f := (nm rd ((hA lo c e g (tk, g) n).1))) (j := 0) hx hb hK hM9 4 0 rfl rfl rfl (by omega) (by omega) dX5_roundOn_117 ?_
              refine z_toi (y := rd) rfl ?_
              refine lv_iconst (v := 1) hx hb dX5_roundOn_118 (by decide) ?_
              refine lv_iadd hx hb dX5_roundOn_119 ?_
              refine z_iast (n := 2) (f := (nm rd ((hA lo c e g (tk, g) n).1))) (x := (rd + 1)) (j := 0) hx hb hK hM9 (by simp only [zF]; omega) hS 4 0 rfl rfl rfl (by omega) (by omega) dX5_roundOn_120 (fun H10 lo11 hP1 hz1 hk1 hS => ?_)
              have hz : H10.size = H.size := by omega
              have hM12 : va_P D vwCl (zMo cI b tn n (jf (fA rd me (hA lo c e g (tk, g) n).2 k2) me lo c) (jf g me lo c) (zn e) (nm (rd + 1) ((hA lo c e g (tk, g) n).1))) H10 := z_set zMo_c hM9 4 rfl (by rw [nm_0] at hP1; exact hP1) (fun q _ h => hk1 q h)
              exact z_vretM (⟨by have h9 := hM12; rw [show fA rd me (hA lo c e g (tk, g) n).2 k2 = fA rd me (hA lo c e g (tk, g) n).2 n by rw [show k2 = n by omega]] at h9; exact h9, hz⟩) hx hb hr hlocks hS dX5_roundOn_121
            · have c63 := z_nle (a := n) (b := k2) c63 (by omega) (by omega)
              refine lv_aload_n hx hb dX5_roundOn_66 rfl (lv_at hl 1 rfl) ?_
              refine va_get (D := D) (ci := 5) (v := .ref (b + 4)) (C := RX5) (T := TX5) (N := 6) hx hb hts hinX5 hown hK hM9 0 rfl rfl 5 (by decide) (hts _ (List.mem_of_getElem? (i := 8) rfl)) (fun _ h9 => h9) rfl dX5_roundOn_67 ?_
              refine lv_iconst (v := 0) hx hb dX5_roundOn_70 (by decide) ?_
              refine z_iald (a := (b + 4)) (n := 2) (f := (nm rd ((hA lo c e g (tk, g) n).1))) (j := 0) hx hb hK hM9 4 0 rfl rfl rfl (by omega) (by omega) dX5_roundOn_71 ?_
              refine z_toi (y := rd) rfl ?_
              refine lv_aload_n hx hb dX5_roundOn_72 rfl (lv_at hl 1 rfl) ?_
              refine lv_iload_n hx hb dX5_roundOn_73 rfl (lv_at hl 0 rfl) ?_
              refine lv_bipush (v := 7) hx hb dX5_roundOn_74 (by decide) ?_
              refine z_ki (va_runV (As := [.int (nI k2), .int 7]) (rest := [.int rd]) hfix (zcX5_ju l D cI H7 b tn n (jf (fA rd me (hA lo c e g (tk, g) n).2 k2) me lo c) (jf g me lo c) (zn e) (nm rd ((hA lo c e g (tk, g) n).1)) k2 7 hM9 (by omega) (by omega)) (cwV 2 hts gX5_roundOn_X5_ju rfl rfl rfl (by decide +kernel) ⟨Nat.le_of_ble_eq_true rfl, Nat.le_of_ble_eq_true rfl⟩) (z_preV hK hK hM9 (ci := 5) (q0 := 0) rfl rfl rfl) rfl rfl hl.1 rfl (lv_room (Nat.le_of_ble_eq_true rfl)) dX5_roundOn_76 ⟨by omega, by omega⟩) ?_
              refine z_toi (y := (me k2)) (jf_7) ?_
              refine lv_iconst (v := 1) hx hb dX5_roundOn_79 (by decide) ?_
              refine lv_iadd hx hb dX5_roundOn_80 ?_
              refine lv_irem hx hb dX5_roundOn_81 (zI_span0 hI (by omega)) ?_
              refine z_toi (y := zrem rd ((me k2) + 1)) rfl ?_
              refine lv_if_ne (tgt := 105) hx hb dX5_roundOn_82 (by decide) (fun c82 => ?_) (fun c82 => ?_)
              · refine lv_iinc (v := (nI (k2 + 1))) (lv' := [(1, .int (nI (k2 + 1))), (0, .ref b)]) hx hb dX5_roundOn_105 hl (k := 0) rfl (nI_1 _) (by decide) rfl (fun ls hl => ?_)
                refine lv_goto (tgt := 58) hx hb dX5_roundOn_108 (by decide) ?_
                exact ih (k2 + 1) (by omega) (by omega) _ (rfl) _ _ ((by first | (rw [zfA_n c82]; exact hM9) | (rw [zfA_y c82, zmax_comm]; exact hM9))) hz hS _ (lv_sub hl [0, 1] rfl)
              · refine lv_aload_n hx hb dX5_roundOn_85 rfl (lv_at hl 1 rfl) ?_
                refine lv_iload_n hx hb dX5_roundOn_86 rfl (lv_at hl 0 rfl) ?_
                refine lv_bipush (v := 6) hx hb dX5_roundOn_87 (by decide) ?_
                refine lv_iconst (v := 0) hx hb dX5_roundOn_89 (by decide) ?_
                refine lv_aload_n hx hb dX5_roundOn_90 rfl (lv_at hl 1 rfl) ?_
                refine lv_iload_n hx hb dX5_roundOn_91 rfl (lv_at hl 0 rfl) ?_
                refine lv_bipush (v := 6) hx hb dX5_roundOn_92 (by decide) ?_
                refine z_ki (va_runV (As := [.int (nI k2), .int 6]) (rest := [.int 0, .int 6, .int (nI k2), .ref b]) hfix (zcX5_ju l D cI H7 b tn n (jf (fA rd me (hA lo c e g (tk, g) n).2 k2) me lo c) (jf g me lo c) (zn e) (nm rd ((hA lo c e g (tk, g) n).1)) k2 6 hM9 (by omega) (by omega)) (cwV 2 hts gX5_roundOn_X5_ju rfl rfl rfl (by decide +kernel) ⟨Nat.le_of_ble_eq_true rfl, Nat.le_of_ble_eq_true rfl⟩) (z_preV hK hK hM9 (ci := 5) (q0 := 0) rfl rfl rfl) rfl rfl hl.1 rfl (lv_room (Nat.le_of_ble_eq_true rfl)) dX5_roundOn_94 ⟨by omega, by omega⟩) ?_
                refine z_toi (y := ((fA rd me (hA lo c e g (tk, g) n).2 k2) 6 k2)) (jf_g (by omega)) ?_
                refine lv_iconst (v := 1) hx hb dX5_roundOn_97 (by decide) ?_
                refine lv_isub hx hb dX5_roundOn_98 ?_
                refine va_mmax hx hb (by rw [hml]; exact hl.1.symm) hown (hts _ (List.mem_of_getElem? (i := 9) rfl)) (hts _ (List.mem_of_getElem? (i := 10) rfl)) (hts _ (List.mem_of_getElem? (i := 11) rfl)) (hts _ (List.mem_of_getElem? (i := 12) rfl)) (Nat.le_of_ble_eq_true rfl) (Nat.le_of_ble_eq_true rfl) (by omega) (by omega) dX5_roundOn_99 ?_
                refine z_toi (y := zmax 0 (((fA rd me (hA lo c e g (tk, g) n).2 k2) 6 k2) - 1)) rfl ?_
                refine z_mv (va_runV (As := [.int (nI k2), .int 6, .int (zmax 0 (((fA rd me (hA lo c e g (tk, g) n).2 k2) 6 k2) - 1))]) (rest := []) hfix (zcX5_put l D cI H7 b tn n (jf (fA rd me (hA lo c e g (tk, g) n).2 k2) me lo c) (jf g me lo c) (zn e) (nm rd ((hA lo c e g (tk, g) n).1)) k2 6 (zmax 0 (((fA rd me (hA lo c e g (tk, g) n).2 k2) 6 k2) - 1)) hM9 (by omega) (by omega)) (cwV 3 hts gX5_roundOn_X5_put rfl rfl rfl (by decide +kernel) ⟨Nat.le_of_ble_eq_true rfl, Nat.le_of_ble_eq_true rfl⟩) (z_preV hK hK hM9 (ci := 5) (q0 := 0) rfl rfl rfl) rfl rfl hl.1 rfl (lv_room (Nat.le_of_ble_eq_true rfl)) dX5_roundOn_102 ⟨by omega, by omega⟩) hS (fun q _ h => by simp only [zF] at h ⊢; omega) (fun q h => by simp only [zF] at h ⊢; omega) (fun H13 lo14 hB hz1 hk1 hS => ?_)
                have hB1 := hB.1
                rw [jf_z2 (show 6 < 7 by omega)] at hB1
                have hz : H13.size = H.size := (hB.2).trans hz
                have hM15 : va_P D vwCl (zMo cI b tn n (jf (z2 (fA rd me (hA lo c e g (tk, g) n).2 k2) 6 k2 (zmax 0 (((fA rd me (hA lo c e g (tk, g) n).2 k2) 6 k2) - 1))) me lo c) (jf g me lo c) (zn e) (nm rd ((hA lo c e g (tk, g) n).1))) H13 := hB1
                refine lv_iinc (v := (nI (k2 + 1))) (lv' := [(1, .int (nI (k2 + 1))), (0, .ref b)]) hx hb dX5_roundOn_105 hl (k := 0) rfl (nI_1 _) (by decide) rfl (fun ls hl => ?_)
                refine lv_goto (tgt := 58) hx hb dX5_roundOn_108 (by decide) ?_
                exact ih (k2 + 1) (by omega) (by omega) _ (rfl) _ _ ((by first | (rw [zfA_n c82]; exact hM15) | (rw [zfA_y c82, zmax_comm]; exact hM15))) hz hS _ (lv_sub hl [0, 1] rfl)
        exact loop58 _ 0 (Nat.lt_succ_self _) (by omega) _ (rfl) _ _ (by rw [show hA lo c e g (tk, g) n = hA lo c e g (tk, g) k by rw [show n = k by omega]]; exact hM6) hz hS _ (lv_sub hl [0, 1] rfl)
      · have c25 := z_nle (a := n) (b := k) c25 (by omega) (by omega)
        refine lv_aload_n hx hb dX5_roundOn_28 rfl (lv_at hl 1 rfl) ?_
        refine va_get (D := D) (ci := 5) (v := .ref (b + 4)) (C := RX5) (T := TX5) (N := 6) hx hb hts hinX5 hown hK hM6 0 rfl rfl 5 (by decide) (hts _ (List.mem_of_getElem? (i := 8) rfl)) (fun _ h9 => h9) rfl dX5_roundOn_29 ?_
        refine lv_iconst (v := 1) hx hb dX5_roundOn_32 (by decide) ?_
        refine lv_dup2_11 hx hb dX5_roundOn_33 rfl rfl ?_
        refine z_iald (a := (b + 4)) (n := 2) (f := (nm rd ((hA lo c e g (tk, g) k).1))) (j := 1) hx hb hK hM6 4 0 rfl rfl rfl (by omega) (by omega) dX5_roundOn_34 ?_
        refine z_toi (y := ((hA lo c e g (tk, g) k).1)) rfl ?_
        refine lv_aload_n hx hb dX5_roundOn_35 rfl (lv_at hl 1 rfl) ?_
        refine lv_iload_n hx hb dX5_roundOn_36 rfl (lv_at hl 0 rfl) ?_
        refine z_mi (va_runV (As := [.int (nI k)]) (rest := [.int ((hA lo c e g (tk, g) k).1), .int 1, .ref (b + 4)]) hfix (zcX5_takes l D cI H4 b tn n ((hA lo c e g (tk, g) k).2) me lo c g e rd ((hA lo c e g (tk, g) k).1) k hM6 hI hZ (by omega)) (cwV 1 hts gX5_roundOn_X5_takes rfl rfl rfl (by decide +kernel) ⟨Nat.le_of_ble_eq_true rfl, Nat.le_of_ble_eq_true rfl⟩) (z_preV hK hK hM6 (ci := 5) (q0 := 0) rfl rfl rfl) rfl rfl hl.1 rfl (lv_room (Nat.le_of_ble_eq_true rfl)) dX5_roundOn_37 ⟨by omega, by omega⟩) hS (fun q _ h => by simp only [zF] at h ⊢; omega) (fun q h => by simp only [zF] at h ⊢; omega) (fun H16 lo17 hB hz1 hk1 hS => ?_)
        have hz : H16.size = H.size := (hB.2).trans hz
        have hM18 : va_P D vwCl (zMo cI b tn n (jf (stG lo c e g k ((hA lo c e g (tk, g) k).2)) me lo c) (jf g me lo c) (zn e) (nm rd ((hA lo c e g (tk, g) k).1))) H16 := hB.1
        refine lv_if_eq (tgt := 47) hx hb dX5_roundOn_40 (by decide) (fun c40 => ?_) (fun c40 => ?_)
        · have c40 := zb_0 c40
          refine lv_iconst (v := 0) hx hb dX5_roundOn_47 (by decide) ?_
          refine lv_iadd hx hb dX5_roundOn_48 ?_
          refine z_iast (n := 2) (f := (nm rd ((hA lo c e g (tk, g) k).1))) (x := (((hA lo c e g (tk, g) k).1) + 0)) (j := 1) hx hb hK hM18 (by simp only [zF]; omega) hS 4 0 rfl rfl rfl (by omega) (by omega) dX5_roundOn_49 (fun H19 lo20 hP1 hz1 hk1 hS => ?_)
          have hz : H19.size = H.size := by omega
          have hM21 : va_P D vwCl (zMo cI b tn n (jf (stG lo c e g k ((hA lo c e g (tk, g) k).2)) me lo c) (jf g me lo c) (zn e) (nm rd (((hA lo c e g (tk, g) k).1) + 0))) H19 := z_set zMo_c hM18 4 rfl (z_arr_ext hP1 (fun j hj => nm_1 j hj)) (fun q _ h => hk1 q h)
          refine lv_iinc (v := (nI (k + 1))) (lv' := [(1, .int (nI (k + 1))), (0, .ref b)]) hx hb dX5_roundOn_50 hl (k := 0) rfl (nI_1 _) (by decide) rfl (fun ls hl => ?_)
          refine lv_goto (tgt := 20) hx hb dX5_roundOn_53 (by decide) ?_
          exact ih (k + 1) (by omega) (by omega) _ (rfl) _ _ ((by rw [hA_g]; first | (rw [hA_y c40]; exact hM21) | (have h9 := hM21; rw [Int32.add_zero] at h9; rw [hA_n c40]; exact h9))) hz hS _ (lv_sub hl [0, 1] rfl)
        · have c40 := zb_1 c40
          refine lv_iconst (v := 1) hx hb dX5_roundOn_43 (by decide) ?_
          refine lv_goto (tgt := 48) hx hb dX5_roundOn_44 (by decide) ?_
          refine lv_iadd hx hb dX5_roundOn_48 ?_
          refine z_iast (n := 2) (f := (nm rd ((hA lo c e g (tk, g) k).1))) (x := (((hA lo c e g (tk, g) k).1) + 1)) (j := 1) hx hb hK hM18 (by simp only [zF]; omega) hS 4 0 rfl rfl rfl (by omega) (by omega) dX5_roundOn_49 (fun H22 lo23 hP1 hz1 hk1 hS => ?_)
          have hz : H22.size = H.size := by omega
          have hM24 : va_P D vwCl (zMo cI b tn n (jf (stG lo c e g k ((hA lo c e g (tk, g) k).2)) me lo c) (jf g me lo c) (zn e) (nm rd (((hA lo c e g (tk, g) k).1) + 1))) H22 := z_set zMo_c hM18 4 rfl (z_arr_ext hP1 (fun j hj => nm_1 j hj)) (fun q _ h => hk1 q h)
          refine lv_iinc (v := (nI (k + 1))) (lv' := [(1, .int (nI (k + 1))), (0, .ref b)]) hx hb dX5_roundOn_50 hl (k := 0) rfl (nI_1 _) (by decide) rfl (fun ls hl => ?_)
          refine lv_goto (tgt := 20) hx hb dX5_roundOn_53 (by decide) ?_
          exact ih (k + 1) (by omega) (by omega) _ (rfl) _ _ ((by rw [hA_g]; first | (rw [hA_y c40]; exact hM24) | (have h9 := hM24; rw [Int32.add_zero] at h9; rw [hA_n c40]; exact h9))) hz hS _ (lv_sub hl [0, 1] rfl)
  exact loop20 _ 0 (Nat.lt_succ_self _) (by omega) _ (rfl) _ _ hM3 hz hS _ (lv_sub hl [0, 1] rfl)
set_option maxHeartbeats 4000000 in
set_option maxRecDepth 100000 in
/-- roundsOn -/
theorem zcX5_roundsOn (l : Launch) (D : va_G) (cI : ClassId) (H : Heap) (b : Nat) (tn : Int32) (n : Nat) (g : zG) (me : Nat → Int32) (lo : Nat → Int32) (c : Nat → Nat) (bf : Nat → Int32) (e : Nat → Nat) (rd : Int32) (tk : Int32) (r : Nat) (hM : va_P D vwCl (zMo cI b tn n (jf g me lo c) bf (zn e) (nm rd tk)) H) (hI : zI n me lo c e) (hZ : zJ n g) (hr9 : r ≤ 200) : Met l yX5_roundsOn wsX5_roundsOn ({ frames := 4, cells := 0, slots := 0, locals := 89 } : Room) (zPc D [(cI, .int)] H [.ref b, .int (nI r)]) (zM (fun H1 => (∃ bf9 : Nat → Int32, va_P D vwCl (zMo cI b tn n (jf ((rN n me lo c e (rd, tk, g) r).2.2) me lo c) bf9 (zn e) (nm ((rN n me lo c e (rd, tk, g) r).1) ((rN n me lo c e (rd, tk, g) r).2.1))) H1) ∧ H1.size = H.size) none (zF b (b + 5))) 0 0 (zF b (b + 5)) := by
  refine z_enter (cc := cX5_roundsOn) (maxL := 3) (ret := none) (by decide) rfl (Nat.le_of_ble_eq_true rfl) ?_
  intro pg ev s m args below meth cd hfix hr hlocks hname hK hHs ls hl
  obtain ⟨hx, hb, hml, hown, hts⟩ := id hfix
  have hl : lv_has ls 3 [(0, .ref b), (1, .int (nI r))] := hl
  have hS : va_S (zF b (b + 5)) s.heap H [] := by rw [hHs]; exact va_S.rf
  have hz : H.size = H.size := rfl
  have hn := zI_n hI
  refine lv_iconst (v := 0) hx hb dX5_roundsOn_0 (by decide) ?_
  refine lv_istore_n (lv' := [(2, .int 0), (0, .ref b), (1, .int (nI r))]) hx hb dX5_roundsOn_1 rfl hl (by decide) rfl (fun ls hl => ?_)
  have loop2 : ∀ (fu : Nat) (k : Nat) (bf0 : Nat → Int32), r - k < fu → (k ≤ r) → ∀ (x2 : Int32), x2 = (nI k) → ∀ (H1 : Heap) (lo2 : List Loc), va_P D vwCl (zMo cI b tn n (jf ((rN n me lo c e (rd, tk, g) k).2.2) me lo c) bf0 (zn e) (nm ((rN n me lo c e (rd, tk, g) k).1) ((rN n me lo c e (rd, tk, g) k).2.1))) H1 → H1.size = H.size → va_S (zF b (b + 5)) s.heap H1 lo2 → ∀ ls : Array Slot, lv_has ls 3 [(2, .int x2), (0, .ref b), (1, .int (nI r))] → W pg l ev ({ frames := 4, cells := 0, slots := 0, locals := 89 } : Room) s m args below meth cd H1 lo2 0 0 (MQ below (zM (fun H1 => (∃ bf9 : Nat → Int32, va_P D vwCl (zMo cI b tn n (jf ((rN n me lo c e (rd, tk, g) r).2.2) me lo c) bf9 (zn e) (nm ((rN n me lo c e (rd, tk, g) r).1) ((rN n me lo c e (rd, tk, g) r).2.1))) H1) ∧ H1.size = H.size) none (zF b (b + 5))) args s 0 0 (zF b (b + 5))) (F0 m 2 ls []) := by
    intro fu
    induction fu with
    | zero => intro k bf0 hfu; exact absurd hfu (Nat.not_lt_zero _)
    | succ fu ih =>
      intro k bf0 hfu hi2_0 x2 ex2 H1 lo2 hM3 hz hS ls hl
      subst ex2
      refine lv_iload_n hx hb dX5_roundsOn_2 rfl (lv_at hl 0 rfl) ?_
      refine lv_iload_n hx hb dX5_roundsOn_3 rfl (lv_at hl 2 rfl) ?_
      refine lv_icmp_ge (tgt := 17) hx hb dX5_roundsOn_4 (by decide) (fun c4 => ?_) (fun c4 => ?_)
      · have c4 := z_le (a := r) (b := k) c4 (by omega) (by omega)
        exact z_vretM (⟨⟨_, by rw [show r = k by omega]; exact hM3⟩, hz⟩) hx hb hr hlocks hS dX5_roundsOn_17
      · have c4 := z_nle (a := r) (b := k) c4 (by omega) (by omega)
        refine lv_aload_n hx hb dX5_roundsOn_7 rfl (lv_at hl 1 rfl) ?_
        refine z_mv (va_runV (As := []) (rest := []) hfix (zcX5_roundOn l D cI H1 b tn n ((rN n me lo c e (rd, tk, g) k).2.2) me lo c bf0 e ((rN n me lo c e (rd, tk, g) k).1) ((rN n me lo c e (rd, tk, g) k).2.1) hM3 hI (zJ_rN hI (t := (rd, tk, g)) hZ k)) (cwV 0 hts gX5_roundsOn_X5_roundOn rfl rfl rfl (by decide +kernel) ⟨Nat.le_of_ble_eq_true rfl, Nat.le_of_ble_eq_true rfl⟩) (z_preV hK hK hM3 (ci := 5) (q0 := 0) rfl rfl rfl) rfl rfl hl.1 rfl (lv_room (Nat.le_of_ble_eq_true rfl)) dX5_roundsOn_8 ⟨by omega, by omega⟩) hS (fun q _ h => by simp only [zF] at h ⊢; omega) (fun q h => by simp only [zF] at h ⊢; omega) (fun H4 lo5 hB hz1 hk1 hS => ?_)
        have hz : H4.size = H.size := (hB.2).trans hz
        have hM6 : va_P D vwCl (zMo cI b tn n (jf ((rO n me lo c e (((rN n me lo c e (rd, tk, g) k).1), ((rN n me lo c e (rd, tk, g) k).2.1), ((rN n me lo c e (rd, tk, g) k).2.2))).2.2) me lo c) (jf ((rN n me lo c e (rd, tk, g) k).2.2) me lo c) (zn e) (nm ((rO n me lo c e (((rN n me lo c e (rd, tk, g) k).1), ((rN n me lo c e (rd, tk, g) k).2.1), ((rN n me lo c e (rd, tk, g) k).2.2))).1) ((rO n me lo c e (((rN n me lo c e (rd, tk, g) k).1), ((rN n me lo c e (rd, tk, g) k).2.1), ((rN n me lo c e (rd, tk, g) k).2.2))).2.1))) H4 := hB.1
        refine lv_iinc (v := (nI (k + 1))) (lv' := [(2, .int (nI (k + 1))), (0, .ref b), (1, .int (nI r))]) hx hb dX5_roundsOn_11 hl (k := 0) rfl (nI_1 _) (by decide) rfl (fun ls hl => ?_)
        refine lv_goto (tgt := 2) hx hb dX5_roundsOn_14 (by decide) ?_
        exact ih (k + 1) (jf ((rN n me lo c e (rd, tk, g) k).2.2) me lo c) (by omega) (by omega) _ (rfl) _ _ (hM6) hz hS _ (lv_sub hl [0, 1, 2] rfl)
  exact loop2 _ 0 bf (Nat.lt_succ_self _) (by omega) _ (rfl) _ _ hM hz hS _ (lv_sub hl [0, 1, 2] rfl)
set_option maxHeartbeats 4000000 in
set_option maxRecDepth 100000 in
/-- say -/
theorem zcX5_say (l : Launch) (D : va_G) (cI : ClassId) (H : Heap) (b : Nat) (tn : Int32) (n : Nat) (g : zG) (me : Nat → Int32) (lo : Nat → Int32) (c : Nat → Nat) (bf : Nat → Int32) (e : Nat → Nat) (rd : Int32) (tk : Int32) (p : Nat) (w : Int32) (x : Int32) (hM : va_P D vwCl (zMo cI b tn n (jf g me lo c) bf (zn e) (nm rd tk)) H) (hp : p < 12) : Met l yX5_say wsX5_say ({ frames := 1, cells := 1, slots := 7, locals := 18 } : Room) (zPc D [(cI, .int)] H [.ref b, .int (nI p), .int w, .int x]) (zM (fun H1 => va_P D vwCl (zMo cI b tn n (jf (wh g p w x) me lo c) bf (zn e) (nm rd tk)) H1 ∧ H.size ≤ H1.size) none (fun q => zF b (b + 5) q ∨ H.size ≤ q)) 1 7 (fun q => zF b (b + 5) q ∨ H.size ≤ q) := by
  refine z_enter (cc := cX5_say) (maxL := 5) (ret := none) (by decide) rfl (Nat.le_of_ble_eq_true rfl) ?_
  intro pg ev s m args below meth cd hfix hr hlocks hname hK hHs ls hl
  obtain ⟨hx, hb, hml, hown, hts⟩ := id hfix
  have hl : lv_has ls 5 [(0, .ref b), (1, .int (nI p)), (2, .int w), (3, .int x)] := hl
  have hS : va_S (fun q => zF b (b + 5) q ∨ H.size ≤ q) s.heap H [] := by rw [hHs]; exact va_S.rf
  have hz : H.size ≤ H.size := Nat.le_refl _
  have hinX5 : ∀ w ∈ wsX50, w ∈ wsX5_say := by decide +kernel
  refine lv_bipush (v := 7) hx hb dX5_say_0 (by decide) ?_
  have hlt : b + 4 < H.size := vx_lt hM (k := 4) rfl
  obtain ⟨q1, hq1⟩ : ∃ q, q = H.size := ⟨_, rfl⟩
  refine z_newi hx hb (hts _ (List.mem_of_getElem? (i := 1) rfl)) hK 0 rfl (N := 7) rfl (by decide) (Nat.le_of_ble_eq_true rfl) (Nat.le_of_ble_eq_true rfl) dX5_say_2 hq1.symm (fun H2 hAr3 hz1 hk1 => ?_)
  have hS := z_Sgrow hS (by omega) (fun q h => hk1 q (by omega))
  have hz : H.size ≤ H2.size := by omega
  have hM4 := zMo_kept hM (fun q h1 h2 h3 => (fun q (h9 : q < H.size) (_ : True) => hk1 q (by omega)) q h1 (trivial))
  refine lv_dup hx hb dX5_say_4 rfl ?_
  refine lv_iconst (v := 0) hx hb dX5_say_5 (by decide) ?_
  refine lv_iload_n hx hb dX5_say_6 rfl (lv_at hl 2 rfl) ?_
  refine lv_bipush (v := 100) hx hb dX5_say_7 (by decide) ?_
  refine lv_idiv hx hb dX5_say_9 (by decide) ?_
  refine z_iast (n := 7) (f := (fun _ => 0)) (x := (w / 100)) (j := 0) hx hb hK hAr3 (by simp only [zF]; omega) hS 0 0 rfl rfl rfl (by omega) (by omega) dX5_say_10 (fun H5 lo6 hP1 hz1 hk1 hS => ?_)
  have hz : H.size ≤ H5.size := by omega
  have hM7 := zMo_kept hM4 (fun q h1 h2 h3 => (fun q _ h => hk1 q h) q h1 (by omega))
  have hAr8 : va_P D vwCl (zAr cI q1 7 (upd (fun _ => 0) 0 (w / 100))) H5 := z_set zAr_c hAr3 0 rfl hP1 (fun q _ h => hk1 q h)
  refine lv_dup hx hb dX5_say_11 rfl ?_
  refine lv_iconst (v := 1) hx hb dX5_say_12 (by decide) ?_
  refine lv_iload_n hx hb dX5_say_13 rfl (lv_at hl 2 rfl) ?_
  refine lv_bipush (v := 100) hx hb dX5_say_14 (by decide) ?_
  refine lv_irem hx hb dX5_say_16 (by decide) ?_
  refine z_toi (y := zrem w 100) rfl ?_
  refine z_iast (n := 7) (f := (upd (fun _ => 0) 0 (w / 100))) (x := (zrem w 100)) (j := 1) hx hb hK hAr8 (by simp only [zF]; omega) hS 0 0 rfl rfl rfl (by omega) (by omega) dX5_say_17 (fun H9 lo10 hP1 hz1 hk1 hS => ?_)
  have hz : H.size ≤ H9.size := by omega
  have hM11 := zMo_kept hM7 (fun q h1 h2 h3 => (fun q _ h => hk1 q h) q h1 (by omega))
  have hAr12 : va_P D vwCl (zAr cI q1 7 (upd (upd (fun _ => 0) 0 (w / 100)) 1 (zrem w 100))) H9 := z_set zAr_c hAr8 0 rfl hP1 (fun q _ h => hk1 q h)
  refine lv_dup hx hb dX5_say_18 rfl ?_
  refine lv_iconst (v := 2) hx hb dX5_say_19 (by decide) ?_
  refine lv_iconst (v := (-1)) hx hb dX5_say_20 (by decide) ?_
  refine z_iast (n := 7) (f := (upd (upd (fun _ => 0) 0 (w / 100)) 1 (zrem w 100))) (x := (-1)) (j := 2) hx hb hK hAr12 (by simp only [zF]; omega) hS 0 0 rfl rfl rfl (by omega) (by omega) dX5_say_21 (fun H13 lo14 hP1 hz1 hk1 hS => ?_)
  have hz : H.size ≤ H13.size := by omega
  have hM15 := zMo_kept hM11 (fun q h1 h2 h3 => (fun q _ h => hk1 q h) q h1 (by omega))
  have hAr16 : va_P D vwCl (zAr cI q1 7 (upd (upd (upd (fun _ => 0) 0 (w / 100)) 1 (zrem w 100)) 2 (-1))) H13 := z_set zAr_c hAr12 0 rfl hP1 (fun q _ h => hk1 q h)
  refine lv_dup hx hb dX5_say_22 rfl ?_
  refine lv_iconst (v := 3) hx hb dX5_say_23 (by decide) ?_
  refine lv_iconst (v := (-1)) hx hb dX5_say_24 (by decide) ?_
  refine z_iast (n := 7) (f := (upd (upd (upd (fun _ => 0) 0 (w / 100)) 1 (zrem w 100)) 2 (-1))) (x := (-1)) (j := 3) hx hb hK hAr16 (by simp only [zF]; omega) hS 0 0 rfl rfl rfl (by omega) (by omega) dX5_say_25 (fun H17 lo18 hP1 hz1 hk1 hS => ?_)
  have hz : H.size ≤ H17.size := by omega
  have hM19 := zMo_kept hM15 (fun q h1 h2 h3 => (fun q _ h => hk1 q h) q h1 (by omega))
  have hAr20 : va_P D vwCl (zAr cI q1 7 (upd (upd (upd (upd (fun _ => 0) 0 (w / 100)) 1 (zrem w 100)) 2 (-1)) 3 (-1))) H17 := z_set zAr_c hAr16 0 rfl hP1 (fun q _ h => hk1 q h)
  refine lv_dup hx hb dX5_say_26 rfl ?_
  refine lv_iconst (v := 4) hx hb dX5_say_27 (by decide) ?_
  refine lv_iconst (v := 0) hx hb dX5_say_28 (by decide) ?_
  refine z_iast (n := 7) (f := (upd (upd (upd (upd (fun _ => 0) 0 (w / 100)) 1 (zrem w 100)) 2 (-1)) 3 (-1))) (x := 0) (j := 4) hx hb hK hAr20 (by simp only [zF]; omega) hS 0 0 rfl rfl rfl (by omega) (by omega) dX5_say_29 (fun H21 lo22 hP1 hz1 hk1 hS => ?_)
  have hz : H.size ≤ H21.size := by omega
  have hM23 := zMo_kept hM19 (fun q h1 h2 h3 => (fun q _ h => hk1 q h) q h1 (by omega))
  have hAr24 : va_P D vwCl (zAr cI q1 7 (upd (upd (upd (upd (upd (fun _ => 0) 0 (w / 100)) 1 (zrem w 100)) 2 (-1)) 3 (-1)) 4 0)) H21 := z_set zAr_c hAr20 0 rfl hP1 (fun q _ h => hk1 q h)
  refine lv_dup hx hb dX5_say_30 rfl ?_
  refine lv_iconst (v := 5) hx hb dX5_say_31 (by decide) ?_
  refine lv_iconst (v := 0) hx hb dX5_say_32 (by decide) ?_
  refine z_iast (n := 7) (f := (upd (upd (upd (upd (upd (fun _ => 0) 0 (w / 100)) 1 (zrem w 100)) 2 (-1)) 3 (-1)) 4 0)) (x := 0) (j := 5) hx hb hK hAr24 (by simp only [zF]; omega) hS 0 0 rfl rfl rfl (by omega) (by omega) dX5_say_33 (fun H25 lo26 hP1 hz1 hk1 hS => ?_)
  have hz : H.size ≤ H25.size := by omega
  have hM27 := zMo_kept hM23 (fun q h1 h2 h3 => (fun q _ h => hk1 q h) q h1 (by omega))
  have hAr28 : va_P D vwCl (zAr cI q1 7 (upd (upd (upd (upd (upd (upd (fun _ => 0) 0 (w / 100)) 1 (zrem w 100)) 2 (-1)) 3 (-1)) 4 0) 5 0)) H25 := z_set zAr_c hAr24 0 rfl hP1 (fun q _ h => hk1 q h)
  refine lv_dup hx hb dX5_say_34 rfl ?_
  refine lv_bipush (v := 6) hx hb dX5_say_35 (by decide) ?_
  refine lv_iload_n hx hb dX5_say_37 rfl (lv_at hl 3 rfl) ?_
  refine z_iast (n := 7) (f := (upd (upd (upd (upd (upd (upd (fun _ => 0) 0 (w / 100)) 1 (zrem w 100)) 2 (-1)) 3 (-1)) 4 0) 5 0)) (x := x) (j := 6) hx hb hK hAr28 (by simp only [zF]; omega) hS 0 0 rfl rfl rfl (by omega) (by omega) dX5_say_38 (fun H29 lo30 hP1 hz1 hk1 hS => ?_)
  have hz : H.size ≤ H29.size := by omega
  have hM31 := zMo_kept hM27 (fun q h1 h2 h3 => (fun q _ h => hk1 q h) q h1 (by omega))
  have hAr32 : va_P D vwCl (zAr cI q1 7 (upd (upd (upd (upd (upd (upd (upd (fun _ => 0) 0 (w / 100)) 1 (zrem w 100)) 2 (-1)) 3 (-1)) 4 0) 5 0) 6 x)) H29 := z_set zAr_c hAr28 0 rfl hP1 (fun q _ h => hk1 q h)
  refine lv_astore (lv' := [(4, .ref q1), (0, .ref b), (1, .int (nI p)), (2, .int w), (3, .int x)]) hx hb dX5_say_39 hl (by decide) rfl (fun ls hl => ?_)
  refine lv_aload hx hb dX5_say_41 (lv_at hl 0 rfl) ?_
  refine lv_iconst (v := 0) hx hb dX5_say_43 (by decide) ?_
  refine lv_aload_n hx hb dX5_say_44 rfl (lv_at hl 1 rfl) ?_
  refine va_get (D := D) (ci := 5) (v := .ref (b + 1)) (C := RX5) (T := TX5) (N := 6) hx hb hts hinX5 hown hK hM31 0 rfl rfl 2 (by decide) (hts _ (List.mem_of_getElem? (i := 2) rfl)) (fun _ h9 => h9) rfl dX5_say_45 ?_
  refine lv_bipush (v := 10) hx hb dX5_say_48 (by decide) ?_
  refine lv_iload_n hx hb dX5_say_50 rfl (lv_at hl 2 rfl) ?_
  refine lv_imul hx hb dX5_say_51 ?_
  refine z_toi (y := nI (p * 10)) ((pk_mul 10 p).trans (congrArg nI (Nat.mul_comm _ _))) ?_
  refine lv_aload hx hb dX5_say_52 (lv_at hl 0 rfl) ?_
  refine z_alen (n := 7) (f := (upd (upd (upd (upd (upd (upd (upd (fun _ => 0) 0 (w / 100)) 1 (zrem w 100)) 2 (-1)) 3 (-1)) 4 0) 5 0) 6 x)) hx hb hK hAr32 0 0 rfl rfl dX5_say_54 ?_
  refine z_copyi hx hb (by rw [hml]; exact hl.1.symm) hown (hts _ (List.mem_of_getElem? (i := 3) rfl)) (hts _ (List.mem_of_getElem? (i := 4) rfl)) (hts _ (List.mem_of_getElem? (i := 5) rfl)) (hts _ (List.mem_of_getElem? (i := 6) rfl)) hK hAr32 hM31 (by simp only [zF]; omega) hS 0 1 0 rfl rfl rfl (sj := 0) (dj := (p * 10)) (k := 7) rfl rfl rfl (by omega) (by omega) (by omega) (by omega) (Nat.le_of_ble_eq_true rfl) (Nat.le_of_ble_eq_true rfl) dX5_say_55 (fun H33 lo34 hP1 hz1 hk1 hS => ?_)
  have hz : H.size ≤ H33.size := by omega
  have e9 := jf_say (g := g) (me := me) (lo := lo) (c := c) (p := p) (w := w) (s := x) (f := upd (upd (upd (upd (upd (upd (upd (fun _ => 0) 0 (w / 100)) 1 (zrem w 100)) 2 (-1)) 3 (-1)) 4 0) 5 0) 6 x) rfl rfl rfl rfl rfl rfl rfl
  rw [e9] at hP1
  have hM35 : va_P D vwCl (zMo cI b tn n (jf (wh g p w x) me lo c) bf (zn e) (nm rd tk)) H33 := z_set zMo_c hM31 1 rfl (hP1) (fun q _ h => hk1 q h)
  have hAr36 := zAr_kept hAr32 (fun q h1 h2 h3 => (fun q _ h => hk1 q h) q h1 (by omega))
  refine W.widen (k := 1) (n := 7) (by omega) (by omega) ?_
  exact z_vretM (⟨hM35, hz⟩) hx hb hr hlocks hS dX5_say_58
set_option maxHeartbeats 4000000 in
set_option maxRecDepth 100000 in
/-- kept -/
theorem zcX5_kept (l : Launch) (D : va_G) (cI : ClassId) (cR : ClassId) (H : Heap) (b : Nat) (tn : Int32) (n : Nat) (g : zG) (me : Nat → Int32) (lo : Nat → Int32) (c : Nat → Nat) (bf : Nat → Int32) (e : Nat → Nat) (rd : Int32) (tk : Int32) (hM : va_P D vwCl (zMo cI b tn n (jf g me lo c) bf (zn e) (nm rd tk)) H) : Met l yX5_kept wsX5_kept ({ frames := 1, cells := 3, slots := 124, locals := 17 } : Room) (zPk D [(cI, .int), (cR, .array .int)] H [.ref b]) (zM (fun H1 => va_P D vwCl (zMo cI b tn n (jf g me lo c) bf (zn e) (nm rd tk)) H1 ∧ va_P D vwCl (zKp cI cR H.size (jf g me lo c) (nm rd tk)) H1 ∧ H.size ≤ H1.size) (some (.ref H.size)) (fun q => H.size ≤ q)) 3 124 (fun q => H.size ≤ q) := by
  refine z_kenter (cc := cX5_kept) (maxL := 1) (ret := (some (.array (.array .int)))) (by decide) rfl (Nat.le_of_ble_eq_true rfl) ?_
  intro pg ev s m args below meth cd hfix hr hlocks hname hK hHs hKw ls hl
  have hK1 : va_K D vwCl [(cI, .int)] s := hK.sub [0] rfl
  obtain ⟨hx, hb, hml, hown, hts⟩ := id hfix
  have hl : lv_has ls 1 [(0, .ref b)] := hl
  have hS : va_S (fun q => H.size ≤ q) s.heap H [] := by rw [hHs]; exact va_S.rf
  have hz : H.size ≤ H.size := Nat.le_refl _
  have hinX5 : ∀ w ∈ wsX50, w ∈ wsX5_kept := by decide +kernel
  refine lv_iconst (v := 2) hx hb dX5_kept_0 (by decide) ?_
  have hlt : b + 4 < H.size := vx_lt hM (k := 4) rfl
  refine z_newq hx hb hown (hts _ (List.mem_of_getElem? (i := 1) rfl)) hKw hK 1 rfl (N := 2) rfl (by decide) (Nat.le_of_ble_eq_true rfl) (Nat.le_of_ble_eq_true rfl) dX5_kept_1 (h := H.size) rfl (fun H1 hQ2 hz1 hk1 => ?_)
  have hS := z_Sgrow hS (by omega) (fun q h => hk1 q (by omega))
  have hz : H.size ≤ H1.size := by omega
  have hM3 := zMo_kept hM (fun q h1 h2 h3 => (fun q (h9 : q < H.size) (_ : True) => hk1 q (by omega)) q h1 (trivial))
  refine lv_dup hx hb dX5_kept_4 rfl ?_
  refine lv_iconst (v := 0) hx hb dX5_kept_5 (by decide) ?_
  refine lv_aload_n hx hb dX5_kept_6 rfl (lv_at hl 0 rfl) ?_
  refine va_get (D := D) (ci := 5) (v := .ref (b + 1)) (C := RX5) (T := TX5) (N := 6) hx hb hts hinX5 hown hK hM3 0 rfl rfl 2 (by decide) (hts _ (List.mem_of_getElem? (i := 2) rfl)) (fun _ h9 => h9) rfl dX5_kept_7 ?_
  refine z_clone hx hb (by rw [hml]; exact hl.1.symm) hown (hts _ (List.mem_of_getElem? (i := 3) rfl)) (hts _ (List.mem_of_getElem? (i := 4) rfl)) (hts _ (List.mem_of_getElem? (i := 5) rfl)) (hts _ (List.mem_of_getElem? (i := 6) rfl)) (hts _ (List.mem_of_getElem? (i := 7) rfl)) hKw hK hM3 1 0 rfl rfl (Nat.le_of_ble_eq_true rfl) (Nat.le_of_ble_eq_true rfl) (Nat.le_of_ble_eq_true rfl) (Nat.le_of_ble_eq_true rfl) dX5_kept_10 (h := H.size + 1) (by omega) (fun H4 hA5 hz1 hk1 => ?_)
  have hS := z_Sgrow hS (by omega) (fun q h => hk1 q (by omega))
  have hz : H.size ≤ H4.size := by omega
  have hM6 := zMo_kept hM3 (fun q h1 h2 h3 => (fun q (h9 : q < H1.size) (_ : True) => hk1 q (by omega)) q h1 (trivial))
  have hQ7 := zQ1_kept hQ2 (fun q h1 h2 h3 => (fun q (h9 : q < H1.size) (_ : True) => hk1 q (by omega)) q h1 (trivial))
  refine va_castA hx hb hown (hts _ (List.mem_of_getElem? (i := 1) rfl)) hA5 0 rfl (va_nm_int (hK.2 0 _ rfl).2) dX5_kept_13 ?_
  refine z_aast (j := 0) hx hb hKw hK hQ7 hA5 (by show H.size ≤ _; omega) hS 0 0 1 0 rfl rfl rfl rfl rfl (by omega) (by omega) dX5_kept_16 (fun H8 lo9 hP1 hz1 hk1 hS => ?_)
  have hz : H.size ≤ H8.size := by omega
  have hM10 := zMo_kept hM6 (fun q h1 h2 h3 => (fun q _ h => hk1 q h) q h1 (by omega))
  have hQ11 : va_P D vwCl [(H.size, zQa cR 2 (va_up (fun _ => none) 0 (some (H.size + 1))))] H8 := hP1
  have hA12 := zAr_kept hA5 (fun q h1 h2 h3 => (fun q _ h => hk1 q h) q h1 (by omega))
  refine lv_dup hx hb dX5_kept_17 rfl ?_
  refine lv_iconst (v := 1) hx hb dX5_kept_18 (by decide) ?_
  refine lv_aload_n hx hb dX5_kept_19 rfl (lv_at hl 0 rfl) ?_
  refine va_get (D := D) (ci := 5) (v := .ref (b + 4)) (C := RX5) (T := TX5) (N := 6) hx hb hts hinX5 hown hK hM10 0 rfl rfl 5 (by decide) (hts _ (List.mem_of_getElem? (i := 8) rfl)) (fun _ h9 => h9) rfl dX5_kept_20 ?_
  refine z_clone hx hb (by rw [hml]; exact hl.1.symm) hown (hts _ (List.mem_of_getElem? (i := 3) rfl)) (hts _ (List.mem_of_getElem? (i := 4) rfl)) (hts _ (List.mem_of_getElem? (i := 5) rfl)) (hts _ (List.mem_of_getElem? (i := 6) rfl)) (hts _ (List.mem_of_getElem? (i := 7) rfl)) hKw hK hM10 4 0 rfl rfl (Nat.le_of_ble_eq_true rfl) (Nat.le_of_ble_eq_true rfl) (Nat.le_of_ble_eq_true rfl) (Nat.le_of_ble_eq_true rfl) dX5_kept_23 (h := H.size + 2) (by omega) (fun H13 hA14 hz1 hk1 => ?_)
  have hS := z_Sgrow hS (by omega) (fun q h => hk1 q (by omega))
  have hz : H.size ≤ H13.size := by omega
  have hM15 := zMo_kept hM10 (fun q h1 h2 h3 => (fun q (h9 : q < H8.size) (_ : True) => hk1 q (by omega)) q h1 (trivial))
  have hQ16 := zQ1_kept hQ11 (fun q h1 h2 h3 => (fun q (h9 : q < H8.size) (_ : True) => hk1 q (by omega)) q h1 (trivial))
  have hA17 := zAr_kept hA12 (fun q h1 h2 h3 => (fun q (h9 : q < H8.size) (_ : True) => hk1 q (by omega)) q h1 (trivial))
  refine va_castA hx hb hown (hts _ (List.mem_of_getElem? (i := 1) rfl)) hA14 0 rfl (va_nm_int (hK.2 0 _ rfl).2) dX5_kept_26 ?_
  refine z_aast (j := 1) hx hb hKw hK hQ16 hA14 (by show H.size ≤ _; omega) hS 0 0 1 0 rfl rfl rfl rfl rfl (by omega) (by omega) dX5_kept_29 (fun H18 lo19 hP1 hz1 hk1 hS => ?_)
  have hz : H.size ≤ H18.size := by omega
  have hM20 := zMo_kept hM15 (fun q h1 h2 h3 => (fun q _ h => hk1 q h) q h1 (by omega))
  have hQ21 : va_P D vwCl [(H.size, zQa cR 2 (va_up (va_up (fun _ => none) 0 (some (H.size + 1))) 1 (some (H.size + 2))))] H18 := hP1
  have hA22 := zAr_kept hA17 (fun q h1 h2 h3 => (fun q _ h => hk1 q h) q h1 (by omega))
  have hA23 := zAr_kept hA14 (fun q h1 h2 h3 => (fun q _ h => hk1 q h) q h1 (by omega))
  refine W.widen (k := 3) (n := 124) (by omega) (by omega) ?_
  exact z_aretM (⟨hM20, zKp_of hQ21 hA22 hA23, hz⟩) hx hb hr (Or.inr ⟨_, rfl⟩) hlocks hS dX5_kept_30
set_option maxHeartbeats 4000000 in
set_option maxRecDepth 100000 in
/-- bringBack -/
theorem zcX5_bringBack (l : Launch) (D : va_G) (cI : ClassId) (cR : ClassId) (H : Heap) (b : Nat) (tn : Int32) (n : Nat) (J : Nat → Int32) (bf : Nat → Int32) (E : Nat → Int32) (Nm : Nat → Int32) (kb : Nat) (J9 : Nat → Int32) (N9 : Nat → Int32) (hM : va_P D vwCl (zMo cI b tn n J bf E Nm) H) (hQ : va_P D vwCl (zKp cI cR kb J9 N9) H) (hdj : b + 5 ≤ kb ∨ kb + 3 ≤ b) : Met l yX5_bringBack wsX5_bringBack ({ frames := 1, cells := 0, slots := 0, locals := 18 } : Room) (zPk D [(cI, .int), (cR, .array .int)] H [.ref b, .ref kb]) (zM (fun H1 => va_P D vwCl (zMo cI b tn n J9 bf E N9) H1 ∧ H1.size = H.size) none (zF b (b + 5))) 0 0 (zF b (b + 5)) := by
  refine z_kenter (cc := cX5_bringBack) (maxL := 2) (ret := none) (by decide) rfl (Nat.le_of_ble_eq_true rfl) ?_
  intro pg ev s m args below meth cd hfix hr hlocks hname hK hHs hKw ls hl
  have hK1 : va_K D vwCl [(cI, .int)] s := hK.sub [0] rfl
  obtain ⟨hx, hb, hml, hown, hts⟩ := id hfix
  have hl : lv_has ls 2 [(0, .ref b), (1, .ref kb)] := hl
  have hS : va_S (zF b (b + 5)) s.heap H [] := by rw [hHs]; exact va_S.rf
  have hz : H.size = H.size := rfl
  have hinX5 : ∀ w ∈ wsX50, w ∈ wsX5_bringBack := by decide +kernel
  refine lv_aload_n hx hb dX5_bringBack_0 rfl (lv_at hl 1 rfl) ?_
  refine lv_iconst (v := 0) hx hb dX5_bringBack_1 (by decide) ?_
  refine z_aald hx hb hK hQ 0 1 rfl rfl (j := 0) rfl (by omega) (by omega) (v := (kb + 1)) rfl dX5_bringBack_2 ?_
  refine lv_iconst (v := 0) hx hb dX5_bringBack_3 (by decide) ?_
  refine lv_aload_n hx hb dX5_bringBack_4 rfl (lv_at hl 0 rfl) ?_
  refine va_get (D := D) (ci := 5) (v := .ref (b + 1)) (C := RX5) (T := TX5) (N := 6) hx hb hts hinX5 hown hK hM 0 rfl rfl 2 (by decide) (hts _ (List.mem_of_getElem? (i := 1) rfl)) (fun _ h9 => h9) rfl dX5_bringBack_5 ?_
  refine lv_iconst (v := 0) hx hb dX5_bringBack_8 (by decide) ?_
  refine lv_aload_n hx hb dX5_bringBack_9 rfl (lv_at hl 0 rfl) ?_
  refine va_get (D := D) (ci := 5) (v := .ref (b + 1)) (C := RX5) (T := TX5) (N := 6) hx hb hts hinX5 hown hK hM 0 rfl rfl 2 (by decide) (hts _ (List.mem_of_getElem? (i := 1) rfl)) (fun _ h9 => h9) rfl dX5_bringBack_10 ?_
  refine z_alen (n := 120) (f := J) hx hb hK hM 1 0 rfl rfl dX5_bringBack_13 ?_
  refine z_copyi hx hb (by rw [hml]; exact hl.1.symm) hown (hts _ (List.mem_of_getElem? (i := 2) rfl)) (hts _ (List.mem_of_getElem? (i := 3) rfl)) (hts _ (List.mem_of_getElem? (i := 4) rfl)) (hts _ (List.mem_of_getElem? (i := 5) rfl)) hK hQ hM (by simp only [zF]; omega) hS 1 1 0 rfl rfl rfl (sj := 0) (dj := 0) (k := 120) rfl rfl rfl (by omega) (by omega) (by omega) (by omega) (Nat.le_of_ble_eq_true rfl) (Nat.le_of_ble_eq_true rfl) dX5_bringBack_14 (fun H1 lo2 hP1 hz1 hk1 hS => ?_)
  have hz : H1.size = H.size := by omega
  have hM3 : va_P D vwCl (zMo cI b tn n J9 bf E Nm) H1 := z_set zMo_c hM 1 rfl (z_arr_ext hP1 (fun j hj => sb_cpy0 hj)) (fun q _ h => hk1 q h)
  have hQ4 := zKp_kept hQ (fun q h1 h2 h3 => (fun q _ h => hk1 q h) q h1 (by omega))
  refine lv_aload_n hx hb dX5_bringBack_17 rfl (lv_at hl 1 rfl) ?_
  refine lv_iconst (v := 1) hx hb dX5_bringBack_18 (by decide) ?_
  refine z_aald hx hb hK hQ4 0 1 rfl rfl (j := 1) rfl (by omega) (by omega) (v := (kb + 2)) rfl dX5_bringBack_19 ?_
  refine lv_iconst (v := 0) hx hb dX5_bringBack_20 (by decide) ?_
  refine lv_aload_n hx hb dX5_bringBack_21 rfl (lv_at hl 0 rfl) ?_
  refine va_get (D := D) (ci := 5) (v := .ref (b + 4)) (C := RX5) (T := TX5) (N := 6) hx hb hts hinX5 hown hK hM3 0 rfl rfl 5 (by decide) (hts _ (List.mem_of_getElem? (i := 6) rfl)) (fun _ h9 => h9) rfl dX5_bringBack_22 ?_
  refine lv_iconst (v := 0) hx hb dX5_bringBack_25 (by decide) ?_
  refine lv_aload_n hx hb dX5_bringBack_26 rfl (lv_at hl 0 rfl) ?_
  refine va_get (D := D) (ci := 5) (v := .ref (b + 4)) (C := RX5) (T := TX5) (N := 6) hx hb hts hinX5 hown hK hM3 0 rfl rfl 5 (by decide) (hts _ (List.mem_of_getElem? (i := 6) rfl)) (fun _ h9 => h9) rfl dX5_bringBack_27 ?_
  refine z_alen (n := 2) (f := Nm) hx hb hK hM3 4 0 rfl rfl dX5_bringBack_30 ?_
  refine z_copyi hx hb (by rw [hml]; exact hl.1.symm) hown (hts _ (List.mem_of_getElem? (i := 2) rfl)) (hts _ (List.mem_of_getElem? (i := 3) rfl)) (hts _ (List.mem_of_getElem? (i := 4) rfl)) (hts _ (List.mem_of_getElem? (i := 5) rfl)) hK hQ4 hM3 (by simp only [zF]; omega) hS 2 4 0 rfl rfl rfl (sj := 0) (dj := 0) (k := 2) rfl rfl rfl (by omega) (by omega) (by omega) (by omega) (Nat.le_of_ble_eq_true rfl) (Nat.le_of_ble_eq_true rfl) dX5_bringBack_31 (fun H5 lo6 hP1 hz1 hk1 hS => ?_)
  have hz : H5.size = H.size := by omega
  have hM7 : va_P D vwCl (zMo cI b tn n J9 bf E N9) H5 := z_set zMo_c hM3 4 rfl (z_arr_ext hP1 (fun j hj => sb_cpy0 hj)) (fun q _ h => hk1 q h)
  have hQ8 := zKp_kept hQ4 (fun q h1 h2 h3 => (fun q _ h => hk1 q h) q h1 (by omega))
  exact z_vretM (⟨hM7, hz⟩) hx hb hr hlocks hS dX5_bringBack_34
