set_option maxHeartbeats 4000000 in
set_option maxRecDepth 100000 in
/-- come returns -/
theorem zcX5_come_k (l : Launch) (D : va_G) (cI : ClassId) (H : Heap) (b : Nat) (tn : Int32) (n : Nat) (g : zG) (me : Nat → Int32) (lo : Nat → Int32) (c : Nat → Nat) (bf : Nat → Int32) (e : Nat → Nat) (rd : Int32) (tk : Int32) (m9 : Nat) (x : Nat) (hM : va_P D vwCl (zMo cI b tn n (jf g me lo c) bf (zn e) (nm rd tk)) H) (hI : zI n me lo c e) (hm1 : 1 ≤ m9) (hm2 : m9 ≤ 9) (hx1 : 1 ≤ x) (hx2 : x ≤ 5) (hn12 : n < 12) : Met l yX5_come wsX5_come ({ frames := 1, cells := 1, slots := 10, locals := 22 } : Room) (zPc D [(cI, .int)] H [.ref b, .int (nI m9), .int (nI x)]) (zM (fun H1 => va_P D vwCl (zMo cI b 0 (n + 1) (jf (wh g n 0 0) (upd me n (nI m9)) (upd lo n (nI x)) c) bf (zn e) (nm rd tk)) H1 ∧ H.size ≤ H1.size) (some (.int (nI n))) (fun q => zF b (b + 5) q ∨ H.size ≤ q)) 1 10 (fun q => zF b (b + 5) q ∨ H.size ≤ q) := by
  refine z_enter (cc := cX5_come) (maxL := 4) (ret := (some .int)) (by decide) rfl (Nat.le_of_ble_eq_true rfl) ?_
  intro pg ev s m args below meth cd hfix hr hlocks hname hK hHs ls hl
  obtain ⟨hx, hb, hml, hown, hts⟩ := id hfix
  have hl : lv_has ls 4 [(0, .ref b), (1, .int (nI m9)), (2, .int (nI x))] := hl
  have hS : va_S (fun q => zF b (b + 5) q ∨ H.size ≤ q) s.heap H [] := by rw [hHs]; exact va_S.rf
  have hz : H.size ≤ H.size := Nat.le_refl _
  have hinX5 : ∀ w ∈ wsX50, w ∈ wsX5_come := by decide +kernel
  have hn := zI_n hI
  refine lv_aload_n hx hb dX5_come_0 rfl (lv_at hl 0 rfl) ?_
  refine lv_iconst (v := 0) hx hb dX5_come_1 (by decide) ?_
  refine z_put (D := D) (ci := 5) (v := .int 0) (ty := .int) (C := RX5) (T := TX5) (N := 6) hx hb hts hinX5 tyX5 tyX5_ok nmX5 hown hK hM (by simp only [zF]; omega) hS 0 rfl rfl 0 (by decide) (hts _ (List.mem_of_getElem? (i := 1) rfl)) (fun _ h9 => h9) rfl (by decide +kernel) rfl rfl (Nat.le_of_ble_eq_true rfl) dX5_come_2 (fun H1 lo2 hP1 hz1 hk1 hS => ?_)
  have hz : H.size ≤ H1.size := by omega
  have hM3 : va_P D vwCl (zMo cI b 0 n (jf g me lo c) bf (zn e) (nm rd tk)) H1 := z_set zMo_c hM 0 rfl hP1 (fun q _ h => hk1 q h)
  refine lv_iload_n hx hb dX5_come_5 rfl (lv_at hl 1 rfl) ?_
  refine lv_iconst (v := 1) hx hb dX5_come_6 (by decide) ?_
  refine lv_bipush (v := 9) hx hb dX5_come_7 (by decide) ?_
  refine z_ki (va_runS (As := [.int (nI m9), .int 1, .int 9]) (rest := []) hfix (zcX5_isIn l D cI H1 (nI m9) 1 9 ) (va_cwS 3 hts gX5_come_X5_isIn rfl rfl rfl (by decide +kernel) ⟨Nat.le_of_ble_eq_true rfl, Nat.le_of_ble_eq_true rfl⟩) (z_preS hK) rfl rfl hl.1 rfl (lv_room (Nat.le_of_ble_eq_true rfl)) dX5_come_9 ⟨by omega, by omega⟩) ?_
  refine lv_if_eq (tgt := 24) hx hb dX5_come_12 (by decide) (fun c12 => ?_) (fun c12 => ?_)
  · have c12 := zb_0 c12
    exact absurd (z_in (a := 1) (b := 9) hm1 hm2 (by omega)) c12
  · have c12 := zb_1 c12
    refine lv_iload_n hx hb dX5_come_15 rfl (lv_at hl 2 rfl) ?_
    refine lv_iconst (v := 1) hx hb dX5_come_16 (by decide) ?_
    refine lv_iconst (v := 5) hx hb dX5_come_17 (by decide) ?_
    refine z_ki (va_runS (As := [.int (nI x), .int 1, .int 5]) (rest := []) hfix (zcX5_isIn l D cI H1 (nI x) 1 5 ) (va_cwS 3 hts gX5_come_X5_isIn rfl rfl rfl (by decide +kernel) ⟨Nat.le_of_ble_eq_true rfl, Nat.le_of_ble_eq_true rfl⟩) (z_preS hK) rfl rfl hl.1 rfl (lv_room (Nat.le_of_ble_eq_true rfl)) dX5_come_18 ⟨by omega, by omega⟩) ?_
    refine lv_if_ne (tgt := 30) hx hb dX5_come_21 (by decide) (fun c21 => ?_) (fun c21 => ?_)
    · have c21 := zb_1 c21
      refine lv_aload_n hx hb dX5_come_30 rfl (lv_at hl 0 rfl) ?_
      refine va_get (D := D) (ci := 5) (v := .int (nI n)) (C := RX5) (T := TX5) (N := 6) hx hb hts hinX5 hown hK hM3 0 rfl rfl 1 (by decide) (hts _ (List.mem_of_getElem? (i := 2) rfl)) (fun _ h9 => h9) rfl dX5_come_31 ?_
      refine lv_bipush (v := 12) hx hb dX5_come_34 (by decide) ?_
      refine lv_icmp_ne (tgt := 45) hx hb dX5_come_36 (by decide) (fun c36 => ?_) (fun c36 => ?_)
      · have c36 := z_ne (a := n) (b := 12) c36 (by omega) (by omega)
        refine lv_bipush (v := 10) hx hb dX5_come_45 (by decide) ?_
        have hlt : b + 4 < H1.size := vx_lt hM3 (k := 4) rfl
        obtain ⟨q4, hq4⟩ : ∃ q, q = H1.size := ⟨_, rfl⟩
        refine z_newi hx hb (hts _ (List.mem_of_getElem? (i := 3) rfl)) hK 0 rfl (N := 10) rfl (by decide) (Nat.le_of_ble_eq_true rfl) (Nat.le_of_ble_eq_true rfl) dX5_come_47 hq4.symm (fun H5 hAr6 hz1 hk1 => ?_)
        have hS := z_Sgrow hS (by omega) (fun q h => hk1 q (by omega))
        have hz : H.size ≤ H5.size := by omega
        have hM7 := zMo_kept hM3 (fun q h1 h2 h3 => (fun q (h9 : q < H1.size) (_ : True) => hk1 q (by omega)) q h1 (trivial))
        refine lv_dup hx hb dX5_come_49 rfl ?_
        refine lv_iconst (v := 0) hx hb dX5_come_50 (by decide) ?_
        refine lv_iconst (v := 0) hx hb dX5_come_51 (by decide) ?_
        refine z_iast (n := 10) (f := (fun _ => 0)) (x := 0) (j := 0) hx hb hK hAr6 (by simp only [zF]; omega) hS 0 0 rfl rfl rfl (by omega) (by omega) dX5_come_52 (fun H8 lo9 hP1 hz1 hk1 hS => ?_)
        have hz : H.size ≤ H8.size := by omega
        have hM10 := zMo_kept hM7 (fun q h1 h2 h3 => (fun q _ h => hk1 q h) q h1 (by omega))
        have hAr11 : va_P D vwCl (zAr cI q4 10 (upd (fun _ => 0) 0 0)) H8 := z_set zAr_c hAr6 0 rfl hP1 (fun q _ h => hk1 q h)
        refine lv_dup hx hb dX5_come_53 rfl ?_
        refine lv_iconst (v := 1) hx hb dX5_come_54 (by decide) ?_
        refine lv_iconst (v := 0) hx hb dX5_come_55 (by decide) ?_
        refine z_iast (n := 10) (f := (upd (fun _ => 0) 0 0)) (x := 0) (j := 1) hx hb hK hAr11 (by simp only [zF]; omega) hS 0 0 rfl rfl rfl (by omega) (by omega) dX5_come_56 (fun H12 lo13 hP1 hz1 hk1 hS => ?_)
        have hz : H.size ≤ H12.size := by omega
        have hM14 := zMo_kept hM10 (fun q h1 h2 h3 => (fun q _ h => hk1 q h) q h1 (by omega))
        have hAr15 : va_P D vwCl (zAr cI q4 10 (upd (upd (fun _ => 0) 0 0) 1 0)) H12 := z_set zAr_c hAr11 0 rfl hP1 (fun q _ h => hk1 q h)
        refine lv_dup hx hb dX5_come_57 rfl ?_
        refine lv_iconst (v := 2) hx hb dX5_come_58 (by decide) ?_
        refine lv_iconst (v := (-1)) hx hb dX5_come_59 (by decide) ?_
        refine z_iast (n := 10) (f := (upd (upd (fun _ => 0) 0 0) 1 0)) (x := (-1)) (j := 2) hx hb hK hAr15 (by simp only [zF]; omega) hS 0 0 rfl rfl rfl (by omega) (by omega) dX5_come_60 (fun H16 lo17 hP1 hz1 hk1 hS => ?_)
        have hz : H.size ≤ H16.size := by omega
        have hM18 := zMo_kept hM14 (fun q h1 h2 h3 => (fun q _ h => hk1 q h) q h1 (by omega))
        have hAr19 : va_P D vwCl (zAr cI q4 10 (upd (upd (upd (fun _ => 0) 0 0) 1 0) 2 (-1))) H16 := z_set zAr_c hAr15 0 rfl hP1 (fun q _ h => hk1 q h)
        refine lv_dup hx hb dX5_come_61 rfl ?_
        refine lv_iconst (v := 3) hx hb dX5_come_62 (by decide) ?_
        refine lv_iconst (v := (-1)) hx hb dX5_come_63 (by decide) ?_
        refine z_iast (n := 10) (f := (upd (upd (upd (fun _ => 0) 0 0) 1 0) 2 (-1))) (x := (-1)) (j := 3) hx hb hK hAr19 (by simp only [zF]; omega) hS 0 0 rfl rfl rfl (by omega) (by omega) dX5_come_64 (fun H20 lo21 hP1 hz1 hk1 hS => ?_)
        have hz : H.size ≤ H20.size := by omega
        have hM22 := zMo_kept hM18 (fun q h1 h2 h3 => (fun q _ h => hk1 q h) q h1 (by omega))
        have hAr23 : va_P D vwCl (zAr cI q4 10 (upd (upd (upd (upd (fun _ => 0) 0 0) 1 0) 2 (-1)) 3 (-1))) H20 := z_set zAr_c hAr19 0 rfl hP1 (fun q _ h => hk1 q h)
        refine lv_dup hx hb dX5_come_65 rfl ?_
        refine lv_iconst (v := 4) hx hb dX5_come_66 (by decide) ?_
        refine lv_iconst (v := 0) hx hb dX5_come_67 (by decide) ?_
        refine z_iast (n := 10) (f := (upd (upd (upd (upd (fun _ => 0) 0 0) 1 0) 2 (-1)) 3 (-1))) (x := 0) (j := 4) hx hb hK hAr23 (by simp only [zF]; omega) hS 0 0 rfl rfl rfl (by omega) (by omega) dX5_come_68 (fun H24 lo25 hP1 hz1 hk1 hS => ?_)
        have hz : H.size ≤ H24.size := by omega
        have hM26 := zMo_kept hM22 (fun q h1 h2 h3 => (fun q _ h => hk1 q h) q h1 (by omega))
        have hAr27 : va_P D vwCl (zAr cI q4 10 (upd (upd (upd (upd (upd (fun _ => 0) 0 0) 1 0) 2 (-1)) 3 (-1)) 4 0)) H24 := z_set zAr_c hAr23 0 rfl hP1 (fun q _ h => hk1 q h)
        refine lv_dup hx hb dX5_come_69 rfl ?_
        refine lv_iconst (v := 5) hx hb dX5_come_70 (by decide) ?_
        refine lv_iconst (v := 0) hx hb dX5_come_71 (by decide) ?_
        refine z_iast (n := 10) (f := (upd (upd (upd (upd (upd (fun _ => 0) 0 0) 1 0) 2 (-1)) 3 (-1)) 4 0)) (x := 0) (j := 5) hx hb hK hAr27 (by simp only [zF]; omega) hS 0 0 rfl rfl rfl (by omega) (by omega) dX5_come_72 (fun H28 lo29 hP1 hz1 hk1 hS => ?_)
        have hz : H.size ≤ H28.size := by omega
        have hM30 := zMo_kept hM26 (fun q h1 h2 h3 => (fun q _ h => hk1 q h) q h1 (by omega))
        have hAr31 : va_P D vwCl (zAr cI q4 10 (upd (upd (upd (upd (upd (upd (fun _ => 0) 0 0) 1 0) 2 (-1)) 3 (-1)) 4 0) 5 0)) H28 := z_set zAr_c hAr27 0 rfl hP1 (fun q _ h => hk1 q h)
        refine lv_dup hx hb dX5_come_73 rfl ?_
        refine lv_bipush (v := 6) hx hb dX5_come_74 (by decide) ?_
        refine lv_iconst (v := 0) hx hb dX5_come_76 (by decide) ?_
        refine z_iast (n := 10) (f := (upd (upd (upd (upd (upd (upd (fun _ => 0) 0 0) 1 0) 2 (-1)) 3 (-1)) 4 0) 5 0)) (x := 0) (j := 6) hx hb hK hAr31 (by simp only [zF]; omega) hS 0 0 rfl rfl rfl (by omega) (by omega) dX5_come_77 (fun H32 lo33 hP1 hz1 hk1 hS => ?_)
        have hz : H.size ≤ H32.size := by omega
        have hM34 := zMo_kept hM30 (fun q h1 h2 h3 => (fun q _ h => hk1 q h) q h1 (by omega))
        have hAr35 : va_P D vwCl (zAr cI q4 10 (upd (upd (upd (upd (upd (upd (upd (fun _ => 0) 0 0) 1 0) 2 (-1)) 3 (-1)) 4 0) 5 0) 6 0)) H32 := z_set zAr_c hAr31 0 rfl hP1 (fun q _ h => hk1 q h)
        refine lv_dup hx hb dX5_come_78 rfl ?_
        refine lv_bipush (v := 7) hx hb dX5_come_79 (by decide) ?_
        refine lv_iload_n hx hb dX5_come_81 rfl (lv_at hl 1 rfl) ?_
        refine z_iast (n := 10) (f := (upd (upd (upd (upd (upd (upd (upd (fun _ => 0) 0 0) 1 0) 2 (-1)) 3 (-1)) 4 0) 5 0) 6 0)) (x := (nI m9)) (j := 7) hx hb hK hAr35 (by simp only [zF]; omega) hS 0 0 rfl rfl rfl (by omega) (by omega) dX5_come_82 (fun H36 lo37 hP1 hz1 hk1 hS => ?_)
        have hz : H.size ≤ H36.size := by omega
        have hM38 := zMo_kept hM34 (fun q h1 h2 h3 => (fun q _ h => hk1 q h) q h1 (by omega))
        have hAr39 : va_P D vwCl (zAr cI q4 10 (upd (upd (upd (upd (upd (upd (upd (upd (fun _ => 0) 0 0) 1 0) 2 (-1)) 3 (-1)) 4 0) 5 0) 6 0) 7 (nI m9))) H36 := z_set zAr_c hAr35 0 rfl hP1 (fun q _ h => hk1 q h)
        refine lv_dup hx hb dX5_come_83 rfl ?_
        refine lv_bipush (v := 8) hx hb dX5_come_84 (by decide) ?_
        refine lv_iload_n hx hb dX5_come_86 rfl (lv_at hl 2 rfl) ?_
        refine z_iast (n := 10) (f := (upd (upd (upd (upd (upd (upd (upd (upd (fun _ => 0) 0 0) 1 0) 2 (-1)) 3 (-1)) 4 0) 5 0) 6 0) 7 (nI m9))) (x := (nI x)) (j := 8) hx hb hK hAr39 (by simp only [zF]; omega) hS 0 0 rfl rfl rfl (by omega) (by omega) dX5_come_87 (fun H40 lo41 hP1 hz1 hk1 hS => ?_)
        have hz : H.size ≤ H40.size := by omega
        have hM42 := zMo_kept hM38 (fun q h1 h2 h3 => (fun q _ h => hk1 q h) q h1 (by omega))
        have hAr43 : va_P D vwCl (zAr cI q4 10 (upd (upd (upd (upd (upd (upd (upd (upd (upd (fun _ => 0) 0 0) 1 0) 2 (-1)) 3 (-1)) 4 0) 5 0) 6 0) 7 (nI m9)) 8 (nI x))) H40 := z_set zAr_c hAr39 0 rfl hP1 (fun q _ h => hk1 q h)
        refine lv_dup hx hb dX5_come_88 rfl ?_
        refine lv_bipush (v := 9) hx hb dX5_come_89 (by decide) ?_
        refine lv_iconst (v := 0) hx hb dX5_come_91 (by decide) ?_
        refine z_iast (n := 10) (f := (upd (upd (upd (upd (upd (upd (upd (upd (upd (fun _ => 0) 0 0) 1 0) 2 (-1)) 3 (-1)) 4 0) 5 0) 6 0) 7 (nI m9)) 8 (nI x))) (x := 0) (j := 9) hx hb hK hAr43 (by simp only [zF]; omega) hS 0 0 rfl rfl rfl (by omega) (by omega) dX5_come_92 (fun H44 lo45 hP1 hz1 hk1 hS => ?_)
        have hz : H.size ≤ H44.size := by omega
        have hM46 := zMo_kept hM42 (fun q h1 h2 h3 => (fun q _ h => hk1 q h) q h1 (by omega))
        have hAr47 : va_P D vwCl (zAr cI q4 10 (upd (upd (upd (upd (upd (upd (upd (upd (upd (upd (fun _ => 0) 0 0) 1 0) 2 (-1)) 3 (-1)) 4 0) 5 0) 6 0) 7 (nI m9)) 8 (nI x)) 9 0)) H44 := z_set zAr_c hAr43 0 rfl hP1 (fun q _ h => hk1 q h)
        refine lv_astore_n (lv' := [(3, .ref q4), (0, .ref b), (1, .int (nI m9)), (2, .int (nI x))]) hx hb dX5_come_93 rfl hl (by decide) rfl (fun ls hl => ?_)
        refine lv_aload_n hx hb dX5_come_94 rfl (lv_at hl 0 rfl) ?_
        refine lv_iconst (v := 0) hx hb dX5_come_95 (by decide) ?_
        refine lv_aload_n hx hb dX5_come_96 rfl (lv_at hl 1 rfl) ?_
        refine va_get (D := D) (ci := 5) (v := .ref (b + 1)) (C := RX5) (T := TX5) (N := 6) hx hb hts hinX5 hown hK hM46 0 rfl rfl 2 (by decide) (hts _ (List.mem_of_getElem? (i := 4) rfl)) (fun _ h9 => h9) rfl dX5_come_97 ?_
        refine lv_bipush (v := 10) hx hb dX5_come_100 (by decide) ?_
        refine lv_aload_n hx hb dX5_come_102 rfl (lv_at hl 1 rfl) ?_
        refine va_get (D := D) (ci := 5) (v := .int (nI n)) (C := RX5) (T := TX5) (N := 6) hx hb hts hinX5 hown hK hM46 0 rfl rfl 1 (by decide) (hts _ (List.mem_of_getElem? (i := 2) rfl)) (fun _ h9 => h9) rfl dX5_come_103 ?_
        refine lv_imul hx hb dX5_come_106 ?_
        refine z_toi (y := nI (n * 10)) ((pk_mul 10 n).trans (congrArg nI (Nat.mul_comm _ _))) ?_
        refine lv_bipush (v := 10) hx hb dX5_come_107 (by decide) ?_
        refine z_copyi hx hb (by rw [hml]; exact hl.1.symm) hown (hts _ (List.mem_of_getElem? (i := 5) rfl)) (hts _ (List.mem_of_getElem? (i := 6) rfl)) (hts _ (List.mem_of_getElem? (i := 7) rfl)) (hts _ (List.mem_of_getElem? (i := 8) rfl)) hK hAr47 hM46 (by simp only [zF]; omega) hS 0 1 0 rfl rfl rfl (sj := 0) (dj := (n * 10)) (k := 10) rfl rfl rfl (by omega) (by omega) (by omega) (by omega) (Nat.le_of_ble_eq_true rfl) (Nat.le_of_ble_eq_true rfl) dX5_come_109 (fun H48 lo49 hP1 hz1 hk1 hS => ?_)
        have hz : H.size ≤ H48.size := by omega
        have e9 := jf_come (g := g) (me := me) (lo := lo) (c := c) (n := n) (m := nI m9) (x := nI x) (f := upd (upd (upd (upd (upd (upd (upd (upd (upd (upd (fun _ => 0) 0 0) 1 0) 2 (-1)) 3 (-1)) 4 0) 5 0) 6 0) 7 (nI m9)) 8 (nI x)) 9 0) (hI.2.2 n (Nat.le_refl _)) rfl rfl rfl rfl rfl rfl rfl rfl rfl rfl
        rw [e9] at hP1
        have hM50 : va_P D vwCl (zMo cI b 0 n (jf (wh g n 0 0) (upd me n (nI m9)) (upd lo n (nI x)) c) bf (zn e) (nm rd tk)) H48 := z_set zMo_c hM46 1 rfl (hP1) (fun q _ h => hk1 q h)
        have hAr51 := zAr_kept hAr47 (fun q h1 h2 h3 => (fun q _ h => hk1 q h) q h1 (by omega))
        refine lv_aload_n hx hb dX5_come_112 rfl (lv_at hl 1 rfl) ?_
        refine lv_dup hx hb dX5_come_113 rfl ?_
        refine va_get (D := D) (ci := 5) (v := .int (nI n)) (C := RX5) (T := TX5) (N := 6) hx hb hts hinX5 hown hK hM50 0 rfl rfl 1 (by decide) (hts _ (List.mem_of_getElem? (i := 2) rfl)) (fun _ h9 => h9) rfl dX5_come_114 ?_
        refine lv_iconst (v := 1) hx hb dX5_come_117 (by decide) ?_
        refine lv_iadd hx hb dX5_come_118 ?_
        refine z_toi (y := nI (n + 1)) (nI_add n 1) ?_
        refine z_put (D := D) (ci := 5) (v := .int (nI (n + 1))) (ty := .int) (C := RX5) (T := TX5) (N := 6) hx hb hts hinX5 tyX5 tyX5_ok nmX5 hown hK hM50 (by simp only [zF]; omega) hS 0 rfl rfl 1 (by decide) (hts _ (List.mem_of_getElem? (i := 2) rfl)) (fun _ h9 => h9) rfl (by decide +kernel) rfl rfl (Nat.le_of_ble_eq_true rfl) dX5_come_119 (fun H52 lo53 hP1 hz1 hk1 hS => ?_)
        have hz : H.size ≤ H52.size := by omega
        have hM54 : va_P D vwCl (zMo cI b 0 (n + 1) (jf (wh g n 0 0) (upd me n (nI m9)) (upd lo n (nI x)) c) bf (zn e) (nm rd tk)) H52 := z_set zMo_c hM50 0 rfl hP1 (fun q _ h => hk1 q h)
        have hAr55 := zAr_kept hAr51 (fun q h1 h2 h3 => (fun q _ h => hk1 q h) q h1 (by omega))
        refine lv_aload_n hx hb dX5_come_122 rfl (lv_at hl 1 rfl) ?_
        refine va_get (D := D) (ci := 5) (v := .int (nI (n + 1))) (C := RX5) (T := TX5) (N := 6) hx hb hts hinX5 hown hK hM54 0 rfl rfl 1 (by decide) (hts _ (List.mem_of_getElem? (i := 2) rfl)) (fun _ h9 => h9) rfl dX5_come_123 ?_
        refine lv_iconst (v := 1) hx hb dX5_come_126 (by decide) ?_
        refine lv_isub hx hb dX5_come_127 ?_
        refine z_toi (y := (nI n)) (nI_pred _) ?_
        refine W.widen (k := 1) (n := 10) (by omega) (by omega) ?_
        exact z_iretM (⟨hM54, hz⟩) hx hb hr hlocks hS dX5_come_128
      · have c36 := z_eq (a := n) (b := 12) c36 (by omega) (by omega)
        omega
    · have c21 := zb_0 c21
      exact absurd (z_in (a := 1) (b := 5) hx1 hx2 (by omega)) c21
set_option maxHeartbeats 4000000 in
set_option maxRecDepth 100000 in
/-- listen returns -/
theorem zcX5_listen_ka (l : Launch) (D : va_G) (cI : ClassId) (H : Heap) (b : Nat) (tn : Int32) (n : Nat) (g : zG) (me : Nat → Int32) (lo : Nat → Int32) (c : Nat → Nat) (bf : Nat → Int32) (e : Nat → Nat) (rd : Int32) (tk : Int32) (p : Nat) (o : Nat) (hM : va_P D vwCl (zMo cI b tn n (jf g me lo c) bf (zn e) (nm rd tk)) H) (hI : zI n me lo c e) (hp : p < n) (ho : o < n) (hpo9 : ¬ p = o) (hpn : po e p o (c p) = none) (hc9 : c p < 4) : Met l yX5_listen wsX5_listen ({ frames := 2, cells := 0, slots := 0, locals := 45 } : Room) (zPc D [(cI, .int)] H [.ref b, .int (nI p), .int (nI o)]) (zM (fun H1 => va_P D vwCl (zMo cI b 0 n (jf g me lo (zu c p (c p + 1))) bf (zn (zu e (p * 4 + c p) o)) (nm rd tk)) H1 ∧ H1.size = H.size) (some (.int (nI (c p + 1)))) (zF b (b + 5))) 0 0 (zF b (b + 5)) := by
  refine z_enter (cc := cX5_listen) (maxL := 5) (ret := (some .int)) (by decide) rfl (Nat.le_of_ble_eq_true rfl) ?_
  intro pg ev s m args below meth cd hfix hr hlocks hname hK hHs ls hl
  obtain ⟨hx, hb, hml, hown, hts⟩ := id hfix
  have hl : lv_has ls 5 [(0, .ref b), (1, .int (nI p)), (2, .int (nI o))] := hl
  have hS : va_S (zF b (b + 5)) s.heap H [] := by rw [hHs]; exact va_S.rf
  have hz : H.size = H.size := rfl
  have hinX5 : ∀ w ∈ wsX50, w ∈ wsX5_listen := by decide +kernel
  have hn := zI_n hI
  have hzu : zu c p (c p + 1) p = c p + 1 := by simp [zu]
  refine lv_aload_n hx hb dX5_listen_0 rfl (lv_at hl 0 rfl) ?_
  refine lv_iconst (v := 0) hx hb dX5_listen_1 (by decide) ?_
  refine z_put (D := D) (ci := 5) (v := .int 0) (ty := .int) (C := RX5) (T := TX5) (N := 6) hx hb hts hinX5 tyX5 tyX5_ok nmX5 hown hK hM (by simp only [zF]; omega) hS 0 rfl rfl 0 (by decide) (hts _ (List.mem_of_getElem? (i := 1) rfl)) (fun _ h9 => h9) rfl (by decide +kernel) rfl rfl (Nat.le_of_ble_eq_true rfl) dX5_listen_2 (fun H1 lo2 hP1 hz1 hk1 hS => ?_)
  have hz : H1.size = H.size := by omega
  have hM3 : va_P D vwCl (zMo cI b 0 n (jf g me lo c) bf (zn e) (nm rd tk)) H1 := z_set zMo_c hM 0 rfl hP1 (fun q _ h => hk1 q h)
  refine lv_aload_n hx hb dX5_listen_5 rfl (lv_at hl 0 rfl) ?_
  refine lv_iload_n hx hb dX5_listen_6 rfl (lv_at hl 1 rfl) ?_
  refine z_ki (va_runV (As := [.int (nI p)]) (rest := []) hfix (zcX5_isParrot l D cI H1 b 0 n (jf g me lo c) bf (zn e) (nm rd tk) (nI p) hM3) (cwV 1 hts gX5_listen_X5_isParrot rfl rfl rfl (by decide +kernel) ⟨Nat.le_of_ble_eq_true rfl, Nat.le_of_ble_eq_true rfl⟩) (z_preV hK hK hM3 (ci := 5) (q0 := 0) rfl rfl rfl) rfl rfl hl.1 rfl (lv_room (Nat.le_of_ble_eq_true rfl)) dX5_listen_7 ⟨by omega, by omega⟩) ?_
  refine lv_if_eq (tgt := 21) hx hb dX5_listen_10 (by decide) (fun c10 => ?_) (fun c10 => ?_)
  · have c10 := zb_0 c10
    exact absurd ((z_isP hn).mpr ⟨p, hp, rfl⟩) c10
  · have c10 := zb_1 c10
    refine lv_aload_n hx hb dX5_listen_13 rfl (lv_at hl 0 rfl) ?_
    refine lv_iload_n hx hb dX5_listen_14 rfl (lv_at hl 2 rfl) ?_
    refine z_ki (va_runV (As := [.int (nI o)]) (rest := []) hfix (zcX5_isParrot l D cI H1 b 0 n (jf g me lo c) bf (zn e) (nm rd tk) (nI o) hM3) (cwV 1 hts gX5_listen_X5_isParrot rfl rfl rfl (by decide +kernel) ⟨Nat.le_of_ble_eq_true rfl, Nat.le_of_ble_eq_true rfl⟩) (z_preV hK hK hM3 (ci := 5) (q0 := 0) rfl rfl rfl) rfl rfl hl.1 rfl (lv_room (Nat.le_of_ble_eq_true rfl)) dX5_listen_15 ⟨by omega, by omega⟩) ?_
    refine lv_if_ne (tgt := 27) hx hb dX5_listen_18 (by decide) (fun c18 => ?_) (fun c18 => ?_)
    · have c18 := zb_1 c18
      refine lv_iload_n hx hb dX5_listen_27 rfl (lv_at hl 1 rfl) ?_
      refine lv_iload_n hx hb dX5_listen_28 rfl (lv_at hl 2 rfl) ?_
      refine lv_icmp_ne (tgt := 38) hx hb dX5_listen_29 (by decide) (fun c29 => ?_) (fun c29 => ?_)
      · have c29 := z_ne (a := p) (b := o) c29 (by omega) (by omega)
        refine lv_aload_n hx hb dX5_listen_38 rfl (lv_at hl 0 rfl) ?_
        refine lv_iload_n hx hb dX5_listen_39 rfl (lv_at hl 1 rfl) ?_
        refine lv_iload_n hx hb dX5_listen_40 rfl (lv_at hl 2 rfl) ?_
        refine z_ki (va_runV (As := [.int (nI p), .int (nI o)]) (rest := []) hfix (zcX5_place l D cI H1 b 0 n g me lo c bf e rd tk p o hM3 hI (by omega) (by omega)) (cwV 2 hts gX5_listen_X5_place rfl rfl rfl (by decide +kernel) ⟨Nat.le_of_ble_eq_true rfl, Nat.le_of_ble_eq_true rfl⟩) (z_preV hK hK hM3 (ci := 5) (q0 := 0) rfl rfl rfl) rfl rfl hl.1 rfl (lv_room (Nat.le_of_ble_eq_true rfl)) dX5_listen_41 ⟨by omega, by omega⟩) ?_
        refine lv_istore_n (lv' := [(3, .int (zo (po e p o (c p)))), (0, .ref b), (1, .int (nI p)), (2, .int (nI o))]) hx hb dX5_listen_44 rfl hl (by decide) rfl (fun ls hl => ?_)
        refine lv_aload_n hx hb dX5_listen_45 rfl (lv_at hl 1 rfl) ?_
        refine lv_iload_n hx hb dX5_listen_46 rfl (lv_at hl 2 rfl) ?_
        refine lv_bipush (v := 9) hx hb dX5_listen_47 (by decide) ?_
        refine z_ki (va_runV (As := [.int (nI p), .int 9]) (rest := []) hfix (zcX5_ju l D cI H1 b 0 n (jf g me lo c) bf (zn e) (nm rd tk) p 9 hM3 (by omega) (by omega)) (cwV 2 hts gX5_listen_X5_ju rfl rfl rfl (by decide +kernel) ⟨Nat.le_of_ble_eq_true rfl, Nat.le_of_ble_eq_true rfl⟩) (z_preV hK hK hM3 (ci := 5) (q0 := 0) rfl rfl rfl) rfl rfl hl.1 rfl (lv_room (Nat.le_of_ble_eq_true rfl)) dX5_listen_49 ⟨by omega, by omega⟩) ?_
        refine z_toi (y := (nI (c p))) (jf_9) ?_
        refine lv_istore (lv' := [(4, .int (nI (c p))), (3, .int (zo (po e p o (c p)))), (0, .ref b), (1, .int (nI p)), (2, .int (nI o))]) hx hb dX5_listen_52 hl (by decide) rfl (fun ls hl => ?_)
        refine lv_iload_n hx hb dX5_listen_54 rfl (lv_at hl 1 rfl) ?_
        refine lv_iconst (v := (-1)) hx hb dX5_listen_55 (by decide) ?_
        refine lv_icmp_ne (tgt := 71) hx hb dX5_listen_56 (by decide) (fun c56 => ?_) (fun c56 => ?_)
        · exact absurd (by rw [hpn]; rfl) c56
        · refine lv_iload hx hb dX5_listen_59 (lv_at hl 0 rfl) ?_
          refine lv_iconst (v := 4) hx hb dX5_listen_61 (by decide) ?_
          refine lv_icmp_ne (tgt := 71) hx hb dX5_listen_62 (by decide) (fun c62 => ?_) (fun c62 => ?_)
          · have c62 := z_ne (a := c p) (b := 4) c62 (by omega) (by omega)
            refine lv_iload_n hx hb dX5_listen_71 rfl (lv_at hl 1 rfl) ?_
            refine lv_iconst (v := (-1)) hx hb dX5_listen_72 (by decide) ?_
            refine lv_icmp_ne (tgt := 91) hx hb dX5_listen_73 (by decide) (fun c73 => ?_) (fun c73 => ?_)
            · exact absurd (by rw [hpn]; rfl) c73
            · refine lv_aload_n hx hb dX5_listen_76 rfl (lv_at hl 2 rfl) ?_
              refine va_get (D := D) (ci := 5) (v := .ref (b + 3)) (C := RX5) (T := TX5) (N := 6) hx hb hts hinX5 hown hK hM3 0 rfl rfl 4 (by decide) (hts _ (List.mem_of_getElem? (i := 2) rfl)) (fun _ h9 => h9) rfl dX5_listen_77 ?_
              refine lv_iconst (v := 4) hx hb dX5_listen_80 (by decide) ?_
              refine lv_iload_n hx hb dX5_listen_81 rfl (lv_at hl 3 rfl) ?_
              refine lv_imul hx hb dX5_listen_82 ?_
              refine z_toi (y := nI (p * 4)) ((pk_mul 4 p).trans (congrArg nI (Nat.mul_comm _ _))) ?_
              refine lv_iload hx hb dX5_listen_83 (lv_at hl 0 rfl) ?_
              refine lv_iadd hx hb dX5_listen_85 ?_
              refine z_toi (y := nI (p * 4 + (c p))) (nI_add (p * 4) (c p)) ?_
              refine lv_iload_n hx hb dX5_listen_86 rfl (lv_at hl 4 rfl) ?_
              refine z_iast (n := 48) (f := (zn e)) (x := (nI o)) (j := (p * 4 + (c p))) hx hb hK hM3 (by simp only [zF]; omega) hS 3 0 rfl rfl rfl (by omega) (by omega) dX5_listen_87 (fun H4 lo5 hP1 hz1 hk1 hS => ?_)
              have hz : H4.size = H.size := by omega
              have hM6 : va_P D vwCl (zMo cI b 0 n (jf g me lo c) bf (zn (zu e (p * 4 + (c p)) o)) (nm rd tk)) H4 := z_set zMo_c hM3 3 rfl (by rw [zn_u] at hP1; exact hP1) (fun q _ h => hk1 q h)
              refine lv_goto (tgt := 120) hx hb dX5_listen_88 (by decide) ?_
              refine lv_aload_n hx hb dX5_listen_120 rfl (lv_at hl 2 rfl) ?_
              refine lv_iload_n hx hb dX5_listen_121 rfl (lv_at hl 3 rfl) ?_
              refine lv_bipush (v := 9) hx hb dX5_listen_122 (by decide) ?_
              refine lv_iload_n hx hb dX5_listen_124 rfl (lv_at hl 1 rfl) ?_
              refine lv_iconst (v := (-1)) hx hb dX5_listen_125 (by decide) ?_
              refine lv_icmp_ne (tgt := 136) hx hb dX5_listen_126 (by decide) (fun c126 => ?_) (fun c126 => ?_)
              · exact absurd (by rw [hpn]; rfl) c126
              · refine lv_iload hx hb dX5_listen_129 (lv_at hl 0 rfl) ?_
                refine lv_iconst (v := 1) hx hb dX5_listen_131 (by decide) ?_
                refine lv_iadd hx hb dX5_listen_132 ?_
                refine z_toi (y := nI (c p + 1)) (nI_add (c p) 1) ?_
                refine lv_goto (tgt := 140) hx hb dX5_listen_133 (by decide) ?_
                refine z_mv (va_runV (As := [.int (nI p), .int 9, .int (nI (c p + 1))]) (rest := []) hfix (zcX5_put l D cI H4 b 0 n (jf g me lo c) bf (zn (zu e (p * 4 + (c p)) o)) (nm rd tk) p 9 (nI (c p + 1)) hM6 (by omega) (by omega)) (cwV 3 hts gX5_listen_X5_put rfl rfl rfl (by decide +kernel) ⟨Nat.le_of_ble_eq_true rfl, Nat.le_of_ble_eq_true rfl⟩) (z_preV hK hK hM6 (ci := 5) (q0 := 0) rfl rfl rfl) rfl rfl hl.1 rfl (lv_room (Nat.le_of_ble_eq_true rfl)) dX5_listen_140 ⟨by omega, by omega⟩) hS (fun q _ h => by simp only [zF] at h ⊢; omega) (fun q h => by simp only [zF] at h ⊢; omega) (fun H7 lo8 hB hz1 hk1 hS => ?_)
                have hB1 := hB.1
                rw [jf_c] at hB1
                have hz : H7.size = H.size := (hB.2).trans hz
                have hM9 : va_P D vwCl (zMo cI b 0 n (jf g me lo (zu c p (c p + 1))) bf (zn (zu e (p * 4 + (c p)) o)) (nm rd tk)) H7 := hB1
                refine lv_aload_n hx hb dX5_listen_143 rfl (lv_at hl 2 rfl) ?_
                refine lv_iload_n hx hb dX5_listen_144 rfl (lv_at hl 3 rfl) ?_
                refine lv_bipush (v := 9) hx hb dX5_listen_145 (by decide) ?_
                refine z_ki (va_runV (As := [.int (nI p), .int 9]) (rest := []) hfix (zcX5_ju l D cI H7 b 0 n (jf g me lo (zu c p (c p + 1))) bf (zn (zu e (p * 4 + (c p)) o)) (nm rd tk) p 9 hM9 (by omega) (by omega)) (cwV 2 hts gX5_listen_X5_ju rfl rfl rfl (by decide +kernel) ⟨Nat.le_of_ble_eq_true rfl, Nat.le_of_ble_eq_true rfl⟩) (z_preV hK hK hM9 (ci := 5) (q0 := 0) rfl rfl rfl) rfl rfl hl.1 rfl (lv_room (Nat.le_of_ble_eq_true rfl)) dX5_listen_147 ⟨by omega, by omega⟩) ?_
                refine z_toi (y := (nI ((zu c p (c p + 1)) p))) (jf_9) ?_
                refine z_toi (y := (nI (c p + 1))) (by rw [hzu]) ?_
                exact z_iretM (⟨hM9, hz⟩) hx hb hr hlocks hS dX5_listen_150
          · have c62 := z_eq (a := c p) (b := 4) c62 (by omega) (by omega)
            omega
      · have c29 := z_eq (a := p) (b := o) c29 (by omega) (by omega)
        exact absurd c29 hpo9
    · have c18 := zb_0 c18
      exact absurd ((z_isP hn).mpr ⟨o, ho, rfl⟩) c18
set_option maxHeartbeats 4000000 in
set_option maxRecDepth 100000 in
/-- listen returns -/
theorem zcX5_listen_kd (l : Launch) (D : va_G) (cI : ClassId) (H : Heap) (b : Nat) (tn : Int32) (n : Nat) (g : zG) (me : Nat → Int32) (lo : Nat → Int32) (c : Nat → Nat) (bf : Nat → Int32) (e : Nat → Nat) (rd : Int32) (tk : Int32) (p : Nat) (o : Nat) (k : Nat) (hM : va_P D vwCl (zMo cI b tn n (jf g me lo c) bf (zn e) (nm rd tk)) H) (hI : zI n me lo c e) (hp : p < n) (ho : o < n) (hpo9 : ¬ p = o) (hpn : po e p o (c p) = some k) : Met l yX5_listen wsX5_listen ({ frames := 2, cells := 0, slots := 0, locals := 45 } : Room) (zPc D [(cI, .int)] H [.ref b, .int (nI p), .int (nI o)]) (zM (fun H1 => va_P D vwCl (zMo cI b 0 n (jf g me lo (zu c p (c p - 1))) bf (zn (zdr e p k (c p - 1))) (nm rd tk)) H1 ∧ H1.size = H.size) (some (.int (nI (c p - 1)))) (zF b (b + 5))) 0 0 (zF b (b + 5)) := by
  refine z_enter (cc := cX5_listen) (maxL := 5) (ret := (some .int)) (by decide) rfl (Nat.le_of_ble_eq_true rfl) ?_
  intro pg ev s m args below meth cd hfix hr hlocks hname hK hHs ls hl
  obtain ⟨hx, hb, hml, hown, hts⟩ := id hfix
  have hl : lv_has ls 5 [(0, .ref b), (1, .int (nI p)), (2, .int (nI o))] := hl
  have hS : va_S (zF b (b + 5)) s.heap H [] := by rw [hHs]; exact va_S.rf
  have hz : H.size = H.size := rfl
  have hinX5 : ∀ w ∈ wsX50, w ∈ wsX5_listen := by decide +kernel
  have hn := zI_n hI
  have hzu : zu c p (c p - 1) p = c p - 1 := by simp [zu]
  have hkc := (zd_po_lt hpn).1
  have hc4 := zI_c hI p
  refine lv_aload_n hx hb dX5_listen_0 rfl (lv_at hl 0 rfl) ?_
  refine lv_iconst (v := 0) hx hb dX5_listen_1 (by decide) ?_
  refine z_put (D := D) (ci := 5) (v := .int 0) (ty := .int) (C := RX5) (T := TX5) (N := 6) hx hb hts hinX5 tyX5 tyX5_ok nmX5 hown hK hM (by simp only [zF]; omega) hS 0 rfl rfl 0 (by decide) (hts _ (List.mem_of_getElem? (i := 1) rfl)) (fun _ h9 => h9) rfl (by decide +kernel) rfl rfl (Nat.le_of_ble_eq_true rfl) dX5_listen_2 (fun H1 lo2 hP1 hz1 hk1 hS => ?_)
  have hz : H1.size = H.size := by omega
  have hM3 : va_P D vwCl (zMo cI b 0 n (jf g me lo c) bf (zn e) (nm rd tk)) H1 := z_set zMo_c hM 0 rfl hP1 (fun q _ h => hk1 q h)
  refine lv_aload_n hx hb dX5_listen_5 rfl (lv_at hl 0 rfl) ?_
  refine lv_iload_n hx hb dX5_listen_6 rfl (lv_at hl 1 rfl) ?_
  refine z_ki (va_runV (As := [.int (nI p)]) (rest := []) hfix (zcX5_isParrot l D cI H1 b 0 n (jf g me lo c) bf (zn e) (nm rd tk) (nI p) hM3) (cwV 1 hts gX5_listen_X5_isParrot rfl rfl rfl (by decide +kernel) ⟨Nat.le_of_ble_eq_true rfl, Nat.le_of_ble_eq_true rfl⟩) (z_preV hK hK hM3 (ci := 5) (q0 := 0) rfl rfl rfl) rfl rfl hl.1 rfl (lv_room (Nat.le_of_ble_eq_true rfl)) dX5_listen_7 ⟨by omega, by omega⟩) ?_
  refine lv_if_eq (tgt := 21) hx hb dX5_listen_10 (by decide) (fun c10 => ?_) (fun c10 => ?_)
  · have c10 := zb_0 c10
    exact absurd ((z_isP hn).mpr ⟨p, hp, rfl⟩) c10
  · have c10 := zb_1 c10
    refine lv_aload_n hx hb dX5_listen_13 rfl (lv_at hl 0 rfl) ?_
    refine lv_iload_n hx hb dX5_listen_14 rfl (lv_at hl 2 rfl) ?_
    refine z_ki (va_runV (As := [.int (nI o)]) (rest := []) hfix (zcX5_isParrot l D cI H1 b 0 n (jf g me lo c) bf (zn e) (nm rd tk) (nI o) hM3) (cwV 1 hts gX5_listen_X5_isParrot rfl rfl rfl (by decide +kernel) ⟨Nat.le_of_ble_eq_true rfl, Nat.le_of_ble_eq_true rfl⟩) (z_preV hK hK hM3 (ci := 5) (q0 := 0) rfl rfl rfl) rfl rfl hl.1 rfl (lv_room (Nat.le_of_ble_eq_true rfl)) dX5_listen_15 ⟨by omega, by omega⟩) ?_
    refine lv_if_ne (tgt := 27) hx hb dX5_listen_18 (by decide) (fun c18 => ?_) (fun c18 => ?_)
    · have c18 := zb_1 c18
      refine lv_iload_n hx hb dX5_listen_27 rfl (lv_at hl 1 rfl) ?_
      refine lv_iload_n hx hb dX5_listen_28 rfl (lv_at hl 2 rfl) ?_
      refine lv_icmp_ne (tgt := 38) hx hb dX5_listen_29 (by decide) (fun c29 => ?_) (fun c29 => ?_)
      · have c29 := z_ne (a := p) (b := o) c29 (by omega) (by omega)
        refine lv_aload_n hx hb dX5_listen_38 rfl (lv_at hl 0 rfl) ?_
        refine lv_iload_n hx hb dX5_listen_39 rfl (lv_at hl 1 rfl) ?_
        refine lv_iload_n hx hb dX5_listen_40 rfl (lv_at hl 2 rfl) ?_
        refine z_ki (va_runV (As := [.int (nI p), .int (nI o)]) (rest := []) hfix (zcX5_place l D cI H1 b 0 n g me lo c bf e rd tk p o hM3 hI (by omega) (by omega)) (cwV 2 hts gX5_listen_X5_place rfl rfl rfl (by decide +kernel) ⟨Nat.le_of_ble_eq_true rfl, Nat.le_of_ble_eq_true rfl⟩) (z_preV hK hK hM3 (ci := 5) (q0 := 0) rfl rfl rfl) rfl rfl hl.1 rfl (lv_room (Nat.le_of_ble_eq_true rfl)) dX5_listen_41 ⟨by omega, by omega⟩) ?_
        refine lv_istore_n (lv' := [(3, .int (zo (po e p o (c p)))), (0, .ref b), (1, .int (nI p)), (2, .int (nI o))]) hx hb dX5_listen_44 rfl hl (by decide) rfl (fun ls hl => ?_)
        refine lv_aload_n hx hb dX5_listen_45 rfl (lv_at hl 1 rfl) ?_
        refine lv_iload_n hx hb dX5_listen_46 rfl (lv_at hl 2 rfl) ?_
        refine lv_bipush (v := 9) hx hb dX5_listen_47 (by decide) ?_
        refine z_ki (va_runV (As := [.int (nI p), .int 9]) (rest := []) hfix (zcX5_ju l D cI H1 b 0 n (jf g me lo c) bf (zn e) (nm rd tk) p 9 hM3 (by omega) (by omega)) (cwV 2 hts gX5_listen_X5_ju rfl rfl rfl (by decide +kernel) ⟨Nat.le_of_ble_eq_true rfl, Nat.le_of_ble_eq_true rfl⟩) (z_preV hK hK hM3 (ci := 5) (q0 := 0) rfl rfl rfl) rfl rfl hl.1 rfl (lv_room (Nat.le_of_ble_eq_true rfl)) dX5_listen_49 ⟨by omega, by omega⟩) ?_
        refine z_toi (y := (nI (c p))) (jf_9) ?_
        refine lv_istore (lv' := [(4, .int (nI (c p))), (3, .int (zo (po e p o (c p)))), (0, .ref b), (1, .int (nI p)), (2, .int (nI o))]) hx hb dX5_listen_52 hl (by decide) rfl (fun ls hl => ?_)
        refine lv_iload_n hx hb dX5_listen_54 rfl (lv_at hl 1 rfl) ?_
        refine lv_iconst (v := (-1)) hx hb dX5_listen_55 (by decide) ?_
        refine lv_icmp_ne (tgt := 71) hx hb dX5_listen_56 (by decide) (fun c56 => ?_) (fun c56 => ?_)
        · refine lv_iload_n hx hb dX5_listen_71 rfl (lv_at hl 1 rfl) ?_
          refine lv_iconst (v := (-1)) hx hb dX5_listen_72 (by decide) ?_
          refine lv_icmp_ne (tgt := 91) hx hb dX5_listen_73 (by decide) (fun c73 => ?_) (fun c73 => ?_)
          · have hl : lv_has ls 5 [(4, .int (nI (c p))), (3, .int (nI k)), (0, .ref b), (1, .int (nI p)), (2, .int (nI o))] := by rw [hpn] at hl; exact hl
            refine lv_aload_n hx hb dX5_listen_91 rfl (lv_at hl 2 rfl) ?_
            refine va_get (D := D) (ci := 5) (v := .ref (b + 3)) (C := RX5) (T := TX5) (N := 6) hx hb hts hinX5 hown hK hM3 0 rfl rfl 4 (by decide) (hts _ (List.mem_of_getElem? (i := 2) rfl)) (fun _ h9 => h9) rfl dX5_listen_92 ?_
            refine lv_iconst (v := 4) hx hb dX5_listen_95 (by decide) ?_
            refine lv_iload_n hx hb dX5_listen_96 rfl (lv_at hl 3 rfl) ?_
            refine lv_imul hx hb dX5_listen_97 ?_
            refine z_toi (y := nI (p * 4)) ((pk_mul 4 p).trans (congrArg nI (Nat.mul_comm _ _))) ?_
            refine lv_iload_n hx hb dX5_listen_98 rfl (lv_at hl 1 rfl) ?_
            refine lv_iadd hx hb dX5_listen_99 ?_
            refine z_toi (y := nI (p * 4 + k)) (nI_add (p * 4) k) ?_
            refine lv_iconst (v := 1) hx hb dX5_listen_100 (by decide) ?_
            refine lv_iadd hx hb dX5_listen_101 ?_
            refine z_toi (y := nI (p * 4 + k + 1)) (nI_add (p * 4 + k) 1) ?_
            refine lv_aload_n hx hb dX5_listen_102 rfl (lv_at hl 2 rfl) ?_
            refine va_get (D := D) (ci := 5) (v := .ref (b + 3)) (C := RX5) (T := TX5) (N := 6) hx hb hts hinX5 hown hK hM3 0 rfl rfl 4 (by decide) (hts _ (List.mem_of_getElem? (i := 2) rfl)) (fun _ h9 => h9) rfl dX5_listen_103 ?_
            refine lv_iconst (v := 4) hx hb dX5_listen_106 (by decide) ?_
            refine lv_iload_n hx hb dX5_listen_107 rfl (lv_at hl 3 rfl) ?_
            refine lv_imul hx hb dX5_listen_108 ?_
            refine z_toi (y := nI (p * 4)) ((pk_mul 4 p).trans (congrArg nI (Nat.mul_comm _ _))) ?_
            refine lv_iload_n hx hb dX5_listen_109 rfl (lv_at hl 1 rfl) ?_
            refine lv_iadd hx hb dX5_listen_110 ?_
            refine z_toi (y := nI (p * 4 + k)) (nI_add (p * 4) k) ?_
            refine lv_iload hx hb dX5_listen_111 (lv_at hl 0 rfl) ?_
            refine lv_iload_n hx hb dX5_listen_113 rfl (lv_at hl 1 rfl) ?_
            refine lv_isub hx hb dX5_listen_114 ?_
            refine lv_iconst (v := 1) hx hb dX5_listen_115 (by decide) ?_
            refine lv_isub hx hb dX5_listen_116 ?_
            refine z_toi (y := nI (c p - k - 1)) (by rw [pk_sub (by omega), show (1 : Int32) = nI 1 from rfl, pk_sub (by omega)]) ?_
            refine z_copyi hx hb (by rw [hml]; exact hl.1.symm) hown (hts _ (List.mem_of_getElem? (i := 3) rfl)) (hts _ (List.mem_of_getElem? (i := 4) rfl)) (hts _ (List.mem_of_getElem? (i := 5) rfl)) (hts _ (List.mem_of_getElem? (i := 6) rfl)) hK hM3 hM3 (by simp only [zF]; omega) hS 3 3 0 rfl rfl rfl (sj := (p * 4 + k + 1)) (dj := (p * 4 + k)) (k := (c p - k - 1)) rfl rfl rfl (by omega) (by omega) (by omega) (by omega) (Nat.le_of_ble_eq_true rfl) (Nat.le_of_ble_eq_true rfl) dX5_listen_117 (fun H4 lo5 hP1 hz1 hk1 hS => ?_)
            have hz : H4.size = H.size := by omega
            rw [zn_cpy hkc] at hP1
            have hM6 : va_P D vwCl (zMo cI b 0 n (jf g me lo c) bf (zn (zdr e p k (c p - 1))) (nm rd tk)) H4 := z_set zMo_c hM3 3 rfl (hP1) (fun q _ h => hk1 q h)
            refine lv_aload_n hx hb dX5_listen_120 rfl (lv_at hl 2 rfl) ?_
            refine lv_iload_n hx hb dX5_listen_121 rfl (lv_at hl 3 rfl) ?_
            refine lv_bipush (v := 9) hx hb dX5_listen_122 (by decide) ?_
            refine lv_iload_n hx hb dX5_listen_124 rfl (lv_at hl 1 rfl) ?_
            refine lv_iconst (v := (-1)) hx hb dX5_listen_125 (by decide) ?_
            refine lv_icmp_ne (tgt := 136) hx hb dX5_listen_126 (by decide) (fun c126 => ?_) (fun c126 => ?_)
            · refine lv_iload hx hb dX5_listen_136 (lv_at hl 0 rfl) ?_
              refine lv_iconst (v := 1) hx hb dX5_listen_138 (by decide) ?_
              refine lv_isub hx hb dX5_listen_139 ?_
              refine z_toi (y := nI (c p - 1)) (by rw [show (1 : Int32) = nI 1 from rfl, pk_sub (by omega)]) ?_
              refine z_mv (va_runV (As := [.int (nI p), .int 9, .int (nI (c p - 1))]) (rest := []) hfix (zcX5_put l D cI H4 b 0 n (jf g me lo c) bf (zn (zdr e p k (c p - 1))) (nm rd tk) p 9 (nI (c p - 1)) hM6 (by omega) (by omega)) (cwV 3 hts gX5_listen_X5_put rfl rfl rfl (by decide +kernel) ⟨Nat.le_of_ble_eq_true rfl, Nat.le_of_ble_eq_true rfl⟩) (z_preV hK hK hM6 (ci := 5) (q0 := 0) rfl rfl rfl) rfl rfl hl.1 rfl (lv_room (Nat.le_of_ble_eq_true rfl)) dX5_listen_140 ⟨by omega, by omega⟩) hS (fun q _ h => by simp only [zF] at h ⊢; omega) (fun q h => by simp only [zF] at h ⊢; omega) (fun H7 lo8 hB hz1 hk1 hS => ?_)
              have hB1 := hB.1
              rw [jf_c] at hB1
              have hz : H7.size = H.size := (hB.2).trans hz
              have hM9 : va_P D vwCl (zMo cI b 0 n (jf g me lo (zu c p (c p - 1))) bf (zn (zdr e p k (c p - 1))) (nm rd tk)) H7 := hB1
              refine lv_aload_n hx hb dX5_listen_143 rfl (lv_at hl 2 rfl) ?_
              refine lv_iload_n hx hb dX5_listen_144 rfl (lv_at hl 3 rfl) ?_
              refine lv_bipush (v := 9) hx hb dX5_listen_145 (by decide) ?_
              refine z_ki (va_runV (As := [.int (nI p), .int 9]) (rest := []) hfix (zcX5_ju l D cI H7 b 0 n (jf g me lo (zu c p (c p - 1))) bf (zn (zdr e p k (c p - 1))) (nm rd tk) p 9 hM9 (by omega) (by omega)) (cwV 2 hts gX5_listen_X5_ju rfl rfl rfl (by decide +kernel) ⟨Nat.le_of_ble_eq_true rfl, Nat.le_of_ble_eq_true rfl⟩) (z_preV hK hK hM9 (ci := 5) (q0 := 0) rfl rfl rfl) rfl rfl hl.1 rfl (lv_room (Nat.le_of_ble_eq_true rfl)) dX5_listen_147 ⟨by omega, by omega⟩) ?_
              refine z_toi (y := (nI ((zu c p (c p - 1)) p))) (jf_9) ?_
              refine z_toi (y := (nI (c p - 1))) (by rw [hzu]) ?_
              exact z_iretM (⟨hM9, hz⟩) hx hb hr hlocks hS dX5_listen_150
            · exact absurd ((zo_m1 (r := some k) (fun q hq => by cases hq; omega)).mp c126) (fun h => by cases h)
          · exact absurd ((zo_m1 (fun q hq => by have h1 := (zd_po_lt hq).1; omega)).mp c73) (by rw [hpn]; exact fun h => by cases h)
        · exact absurd ((zo_m1 (fun q hq => by have h1 := (zd_po_lt hq).1; omega)).mp c56) (by rw [hpn]; exact fun h => by cases h)
      · have c29 := z_eq (a := p) (b := o) c29 (by omega) (by omega)
        exact absurd c29 hpo9
    · have c18 := zb_0 c18
      exact absurd ((z_isP hn).mpr ⟨o, ho, rfl⟩) c18
set_option maxHeartbeats 4000000 in
set_option maxRecDepth 100000 in
/-- raise returns -/
theorem zcX5_raise_k (l : Launch) (D : va_G) (cI : ClassId) (H : Heap) (b : Nat) (tn : Int32) (n : Nat) (g : zG) (me : Nat → Int32) (lo : Nat → Int32) (c : Nat → Nat) (bf : Nat → Int32) (e : Nat → Nat) (rd : Int32) (tk : Int32) (p : Nat) (x : Nat) (hM : va_P D vwCl (zMo cI b tn n (jf g me lo c) bf (zn e) (nm rd tk)) H) (hI : zI n me lo c e) (hp : p < n) (hx1 : 1 ≤ x) (hx2 : x ≤ 5) : Met l yX5_raise wsX5_raise ({ frames := 2, cells := 0, slots := 0, locals := 43 } : Room) (zPc D [(cI, .int)] H [.ref b, .int (nI p), .int (nI x)]) (zM (fun H1 => va_P D vwCl (zMo cI b 0 n (jf g me (upd lo p (nI x)) c) bf (zn e) (nm rd tk)) H1 ∧ H1.size = H.size) (some (.int (lo p))) (zF b (b + 5))) 0 0 (zF b (b + 5)) := by
  refine z_enter (cc := cX5_raise) (maxL := 4) (ret := (some .int)) (by decide) rfl (Nat.le_of_ble_eq_true rfl) ?_
  intro pg ev s m args below meth cd hfix hr hlocks hname hK hHs ls hl
  obtain ⟨hx, hb, hml, hown, hts⟩ := id hfix
  have hl : lv_has ls 4 [(0, .ref b), (1, .int (nI p)), (2, .int (nI x))] := hl
  have hS : va_S (zF b (b + 5)) s.heap H [] := by rw [hHs]; exact va_S.rf
  have hz : H.size = H.size := rfl
  have hinX5 : ∀ w ∈ wsX50, w ∈ wsX5_raise := by decide +kernel
  have hn := zI_n hI
  refine lv_aload_n hx hb dX5_raise_0 rfl (lv_at hl 0 rfl) ?_
  refine lv_iconst (v := 0) hx hb dX5_raise_1 (by decide) ?_
  refine z_put (D := D) (ci := 5) (v := .int 0) (ty := .int) (C := RX5) (T := TX5) (N := 6) hx hb hts hinX5 tyX5 tyX5_ok nmX5 hown hK hM (by simp only [zF]; omega) hS 0 rfl rfl 0 (by decide) (hts _ (List.mem_of_getElem? (i := 1) rfl)) (fun _ h9 => h9) rfl (by decide +kernel) rfl rfl (Nat.le_of_ble_eq_true rfl) dX5_raise_2 (fun H1 lo2 hP1 hz1 hk1 hS => ?_)
  have hz : H1.size = H.size := by omega
  have hM3 : va_P D vwCl (zMo cI b 0 n (jf g me lo c) bf (zn e) (nm rd tk)) H1 := z_set zMo_c hM 0 rfl hP1 (fun q _ h => hk1 q h)
  refine lv_aload_n hx hb dX5_raise_5 rfl (lv_at hl 0 rfl) ?_
  refine lv_iload_n hx hb dX5_raise_6 rfl (lv_at hl 1 rfl) ?_
  refine z_ki (va_runV (As := [.int (nI p)]) (rest := []) hfix (zcX5_isParrot l D cI H1 b 0 n (jf g me lo c) bf (zn e) (nm rd tk) (nI p) hM3) (cwV 1 hts gX5_raise_X5_isParrot rfl rfl rfl (by decide +kernel) ⟨Nat.le_of_ble_eq_true rfl, Nat.le_of_ble_eq_true rfl⟩) (z_preV hK hK hM3 (ci := 5) (q0 := 0) rfl rfl rfl) rfl rfl hl.1 rfl (lv_room (Nat.le_of_ble_eq_true rfl)) dX5_raise_7 ⟨by omega, by omega⟩) ?_
  refine lv_if_ne (tgt := 19) hx hb dX5_raise_10 (by decide) (fun c10 => ?_) (fun c10 => ?_)
  · have c10 := zb_1 c10
    refine lv_iload_n hx hb dX5_raise_19 rfl (lv_at hl 2 rfl) ?_
    refine lv_iconst (v := 1) hx hb dX5_raise_20 (by decide) ?_
    refine lv_iconst (v := 5) hx hb dX5_raise_21 (by decide) ?_
    refine z_ki (va_runS (As := [.int (nI x), .int 1, .int 5]) (rest := []) hfix (zcX5_isIn l D cI H1 (nI x) 1 5 ) (va_cwS 3 hts gX5_raise_X5_isIn rfl rfl rfl (by decide +kernel) ⟨Nat.le_of_ble_eq_true rfl, Nat.le_of_ble_eq_true rfl⟩) (z_preS hK) rfl rfl hl.1 rfl (lv_room (Nat.le_of_ble_eq_true rfl)) dX5_raise_22 ⟨by omega, by omega⟩) ?_
    refine lv_if_ne (tgt := 34) hx hb dX5_raise_25 (by decide) (fun c25 => ?_) (fun c25 => ?_)
    · have c25 := zb_1 c25
      refine lv_aload_n hx hb dX5_raise_34 rfl (lv_at hl 0 rfl) ?_
      refine lv_iload_n hx hb dX5_raise_35 rfl (lv_at hl 1 rfl) ?_
      refine lv_bipush (v := 8) hx hb dX5_raise_36 (by decide) ?_
      refine z_ki (va_runV (As := [.int (nI p), .int 8]) (rest := []) hfix (zcX5_ju l D cI H1 b 0 n (jf g me lo c) bf (zn e) (nm rd tk) p 8 hM3 (by omega) (by omega)) (cwV 2 hts gX5_raise_X5_ju rfl rfl rfl (by decide +kernel) ⟨Nat.le_of_ble_eq_true rfl, Nat.le_of_ble_eq_true rfl⟩) (z_preV hK hK hM3 (ci := 5) (q0 := 0) rfl rfl rfl) rfl rfl hl.1 rfl (lv_room (Nat.le_of_ble_eq_true rfl)) dX5_raise_38 ⟨by omega, by omega⟩) ?_
      refine z_toi (y := (lo p)) (jf_8) ?_
      refine lv_istore_n (lv' := [(3, .int (lo p)), (0, .ref b), (1, .int (nI p)), (2, .int (nI x))]) hx hb dX5_raise_41 rfl hl (by decide) rfl (fun ls hl => ?_)
      refine lv_aload_n hx hb dX5_raise_42 rfl (lv_at hl 1 rfl) ?_
      refine lv_iload_n hx hb dX5_raise_43 rfl (lv_at hl 2 rfl) ?_
      refine lv_bipush (v := 8) hx hb dX5_raise_44 (by decide) ?_
      refine lv_iload_n hx hb dX5_raise_46 rfl (lv_at hl 3 rfl) ?_
      refine z_mv (va_runV (As := [.int (nI p), .int 8, .int (nI x)]) (rest := []) hfix (zcX5_put l D cI H1 b 0 n (jf g me lo c) bf (zn e) (nm rd tk) p 8 (nI x) hM3 (by omega) (by omega)) (cwV 3 hts gX5_raise_X5_put rfl rfl rfl (by decide +kernel) ⟨Nat.le_of_ble_eq_true rfl, Nat.le_of_ble_eq_true rfl⟩) (z_preV hK hK hM3 (ci := 5) (q0 := 0) rfl rfl rfl) rfl rfl hl.1 rfl (lv_room (Nat.le_of_ble_eq_true rfl)) dX5_raise_47 ⟨by omega, by omega⟩) hS (fun q _ h => by simp only [zF] at h ⊢; omega) (fun q h => by simp only [zF] at h ⊢; omega) (fun H4 lo5 hB hz1 hk1 hS => ?_)
      have hB1 := hB.1
      rw [jf_lo] at hB1
      have hz : H4.size = H.size := (hB.2).trans hz
      have hM6 : va_P D vwCl (zMo cI b 0 n (jf g me (upd lo p (nI x)) c) bf (zn e) (nm rd tk)) H4 := hB1
      refine lv_iload_n hx hb dX5_raise_50 rfl (lv_at hl 0 rfl) ?_
      exact z_iretM (⟨hM6, hz⟩) hx hb hr hlocks hS dX5_raise_51
    · have c25 := zb_0 c25
      exact absurd (z_in (a := 1) (b := 5) hx1 hx2 (by omega)) c25
  · have c10 := zb_0 c10
    exact absurd ((z_isP hn).mpr ⟨p, hp, rfl⟩) c10
set_option maxHeartbeats 4000000 in
set_option maxRecDepth 100000 in
/-- whisper returns -/
theorem zcX5_whisper_k (l : Launch) (D : va_G) (cI : ClassId) (H : Heap) (b : Nat) (tn : Int32) (n : Nat) (g : zG) (me : Nat → Int32) (lo : Nat → Int32) (c : Nat → Nat) (bf : Nat → Int32) (e : Nat → Nat) (rd : Int32) (tk : Int32) (p : Nat) (w : Nat) (z : Nat) (hM : va_P D vwCl (zMo cI b tn n (jf g me lo c) bf (zn e) (nm rd tk)) H) (hI : zI n me lo c e) (hp : p < n) (hw : w ≤ 9999) (hz9 : z ≤ 9) : Met l yX5_whisper wsX5_whisper ({ frames := 2, cells := 1, slots := 7, locals := 43 } : Room) (zPc D [(cI, .int)] H [.ref b, .int (nI p), .int (nI w), .int (nI z)]) (zM (fun H1 => va_P D vwCl (zMo cI b 0 n (jf (wh g p (nI w) (nI z)) me lo c) bf (zn e) (nm rd tk)) H1 ∧ H.size ≤ H1.size) (some (.int (wd g p))) (fun q => zF b (b + 5) q ∨ H.size ≤ q)) 1 7 (fun q => zF b (b + 5) q ∨ H.size ≤ q) := by
  refine z_enter (cc := cX5_whisper) (maxL := 5) (ret := (some .int)) (by decide) rfl (Nat.le_of_ble_eq_true rfl) ?_
  intro pg ev s m args below meth cd hfix hr hlocks hname hK hHs ls hl
  obtain ⟨hx, hb, hml, hown, hts⟩ := id hfix
  have hl : lv_has ls 5 [(0, .ref b), (1, .int (nI p)), (2, .int (nI w)), (3, .int (nI z))] := hl
  have hS : va_S (fun q => zF b (b + 5) q ∨ H.size ≤ q) s.heap H [] := by rw [hHs]; exact va_S.rf
  have hz : H.size ≤ H.size := Nat.le_refl _
  have hinX5 : ∀ w ∈ wsX50, w ∈ wsX5_whisper := by decide +kernel
  have hn := zI_n hI
  refine lv_aload_n hx hb dX5_whisper_0 rfl (lv_at hl 0 rfl) ?_
  refine lv_iconst (v := 0) hx hb dX5_whisper_1 (by decide) ?_
  refine z_put (D := D) (ci := 5) (v := .int 0) (ty := .int) (C := RX5) (T := TX5) (N := 6) hx hb hts hinX5 tyX5 tyX5_ok nmX5 hown hK hM (by simp only [zF]; omega) hS 0 rfl rfl 0 (by decide) (hts _ (List.mem_of_getElem? (i := 1) rfl)) (fun _ h9 => h9) rfl (by decide +kernel) rfl rfl (Nat.le_of_ble_eq_true rfl) dX5_whisper_2 (fun H1 lo2 hP1 hz1 hk1 hS => ?_)
  have hz : H.size ≤ H1.size := by omega
  have hM3 : va_P D vwCl (zMo cI b 0 n (jf g me lo c) bf (zn e) (nm rd tk)) H1 := z_set zMo_c hM 0 rfl hP1 (fun q _ h => hk1 q h)
  refine lv_aload_n hx hb dX5_whisper_5 rfl (lv_at hl 0 rfl) ?_
  refine lv_iload_n hx hb dX5_whisper_6 rfl (lv_at hl 1 rfl) ?_
  refine z_ki (va_runV (As := [.int (nI p)]) (rest := []) hfix (zcX5_isParrot l D cI H1 b 0 n (jf g me lo c) bf (zn e) (nm rd tk) (nI p) hM3) (cwV 1 hts gX5_whisper_X5_isParrot rfl rfl rfl (by decide +kernel) ⟨Nat.le_of_ble_eq_true rfl, Nat.le_of_ble_eq_true rfl⟩) (z_preV hK hK hM3 (ci := 5) (q0 := 0) rfl rfl rfl) rfl rfl hl.1 rfl (lv_room (Nat.le_of_ble_eq_true rfl)) dX5_whisper_7 ⟨by omega, by omega⟩) ?_
  refine lv_if_ne (tgt := 19) hx hb dX5_whisper_10 (by decide) (fun c10 => ?_) (fun c10 => ?_)
  · have c10 := zb_1 c10
    refine lv_iload_n hx hb dX5_whisper_19 rfl (lv_at hl 2 rfl) ?_
    refine z_ki (va_runS (As := [.int (nI w)]) (rest := []) hfix (zcX5_isWord l D cI H1 (nI w) ) (va_cwS 1 hts gX5_whisper_X5_isWord rfl rfl rfl (by decide +kernel) ⟨Nat.le_of_ble_eq_true rfl, Nat.le_of_ble_eq_true rfl⟩) (z_preS hK) rfl rfl hl.1 rfl (lv_room (Nat.le_of_ble_eq_true rfl)) dX5_whisper_20 ⟨by omega, by omega⟩) ?_
    refine lv_if_eq (tgt := 36) hx hb dX5_whisper_23 (by decide) (fun c23 => ?_) (fun c23 => ?_)
    · have c23 := zb_0 c23
      exact absurd (z_in (a := 0) (b := 9999) (Nat.zero_le _) hw (by omega)) c23
    · have c23 := zb_1 c23
      refine lv_iload_n hx hb dX5_whisper_26 rfl (lv_at hl 3 rfl) ?_
      refine lv_iconst (v := 0) hx hb dX5_whisper_27 (by decide) ?_
      refine lv_bipush (v := 9) hx hb dX5_whisper_28 (by decide) ?_
      refine z_ki (va_runS (As := [.int (nI z), .int 0, .int 9]) (rest := []) hfix (zcX5_isIn l D cI H1 (nI z) 0 9 ) (va_cwS 3 hts gX5_whisper_X5_isIn rfl rfl rfl (by decide +kernel) ⟨Nat.le_of_ble_eq_true rfl, Nat.le_of_ble_eq_true rfl⟩) (z_preS hK) rfl rfl hl.1 rfl (lv_room (Nat.le_of_ble_eq_true rfl)) dX5_whisper_30 ⟨by omega, by omega⟩) ?_
      refine lv_if_ne (tgt := 42) hx hb dX5_whisper_33 (by decide) (fun c33 => ?_) (fun c33 => ?_)
      · have c33 := zb_1 c33
        refine lv_aload_n hx hb dX5_whisper_42 rfl (lv_at hl 0 rfl) ?_
        refine lv_iload_n hx hb dX5_whisper_43 rfl (lv_at hl 1 rfl) ?_
        refine z_ki (va_runV (As := [.int (nI p)]) (rest := []) hfix (zcX5_word l D cI H1 b 0 n g me lo c bf e rd tk p hM3 (by omega)) (cwV 1 hts gX5_whisper_X5_word rfl rfl rfl (by decide +kernel) ⟨Nat.le_of_ble_eq_true rfl, Nat.le_of_ble_eq_true rfl⟩) (z_preV hK hK hM3 (ci := 5) (q0 := 0) rfl rfl rfl) rfl rfl hl.1 rfl (lv_room (Nat.le_of_ble_eq_true rfl)) dX5_whisper_44 ⟨by omega, by omega⟩) ?_
        refine lv_istore (lv' := [(4, .int (wd g p)), (0, .ref b), (1, .int (nI p)), (2, .int (nI w)), (3, .int (nI z))]) hx hb dX5_whisper_47 hl (by decide) rfl (fun ls hl => ?_)
        refine lv_aload_n hx hb dX5_whisper_49 rfl (lv_at hl 1 rfl) ?_
        refine lv_iload_n hx hb dX5_whisper_50 rfl (lv_at hl 2 rfl) ?_
        refine lv_iload_n hx hb dX5_whisper_51 rfl (lv_at hl 3 rfl) ?_
        refine lv_iload_n hx hb dX5_whisper_52 rfl (lv_at hl 4 rfl) ?_
        refine z_mv (va_runV (As := [.int (nI p), .int (nI w), .int (nI z)]) (rest := []) hfix (zcX5_say l D cI H1 b 0 n g me lo c bf e rd tk p (nI w) (nI z) hM3 (by omega)) (cwV 3 hts gX5_whisper_X5_say rfl rfl rfl (by decide +kernel) ⟨Nat.le_of_ble_eq_true rfl, Nat.le_of_ble_eq_true rfl⟩) (z_preV hK hK hM3 (ci := 5) (q0 := 0) rfl rfl rfl) rfl rfl hl.1 rfl (lv_room (Nat.le_of_ble_eq_true rfl)) dX5_whisper_53 ⟨Nat.le_of_ble_eq_true rfl, Nat.le_of_ble_eq_true rfl⟩) hS (fun q _ h => by simp only [zF] at h ⊢; omega) (fun q h => by simp only [zF] at h ⊢; omega) (fun H4 lo5 hB hz1 hk1 hS => ?_)
        have hz : H.size ≤ H4.size := by have h9 := hB.2; omega
        have hM6 : va_P D vwCl (zMo cI b 0 n (jf (wh g p (nI w) (nI z)) me lo c) bf (zn e) (nm rd tk)) H4 := hB.1
        refine lv_iload hx hb dX5_whisper_56 (lv_at hl 0 rfl) ?_
        refine W.widen (k := 1) (n := 7) (by omega) (by omega) ?_
        exact z_iretM (⟨hM6, hz⟩) hx hb hr hlocks hS dX5_whisper_58
      · have c33 := zb_0 c33
        exact absurd (z_in (a := 0) (b := 9) (Nat.zero_le _) hz9 (by omega)) c33
  · have c10 := zb_0 c10
    exact absurd ((z_isP hn).mpr ⟨p, hp, rfl⟩) c10
set_option maxHeartbeats 4000000 in
set_option maxRecDepth 100000 in
/-- parrot returns -/
theorem zcX5_parrot_k (l : Launch) (D : va_G) (cI : ClassId) (H : Heap) (b : Nat) (tn : Int32) (n : Nat) (g : zG) (me : Nat → Int32) (lo : Nat → Int32) (c : Nat → Nat) (bf : Nat → Int32) (e : Nat → Nat) (rd : Int32) (tk : Int32) (p : Nat) (q : Nat) (hM : va_P D vwCl (zMo cI b tn n (jf g me lo c) bf (zn e) (nm rd tk)) H) (hI : zI n me lo c e) (hp : p < n) (hq : q ≤ 6) : Met l yX5_parrot wsX5_parrot ({ frames := 3, cells := 0, slots := 0, locals := 69 } : Room) (zPc D [(cI, .int)] H [.ref b, .int (nI p), .int (nI q)]) (zM (fun H1 => va_P D vwCl (zMo cI b 0 n (jf g me lo c) bf (zn e) (nm rd tk)) H1 ∧ H1.size = H.size) (some (.int (tp n g me lo c e p q))) (zF b (b + 5))) 0 0 (zF b (b + 5)) := by
  refine z_enter (cc := cX5_parrot) (maxL := 3) (ret := (some .int)) (by decide) rfl (Nat.le_of_ble_eq_true rfl) ?_
  intro pg ev s m args below meth cd hfix hr hlocks hname hK hHs ls hl
  obtain ⟨hx, hb, hml, hown, hts⟩ := id hfix
  have hl : lv_has ls 3 [(0, .ref b), (1, .int (nI p)), (2, .int (nI q))] := hl
  have hS : va_S (zF b (b + 5)) s.heap H [] := by rw [hHs]; exact va_S.rf
  have hz : H.size = H.size := rfl
  have hinX5 : ∀ w ∈ wsX50, w ∈ wsX5_parrot := by decide +kernel
  have hn := zI_n hI
  refine lv_aload_n hx hb dX5_parrot_0 rfl (lv_at hl 0 rfl) ?_
  refine lv_iconst (v := 0) hx hb dX5_parrot_1 (by decide) ?_
  refine z_put (D := D) (ci := 5) (v := .int 0) (ty := .int) (C := RX5) (T := TX5) (N := 6) hx hb hts hinX5 tyX5 tyX5_ok nmX5 hown hK hM (by simp only [zF]; omega) hS 0 rfl rfl 0 (by decide) (hts _ (List.mem_of_getElem? (i := 1) rfl)) (fun _ h9 => h9) rfl (by decide +kernel) rfl rfl (Nat.le_of_ble_eq_true rfl) dX5_parrot_2 (fun H1 lo2 hP1 hz1 hk1 hS => ?_)
  have hz : H1.size = H.size := by omega
  have hM3 : va_P D vwCl (zMo cI b 0 n (jf g me lo c) bf (zn e) (nm rd tk)) H1 := z_set zMo_c hM 0 rfl hP1 (fun q _ h => hk1 q h)
  refine lv_aload_n hx hb dX5_parrot_5 rfl (lv_at hl 0 rfl) ?_
  refine lv_iload_n hx hb dX5_parrot_6 rfl (lv_at hl 1 rfl) ?_
  refine z_ki (va_runV (As := [.int (nI p)]) (rest := []) hfix (zcX5_isParrot l D cI H1 b 0 n (jf g me lo c) bf (zn e) (nm rd tk) (nI p) hM3) (cwV 1 hts gX5_parrot_X5_isParrot rfl rfl rfl (by decide +kernel) ⟨Nat.le_of_ble_eq_true rfl, Nat.le_of_ble_eq_true rfl⟩) (z_preV hK hK hM3 (ci := 5) (q0 := 0) rfl rfl rfl) rfl rfl hl.1 rfl (lv_room (Nat.le_of_ble_eq_true rfl)) dX5_parrot_7 ⟨by omega, by omega⟩) ?_
  refine lv_if_eq (tgt := 32) hx hb dX5_parrot_10 (by decide) (fun c10 => ?_) (fun c10 => ?_)
  · have c10 := zb_0 c10
    exact absurd ((z_isP hn).mpr ⟨p, hp, rfl⟩) c10
  · have c10 := zb_1 c10
    refine lv_iload_n hx hb dX5_parrot_13 rfl (lv_at hl 2 rfl) ?_
    refine lv_iconst (v := 0) hx hb dX5_parrot_14 (by decide) ?_
    refine lv_bipush (v := 6) hx hb dX5_parrot_15 (by decide) ?_
    refine z_ki (va_runS (As := [.int (nI q), .int 0, .int 6]) (rest := []) hfix (zcX5_isIn l D cI H1 (nI q) 0 6 ) (va_cwS 3 hts gX5_parrot_X5_isIn rfl rfl rfl (by decide +kernel) ⟨Nat.le_of_ble_eq_true rfl, Nat.le_of_ble_eq_true rfl⟩) (z_preS hK) rfl rfl hl.1 rfl (lv_room (Nat.le_of_ble_eq_true rfl)) dX5_parrot_17 ⟨by omega, by omega⟩) ?_
    refine lv_if_eq (tgt := 32) hx hb dX5_parrot_20 (by decide) (fun c20 => ?_) (fun c20 => ?_)
    · have c20 := zb_0 c20
      exact absurd (z_in (a := 0) (b := 6) (Nat.zero_le _) hq (by omega)) c20
    · have c20 := zb_1 c20
      refine lv_aload_n hx hb dX5_parrot_23 rfl (lv_at hl 0 rfl) ?_
      refine lv_iload_n hx hb dX5_parrot_24 rfl (lv_at hl 1 rfl) ?_
      refine lv_iload_n hx hb dX5_parrot_25 rfl (lv_at hl 2 rfl) ?_
      refine z_ki (va_runV (As := [.int (nI p), .int (nI q)]) (rest := []) hfix (zcX5_parrotTold l D cI H1 b 0 n g me lo c bf e rd tk p q hM3 hI (by omega) (by omega)) (cwV 2 hts gX5_parrot_X5_parrotTold rfl rfl rfl (by decide +kernel) ⟨Nat.le_of_ble_eq_true rfl, Nat.le_of_ble_eq_true rfl⟩) (z_preV hK hK hM3 (ci := 5) (q0 := 0) rfl rfl rfl) rfl rfl hl.1 rfl (lv_room (Nat.le_of_ble_eq_true rfl)) dX5_parrot_26 ⟨by omega, by omega⟩) ?_
      refine lv_goto (tgt := 37) hx hb dX5_parrot_29 (by decide) ?_
      exact z_iretM (⟨hM3, hz⟩) hx hb hr hlocks hS dX5_parrot_37
set_option maxHeartbeats 4000000 in
set_option maxRecDepth 100000 in
/-- half returns -/
theorem zcX5_half_k0 (l : Launch) (D : va_G) (cI : ClassId) (H : Heap) (b : Nat) (tn : Int32) (n : Nat) (g : zG) (me : Nat → Int32) (lo : Nat → Int32) (c : Nat → Nat) (bf : Nat → Int32) (e : Nat → Nat) (rd : Int32) (tk : Int32) (p : Nat) (q : Nat) (hM : va_P D vwCl (zMo cI b tn n (jf g me lo c) bf (zn e) (nm rd tk)) H) (hI : zI n me lo c e) (hp : p < n) (hq : q ≤ 2) : Met l yX5_half wsX5_half ({ frames := 2, cells := 0, slots := 0, locals := 45 } : Room) (zPc D [(cI, .int)] H [.ref b, .int (nI p), .int 0, .int (nI q)]) (zM (fun H1 => va_P D vwCl (zMo cI b 0 n (jf g me lo c) bf (zn e) (nm rd tk)) H1 ∧ H1.size = H.size) (some (.int (th g p 0 q))) (zF b (b + 5))) 0 0 (zF b (b + 5)) := by
  refine z_enter (cc := cX5_half) (maxL := 4) (ret := (some .int)) (by decide) rfl (Nat.le_of_ble_eq_true rfl) ?_
  intro pg ev s m args below meth cd hfix hr hlocks hname hK hHs ls hl
  obtain ⟨hx, hb, hml, hown, hts⟩ := id hfix
  have hl : lv_has ls 4 [(0, .ref b), (1, .int (nI p)), (2, .int 0), (3, .int (nI q))] := hl
  have hS : va_S (zF b (b + 5)) s.heap H [] := by rw [hHs]; exact va_S.rf
  have hz : H.size = H.size := rfl
  have hinX5 : ∀ w ∈ wsX50, w ∈ wsX5_half := by decide +kernel
  have hn := zI_n hI
  refine lv_aload_n hx hb dX5_half_0 rfl (lv_at hl 0 rfl) ?_
  refine lv_iconst (v := 0) hx hb dX5_half_1 (by decide) ?_
  refine z_put (D := D) (ci := 5) (v := .int 0) (ty := .int) (C := RX5) (T := TX5) (N := 6) hx hb hts hinX5 tyX5 tyX5_ok nmX5 hown hK hM (by simp only [zF]; omega) hS 0 rfl rfl 0 (by decide) (hts _ (List.mem_of_getElem? (i := 1) rfl)) (fun _ h9 => h9) rfl (by decide +kernel) rfl rfl (Nat.le_of_ble_eq_true rfl) dX5_half_2 (fun H1 lo2 hP1 hz1 hk1 hS => ?_)
  have hz : H1.size = H.size := by omega
  have hM3 : va_P D vwCl (zMo cI b 0 n (jf g me lo c) bf (zn e) (nm rd tk)) H1 := z_set zMo_c hM 0 rfl hP1 (fun q _ h => hk1 q h)
  refine lv_aload_n hx hb dX5_half_5 rfl (lv_at hl 0 rfl) ?_
  refine lv_iload_n hx hb dX5_half_6 rfl (lv_at hl 1 rfl) ?_
  refine z_ki (va_runV (As := [.int (nI p)]) (rest := []) hfix (zcX5_isParrot l D cI H1 b 0 n (jf g me lo c) bf (zn e) (nm rd tk) (nI p) hM3) (cwV 1 hts gX5_half_X5_isParrot rfl rfl rfl (by decide +kernel) ⟨Nat.le_of_ble_eq_true rfl, Nat.le_of_ble_eq_true rfl⟩) (z_preV hK hK hM3 (ci := 5) (q0 := 0) rfl rfl rfl) rfl rfl hl.1 rfl (lv_room (Nat.le_of_ble_eq_true rfl)) dX5_half_7 ⟨by omega, by omega⟩) ?_
  refine lv_if_eq (tgt := 40) hx hb dX5_half_10 (by decide) (fun c10 => ?_) (fun c10 => ?_)
  · have c10 := zb_0 c10
    exact absurd ((z_isP hn).mpr ⟨p, hp, rfl⟩) c10
  · have c10 := zb_1 c10
    refine lv_iload_n hx hb dX5_half_13 rfl (lv_at hl 3 rfl) ?_
    refine lv_iconst (v := 0) hx hb dX5_half_14 (by decide) ?_
    refine lv_iconst (v := 2) hx hb dX5_half_15 (by decide) ?_
    refine z_ki (va_runS (As := [.int (nI q), .int 0, .int 2]) (rest := []) hfix (zcX5_isIn l D cI H1 (nI q) 0 2 ) (va_cwS 3 hts gX5_half_X5_isIn rfl rfl rfl (by decide +kernel) ⟨Nat.le_of_ble_eq_true rfl, Nat.le_of_ble_eq_true rfl⟩) (z_preS hK) rfl rfl hl.1 rfl (lv_room (Nat.le_of_ble_eq_true rfl)) dX5_half_16 ⟨by omega, by omega⟩) ?_
    refine lv_if_eq (tgt := 40) hx hb dX5_half_19 (by decide) (fun c19 => ?_) (fun c19 => ?_)
    · have c19 := zb_0 c19
      exact absurd (z_in (a := 0) (b := 2) (Nat.zero_le _) hq (by omega)) c19
    · have c19 := zb_1 c19
      refine lv_aload_n hx hb dX5_half_22 rfl (lv_at hl 0 rfl) ?_
      refine lv_iload_n hx hb dX5_half_23 rfl (lv_at hl 1 rfl) ?_
      refine lv_iload_n hx hb dX5_half_24 rfl (lv_at hl 2 rfl) ?_
      refine lv_if_eq (tgt := 32) hx hb dX5_half_25 (by decide) (fun c25 => ?_) (fun c25 => ?_)
      · have c25 := z_eq (a := 0) (b := 0) c25 (by omega) (by omega)
        refine lv_iconst (v := 0) hx hb dX5_half_32 (by decide) ?_
        refine lv_iload_n hx hb dX5_half_33 rfl (lv_at hl 3 rfl) ?_
        refine z_ki (va_runV (As := [.int (nI p), .int 0, .int (nI q)]) (rest := []) hfix (zcX5_halfTold l D cI H1 b 0 n g me lo c bf e rd tk p 0 q hM3 (by omega) (by omega) (by omega)) (cwV 3 hts gX5_half_X5_halfTold rfl rfl rfl (by decide +kernel) ⟨Nat.le_of_ble_eq_true rfl, Nat.le_of_ble_eq_true rfl⟩) (z_preV hK hK hM3 (ci := 5) (q0 := 0) rfl rfl rfl) rfl rfl hl.1 rfl (lv_room (Nat.le_of_ble_eq_true rfl)) dX5_half_34 ⟨by omega, by omega⟩) ?_
        refine lv_goto (tgt := 45) hx hb dX5_half_37 (by decide) ?_
        exact z_iretM (⟨hM3, hz⟩) hx hb hr hlocks hS dX5_half_45
      · have c25 := z_ne (a := 0) (b := 0) c25 (by omega) (by omega)
        omega
set_option maxHeartbeats 4000000 in
set_option maxRecDepth 100000 in
/-- half returns -/
theorem zcX5_half_k1 (l : Launch) (D : va_G) (cI : ClassId) (H : Heap) (b : Nat) (tn : Int32) (n : Nat) (g : zG) (me : Nat → Int32) (lo : Nat → Int32) (c : Nat → Nat) (bf : Nat → Int32) (e : Nat → Nat) (rd : Int32) (tk : Int32) (p : Nat) (q : Nat) (hM : va_P D vwCl (zMo cI b tn n (jf g me lo c) bf (zn e) (nm rd tk)) H) (hI : zI n me lo c e) (hp : p < n) (hq : q ≤ 2) : Met l yX5_half wsX5_half ({ frames := 2, cells := 0, slots := 0, locals := 45 } : Room) (zPc D [(cI, .int)] H [.ref b, .int (nI p), .int 1, .int (nI q)]) (zM (fun H1 => va_P D vwCl (zMo cI b 0 n (jf g me lo c) bf (zn e) (nm rd tk)) H1 ∧ H1.size = H.size) (some (.int (th g p 1 q))) (zF b (b + 5))) 0 0 (zF b (b + 5)) := by
  refine z_enter (cc := cX5_half) (maxL := 4) (ret := (some .int)) (by decide) rfl (Nat.le_of_ble_eq_true rfl) ?_
  intro pg ev s m args below meth cd hfix hr hlocks hname hK hHs ls hl
  obtain ⟨hx, hb, hml, hown, hts⟩ := id hfix
  have hl : lv_has ls 4 [(0, .ref b), (1, .int (nI p)), (2, .int 1), (3, .int (nI q))] := hl
  have hS : va_S (zF b (b + 5)) s.heap H [] := by rw [hHs]; exact va_S.rf
  have hz : H.size = H.size := rfl
  have hinX5 : ∀ w ∈ wsX50, w ∈ wsX5_half := by decide +kernel
  have hn := zI_n hI
  refine lv_aload_n hx hb dX5_half_0 rfl (lv_at hl 0 rfl) ?_
  refine lv_iconst (v := 0) hx hb dX5_half_1 (by decide) ?_
  refine z_put (D := D) (ci := 5) (v := .int 0) (ty := .int) (C := RX5) (T := TX5) (N := 6) hx hb hts hinX5 tyX5 tyX5_ok nmX5 hown hK hM (by simp only [zF]; omega) hS 0 rfl rfl 0 (by decide) (hts _ (List.mem_of_getElem? (i := 1) rfl)) (fun _ h9 => h9) rfl (by decide +kernel) rfl rfl (Nat.le_of_ble_eq_true rfl) dX5_half_2 (fun H1 lo2 hP1 hz1 hk1 hS => ?_)
  have hz : H1.size = H.size := by omega
  have hM3 : va_P D vwCl (zMo cI b 0 n (jf g me lo c) bf (zn e) (nm rd tk)) H1 := z_set zMo_c hM 0 rfl hP1 (fun q _ h => hk1 q h)
  refine lv_aload_n hx hb dX5_half_5 rfl (lv_at hl 0 rfl) ?_
  refine lv_iload_n hx hb dX5_half_6 rfl (lv_at hl 1 rfl) ?_
  refine z_ki (va_runV (As := [.int (nI p)]) (rest := []) hfix (zcX5_isParrot l D cI H1 b 0 n (jf g me lo c) bf (zn e) (nm rd tk) (nI p) hM3) (cwV 1 hts gX5_half_X5_isParrot rfl rfl rfl (by decide +kernel) ⟨Nat.le_of_ble_eq_true rfl, Nat.le_of_ble_eq_true rfl⟩) (z_preV hK hK hM3 (ci := 5) (q0 := 0) rfl rfl rfl) rfl rfl hl.1 rfl (lv_room (Nat.le_of_ble_eq_true rfl)) dX5_half_7 ⟨by omega, by omega⟩) ?_
  refine lv_if_eq (tgt := 40) hx hb dX5_half_10 (by decide) (fun c10 => ?_) (fun c10 => ?_)
  · have c10 := zb_0 c10
    exact absurd ((z_isP hn).mpr ⟨p, hp, rfl⟩) c10
  · have c10 := zb_1 c10
    refine lv_iload_n hx hb dX5_half_13 rfl (lv_at hl 3 rfl) ?_
    refine lv_iconst (v := 0) hx hb dX5_half_14 (by decide) ?_
    refine lv_iconst (v := 2) hx hb dX5_half_15 (by decide) ?_
    refine z_ki (va_runS (As := [.int (nI q), .int 0, .int 2]) (rest := []) hfix (zcX5_isIn l D cI H1 (nI q) 0 2 ) (va_cwS 3 hts gX5_half_X5_isIn rfl rfl rfl (by decide +kernel) ⟨Nat.le_of_ble_eq_true rfl, Nat.le_of_ble_eq_true rfl⟩) (z_preS hK) rfl rfl hl.1 rfl (lv_room (Nat.le_of_ble_eq_true rfl)) dX5_half_16 ⟨by omega, by omega⟩) ?_
    refine lv_if_eq (tgt := 40) hx hb dX5_half_19 (by decide) (fun c19 => ?_) (fun c19 => ?_)
    · have c19 := zb_0 c19
      exact absurd (z_in (a := 0) (b := 2) (Nat.zero_le _) hq (by omega)) c19
    · have c19 := zb_1 c19
      refine lv_aload_n hx hb dX5_half_22 rfl (lv_at hl 0 rfl) ?_
      refine lv_iload_n hx hb dX5_half_23 rfl (lv_at hl 1 rfl) ?_
      refine lv_iload_n hx hb dX5_half_24 rfl (lv_at hl 2 rfl) ?_
      refine lv_if_eq (tgt := 32) hx hb dX5_half_25 (by decide) (fun c25 => ?_) (fun c25 => ?_)
      · have c25 := z_eq (a := 1) (b := 0) c25 (by omega) (by omega)
        omega
      · have c25 := z_ne (a := 1) (b := 0) c25 (by omega) (by omega)
        refine lv_iconst (v := 1) hx hb dX5_half_28 (by decide) ?_
        refine lv_goto (tgt := 33) hx hb dX5_half_29 (by decide) ?_
        refine lv_iload_n hx hb dX5_half_33 rfl (lv_at hl 3 rfl) ?_
        refine z_ki (va_runV (As := [.int (nI p), .int 1, .int (nI q)]) (rest := []) hfix (zcX5_halfTold l D cI H1 b 0 n g me lo c bf e rd tk p 1 q hM3 (by omega) (by omega) (by omega)) (cwV 3 hts gX5_half_X5_halfTold rfl rfl rfl (by decide +kernel) ⟨Nat.le_of_ble_eq_true rfl, Nat.le_of_ble_eq_true rfl⟩) (z_preV hK hK hM3 (ci := 5) (q0 := 0) rfl rfl rfl) rfl rfl hl.1 rfl (lv_room (Nat.le_of_ble_eq_true rfl)) dX5_half_34 ⟨by omega, by omega⟩) ?_
        refine lv_goto (tgt := 45) hx hb dX5_half_37 (by decide) ?_
        exact z_iretM (⟨hM3, hz⟩) hx hb hr hlocks hS dX5_half_45
set_option maxHeartbeats 4000000 in
set_option maxRecDepth 100000 in
/-- hears returns -/
theorem zcX5_hears_k (l : Launch) (D : va_G) (cI : ClassId) (H : Heap) (b : Nat) (tn : Int32) (n : Nat) (g : zG) (me : Nat → Int32) (lo : Nat → Int32) (c : Nat → Nat) (bf : Nat → Int32) (e : Nat → Nat) (rd : Int32) (tk : Int32) (p : Nat) (k : Nat) (hM : va_P D vwCl (zMo cI b tn n (jf g me lo c) bf (zn e) (nm rd tk)) H) (hI : zI n me lo c e) (hp : p < n) (hk : k < c p) : Met l yX5_hears wsX5_hears ({ frames := 2, cells := 0, slots := 0, locals := 43 } : Room) (zPc D [(cI, .int)] H [.ref b, .int (nI p), .int (nI k)]) (zM (fun H1 => va_P D vwCl (zMo cI b 0 n (jf g me lo c) bf (zn e) (nm rd tk)) H1 ∧ H1.size = H.size) (some (.int (nI (e (p * 4 + k))))) (zF b (b + 5))) 0 0 (zF b (b + 5)) := by
  refine z_enter (cc := cX5_hears) (maxL := 3) (ret := (some .int)) (by decide) rfl (Nat.le_of_ble_eq_true rfl) ?_
  intro pg ev s m args below meth cd hfix hr hlocks hname hK hHs ls hl
  obtain ⟨hx, hb, hml, hown, hts⟩ := id hfix
  have hl : lv_has ls 3 [(0, .ref b), (1, .int (nI p)), (2, .int (nI k))] := hl
  have hS : va_S (zF b (b + 5)) s.heap H [] := by rw [hHs]; exact va_S.rf
  have hz : H.size = H.size := rfl
  have hinX5 : ∀ w ∈ wsX50, w ∈ wsX5_hears := by decide +kernel
  have hn := zI_n hI
  have hc4 := zI_c hI p
  refine lv_aload_n hx hb dX5_hears_0 rfl (lv_at hl 0 rfl) ?_
  refine lv_iconst (v := 0) hx hb dX5_hears_1 (by decide) ?_
  refine z_put (D := D) (ci := 5) (v := .int 0) (ty := .int) (C := RX5) (T := TX5) (N := 6) hx hb hts hinX5 tyX5 tyX5_ok nmX5 hown hK hM (by simp only [zF]; omega) hS 0 rfl rfl 0 (by decide) (hts _ (List.mem_of_getElem? (i := 1) rfl)) (fun _ h9 => h9) rfl (by decide +kernel) rfl rfl (Nat.le_of_ble_eq_true rfl) dX5_hears_2 (fun H1 lo2 hP1 hz1 hk1 hS => ?_)
  have hz : H1.size = H.size := by omega
  have hM3 : va_P D vwCl (zMo cI b 0 n (jf g me lo c) bf (zn e) (nm rd tk)) H1 := z_set zMo_c hM 0 rfl hP1 (fun q _ h => hk1 q h)
  refine lv_aload_n hx hb dX5_hears_5 rfl (lv_at hl 0 rfl) ?_
  refine lv_iload_n hx hb dX5_hears_6 rfl (lv_at hl 1 rfl) ?_
  refine z_ki (va_runV (As := [.int (nI p)]) (rest := []) hfix (zcX5_isParrot l D cI H1 b 0 n (jf g me lo c) bf (zn e) (nm rd tk) (nI p) hM3) (cwV 1 hts gX5_hears_X5_isParrot rfl rfl rfl (by decide +kernel) ⟨Nat.le_of_ble_eq_true rfl, Nat.le_of_ble_eq_true rfl⟩) (z_preV hK hK hM3 (ci := 5) (q0 := 0) rfl rfl rfl) rfl rfl hl.1 rfl (lv_room (Nat.le_of_ble_eq_true rfl)) dX5_hears_7 ⟨by omega, by omega⟩) ?_
  refine lv_if_eq (tgt := 43) hx hb dX5_hears_10 (by decide) (fun c10 => ?_) (fun c10 => ?_)
  · have c10 := zb_0 c10
    exact absurd ((z_isP hn).mpr ⟨p, hp, rfl⟩) c10
  · have c10 := zb_1 c10
    refine lv_iload_n hx hb dX5_hears_13 rfl (lv_at hl 2 rfl) ?_
    refine lv_iconst (v := 0) hx hb dX5_hears_14 (by decide) ?_
    refine lv_aload_n hx hb dX5_hears_15 rfl (lv_at hl 0 rfl) ?_
    refine lv_iload_n hx hb dX5_hears_16 rfl (lv_at hl 1 rfl) ?_
    refine lv_bipush (v := 9) hx hb dX5_hears_17 (by decide) ?_
    refine z_ki (va_runV (As := [.int (nI p), .int 9]) (rest := [.int 0, .int (nI k)]) hfix (zcX5_ju l D cI H1 b 0 n (jf g me lo c) bf (zn e) (nm rd tk) p 9 hM3 (by omega) (by omega)) (cwV 2 hts gX5_hears_X5_ju rfl rfl rfl (by decide +kernel) ⟨Nat.le_of_ble_eq_true rfl, Nat.le_of_ble_eq_true rfl⟩) (z_preV hK hK hM3 (ci := 5) (q0 := 0) rfl rfl rfl) rfl rfl hl.1 rfl (lv_room (Nat.le_of_ble_eq_true rfl)) dX5_hears_19 ⟨by omega, by omega⟩) ?_
    refine z_toi (y := (nI (c p))) (jf_9) ?_
    refine lv_iconst (v := 1) hx hb dX5_hears_22 (by decide) ?_
    refine lv_isub hx hb dX5_hears_23 ?_
    refine z_ki (va_runS (As := [.int (nI k), .int 0, .int ((nI (c p)) - 1)]) (rest := []) hfix (zcX5_isIn l D cI H1 (nI k) 0 ((nI (c p)) - 1) ) (va_cwS 3 hts gX5_hears_X5_isIn rfl rfl rfl (by decide +kernel) ⟨Nat.le_of_ble_eq_true rfl, Nat.le_of_ble_eq_true rfl⟩) (z_preS hK) rfl rfl hl.1 rfl (lv_room (Nat.le_of_ble_eq_true rfl)) dX5_hears_24 ⟨by omega, by omega⟩) ?_
    refine lv_if_eq (tgt := 43) hx hb dX5_hears_27 (by decide) (fun c27 => ?_) (fun c27 => ?_)
    · have c27 := zb_0 c27
      exact absurd ((z_isP (n := c p) (by omega)).mpr ⟨k, hk, rfl⟩) c27
    · have c27 := zb_1 c27
      refine lv_aload_n hx hb dX5_hears_30 rfl (lv_at hl 0 rfl) ?_
      refine va_get (D := D) (ci := 5) (v := .ref (b + 3)) (C := RX5) (T := TX5) (N := 6) hx hb hts hinX5 hown hK hM3 0 rfl rfl 4 (by decide) (hts _ (List.mem_of_getElem? (i := 2) rfl)) (fun _ h9 => h9) rfl dX5_hears_31 ?_
      refine lv_iconst (v := 4) hx hb dX5_hears_34 (by decide) ?_
      refine lv_iload_n hx hb dX5_hears_35 rfl (lv_at hl 1 rfl) ?_
      refine lv_imul hx hb dX5_hears_36 ?_
      refine z_toi (y := nI (p * 4)) ((pk_mul 4 p).trans (congrArg nI (Nat.mul_comm _ _))) ?_
      refine lv_iload_n hx hb dX5_hears_37 rfl (lv_at hl 2 rfl) ?_
      refine lv_iadd hx hb dX5_hears_38 ?_
      refine z_toi (y := nI (p * 4 + k)) (nI_add (p * 4) k) ?_
      refine z_iald (a := (b + 3)) (n := 48) (f := (zn e)) (j := (p * 4 + k)) hx hb hK hM3 3 0 rfl rfl rfl (by omega) (by omega) dX5_hears_39 ?_
      refine lv_goto (tgt := 48) hx hb dX5_hears_40 (by decide) ?_
      exact z_iretM (⟨hM3, hz⟩) hx hb hr hlocks hS dX5_hears_48
set_option maxHeartbeats 4000000 in
set_option maxRecDepth 100000 in
/-- votes returns -/
theorem zcX5_votes_k (l : Launch) (D : va_G) (cI : ClassId) (H : Heap) (b : Nat) (tn : Int32) (n : Nat) (g : zG) (me : Nat → Int32) (lo : Nat → Int32) (c : Nat → Nat) (bf : Nat → Int32) (e : Nat → Nat) (rd : Int32) (tk : Int32) (w : Nat) (hM : va_P D vwCl (zMo cI b tn n (jf g me lo c) bf (zn e) (nm rd tk)) H) (hI : zI n me lo c e) (hw : w ≤ 9999) : Met l yX5_votes wsX5_votes ({ frames := 3, cells := 0, slots := 0, locals := 66 } : Room) (zPc D [(cI, .int)] H [.ref b, .int (nI w)]) (zM (fun H1 => va_P D vwCl (zMo cI b 0 n (jf g me lo c) bf (zn e) (nm rd tk)) H1 ∧ H1.size = H.size) (some (.int (nI (vt g (nI w) n)))) (zF b (b + 5))) 0 0 (zF b (b + 5)) := by
  refine z_enter (cc := cX5_votes) (maxL := 2) (ret := (some .int)) (by decide) rfl (Nat.le_of_ble_eq_true rfl) ?_
  intro pg ev s m args below meth cd hfix hr hlocks hname hK hHs ls hl
  obtain ⟨hx, hb, hml, hown, hts⟩ := id hfix
  have hl : lv_has ls 2 [(0, .ref b), (1, .int (nI w))] := hl
  have hS : va_S (zF b (b + 5)) s.heap H [] := by rw [hHs]; exact va_S.rf
  have hz : H.size = H.size := rfl
  have hinX5 : ∀ w ∈ wsX50, w ∈ wsX5_votes := by decide +kernel
  have hn := zI_n hI
  refine lv_aload_n hx hb dX5_votes_0 rfl (lv_at hl 0 rfl) ?_
  refine lv_iconst (v := 0) hx hb dX5_votes_1 (by decide) ?_
  refine z_put (D := D) (ci := 5) (v := .int 0) (ty := .int) (C := RX5) (T := TX5) (N := 6) hx hb hts hinX5 tyX5 tyX5_ok nmX5 hown hK hM (by simp only [zF]; omega) hS 0 rfl rfl 0 (by decide) (hts _ (List.mem_of_getElem? (i := 1) rfl)) (fun _ h9 => h9) rfl (by decide +kernel) rfl rfl (Nat.le_of_ble_eq_true rfl) dX5_votes_2 (fun H1 lo2 hP1 hz1 hk1 hS => ?_)
  have hz : H1.size = H.size := by omega
  have hM3 : va_P D vwCl (zMo cI b 0 n (jf g me lo c) bf (zn e) (nm rd tk)) H1 := z_set zMo_c hM 0 rfl hP1 (fun q _ h => hk1 q h)
  refine lv_iload_n hx hb dX5_votes_5 rfl (lv_at hl 1 rfl) ?_
  refine z_ki (va_runS (As := [.int (nI w)]) (rest := []) hfix (zcX5_isWord l D cI H1 (nI w) ) (va_cwS 1 hts gX5_votes_X5_isWord rfl rfl rfl (by decide +kernel) ⟨Nat.le_of_ble_eq_true rfl, Nat.le_of_ble_eq_true rfl⟩) (z_preS hK) rfl rfl hl.1 rfl (lv_room (Nat.le_of_ble_eq_true rfl)) dX5_votes_6 ⟨by omega, by omega⟩) ?_
  refine lv_if_eq (tgt := 20) hx hb dX5_votes_9 (by decide) (fun c9 => ?_) (fun c9 => ?_)
  · have c9 := zb_0 c9
    exact absurd (z_in (a := 0) (b := 9999) (Nat.zero_le _) hw (by omega)) c9
  · have c9 := zb_1 c9
    refine lv_aload_n hx hb dX5_votes_12 rfl (lv_at hl 0 rfl) ?_
    refine lv_iload_n hx hb dX5_votes_13 rfl (lv_at hl 1 rfl) ?_
    refine z_ki (va_runV (As := [.int (nI w)]) (rest := []) hfix (zcX5_votesFor l D cI H1 b 0 n g me lo c bf e rd tk (nI w) hM3 hI) (cwV 1 hts gX5_votes_X5_votesFor rfl rfl rfl (by decide +kernel) ⟨Nat.le_of_ble_eq_true rfl, Nat.le_of_ble_eq_true rfl⟩) (z_preV hK hK hM3 (ci := 5) (q0 := 0) rfl rfl rfl) rfl rfl hl.1 rfl (lv_room (Nat.le_of_ble_eq_true rfl)) dX5_votes_14 ⟨by omega, by omega⟩) ?_
    refine lv_goto (tgt := 25) hx hb dX5_votes_17 (by decide) ?_
    exact z_iretM (⟨hM3, hz⟩) hx hb hr hlocks hS dX5_votes_25
set_option maxHeartbeats 4000000 in
set_option maxRecDepth 100000 in
/-- left returns -/
theorem zcX5_left_k (l : Launch) (D : va_G) (cI : ClassId) (H : Heap) (b : Nat) (tn : Int32) (n : Nat) (g : zG) (me : Nat → Int32) (lo : Nat → Int32) (c : Nat → Nat) (bf : Nat → Int32) (e : Nat → Nat) (rd : Int32) (tk : Int32) (w : Nat) (hM : va_P D vwCl (zMo cI b tn n (jf g me lo c) bf (zn e) (nm rd tk)) H) (hI : zI n me lo c e) (hw : w ≤ 9999) : Met l yX5_left wsX5_left ({ frames := 2, cells := 0, slots := 0, locals := 42 } : Room) (zPc D [(cI, .int)] H [.ref b, .int (nI w)]) (zM (fun H1 => va_P D vwCl (zMo cI b 0 n (jf g me lo c) bf (zn e) (nm rd tk)) H1 ∧ H1.size = H.size) (some (.int (nI (lf g (nI w) n)))) (zF b (b + 5))) 0 0 (zF b (b + 5)) := by
  refine z_enter (cc := cX5_left) (maxL := 4) (ret := (some .int)) (by decide) rfl (Nat.le_of_ble_eq_true rfl) ?_
  intro pg ev s m args below meth cd hfix hr hlocks hname hK hHs ls hl
  obtain ⟨hx, hb, hml, hown, hts⟩ := id hfix
  have hl : lv_has ls 4 [(0, .ref b), (1, .int (nI w))] := hl
  have hS : va_S (zF b (b + 5)) s.heap H [] := by rw [hHs]; exact va_S.rf
  have hz : H.size = H.size := rfl
  have hinX5 : ∀ w ∈ wsX50, w ∈ wsX5_left := by decide +kernel
  have hn := zI_n hI
  refine lv_aload_n hx hb dX5_left_0 rfl (lv_at hl 0 rfl) ?_
  refine lv_iconst (v := 0) hx hb dX5_left_1 (by decide) ?_
  refine z_put (D := D) (ci := 5) (v := .int 0) (ty := .int) (C := RX5) (T := TX5) (N := 6) hx hb hts hinX5 tyX5 tyX5_ok nmX5 hown hK hM (by simp only [zF]; omega) hS 0 rfl rfl 0 (by decide) (hts _ (List.mem_of_getElem? (i := 1) rfl)) (fun _ h9 => h9) rfl (by decide +kernel) rfl rfl (Nat.le_of_ble_eq_true rfl) dX5_left_2 (fun H1 lo2 hP1 hz1 hk1 hS => ?_)
  have hz : H1.size = H.size := by omega
  have hM3 : va_P D vwCl (zMo cI b 0 n (jf g me lo c) bf (zn e) (nm rd tk)) H1 := z_set zMo_c hM 0 rfl hP1 (fun q _ h => hk1 q h)
  refine lv_iload_n hx hb dX5_left_5 rfl (lv_at hl 1 rfl) ?_
  refine z_ki (va_runS (As := [.int (nI w)]) (rest := []) hfix (zcX5_isWord l D cI H1 (nI w) ) (va_cwS 1 hts gX5_left_X5_isWord rfl rfl rfl (by decide +kernel) ⟨Nat.le_of_ble_eq_true rfl, Nat.le_of_ble_eq_true rfl⟩) (z_preS hK) rfl rfl hl.1 rfl (lv_room (Nat.le_of_ble_eq_true rfl)) dX5_left_6 ⟨by omega, by omega⟩) ?_
  refine lv_if_ne (tgt := 18) hx hb dX5_left_9 (by decide) (fun c9 => ?_) (fun c9 => ?_)
  · have c9 := zb_1 c9
    refine lv_iconst (v := 0) hx hb dX5_left_18 (by decide) ?_
    refine lv_istore_n (lv' := [(2, .int 0), (0, .ref b), (1, .int (nI w))]) hx hb dX5_left_19 rfl hl (by decide) rfl (fun ls hl => ?_)
    refine lv_iconst (v := 0) hx hb dX5_left_20 (by decide) ?_
    refine lv_istore_n (lv' := [(3, .int 0), (2, .int 0), (0, .ref b), (1, .int (nI w))]) hx hb dX5_left_21 rfl hl (by decide) rfl (fun ls hl => ?_)
    have loop22 : ∀ (fu : Nat) (k : Nat), n - k < fu → (k ≤ n) → ∀ (x3 : Int32), x3 = (nI k) → ∀ (x2 : Int32), x2 = (nI (lf g (nI w) k)) → ∀ ls : Array Slot, lv_has ls 4 [(3, .int x3), (2, .int x2), (0, .ref b), (1, .int (nI w))] → W pg l ev ({ frames := 2, cells := 0, slots := 0, locals := 42 } : Room) s m args below meth cd H1 lo2 0 0 (MQ below (zM (fun H1 => va_P D vwCl (zMo cI b 0 n (jf g me lo c) bf (zn e) (nm rd tk)) H1 ∧ H1.size = H.size) (some (.int (nI (lf g (nI w) n)))) (zF b (b + 5))) args s 0 0 (zF b (b + 5))) (F0 m 22 ls []) := by
      intro fu
      induction fu with
      | zero => intro k hfu; exact absurd hfu (Nat.not_lt_zero _)
      | succ fu ih =>
        intro k hfu hi22_0 x3 ex3 x2 ex2 ls hl
        subst ex3
        subst ex2
        refine lv_iload_n hx hb dX5_left_22 rfl (lv_at hl 0 rfl) ?_
        refine lv_aload_n hx hb dX5_left_23 rfl (lv_at hl 2 rfl) ?_
        refine va_get (D := D) (ci := 5) (v := .int (nI n)) (C := RX5) (T := TX5) (N := 6) hx hb hts hinX5 hown hK hM3 0 rfl rfl 1 (by decide) (hts _ (List.mem_of_getElem? (i := 2) rfl)) (fun _ h9 => h9) rfl dX5_left_24 ?_
        refine lv_icmp_ge (tgt := 76) hx hb dX5_left_27 (by decide) (fun c27 => ?_) (fun c27 => ?_)
        · have c27 := z_le (a := n) (b := k) c27 (by omega) (by omega)
          refine lv_iload_n hx hb dX5_left_76 rfl (lv_at hl 1 rfl) ?_
          refine z_toi (y := (nI (lf g (nI w) n))) (by rw [show n = k by omega]) ?_
          exact z_iretM (⟨hM3, hz⟩) hx hb hr hlocks hS dX5_left_77
        · have c27 := z_nle (a := n) (b := k) c27 (by omega) (by omega)
          refine lv_iload_n hx hb dX5_left_30 rfl (lv_at hl 1 rfl) ?_
          refine lv_aload_n hx hb dX5_left_31 rfl (lv_at hl 2 rfl) ?_
          refine lv_iload_n hx hb dX5_left_32 rfl (lv_at hl 0 rfl) ?_
          refine lv_iconst (v := 0) hx hb dX5_left_33 (by decide) ?_
          refine z_ki (va_runV (As := [.int (nI k), .int 0]) (rest := [.int (nI (lf g (nI w) k))]) hfix (zcX5_ju l D cI H1 b 0 n (jf g me lo c) bf (zn e) (nm rd tk) k 0 hM3 (by omega) (by omega)) (cwV 2 hts gX5_left_X5_ju rfl rfl rfl (by decide +kernel) ⟨Nat.le_of_ble_eq_true rfl, Nat.le_of_ble_eq_true rfl⟩) (z_preV hK hK hM3 (ci := 5) (q0 := 0) rfl rfl rfl) rfl rfl hl.1 rfl (lv_room (Nat.le_of_ble_eq_true rfl)) dX5_left_34 ⟨by omega, by omega⟩) ?_
          refine z_toi (y := (g 0 k)) (jf_g (by omega)) ?_
          refine lv_iload_n hx hb dX5_left_37 rfl (lv_at hl 3 rfl) ?_
          refine lv_bipush (v := 100) hx hb dX5_left_38 (by decide) ?_
          refine lv_idiv hx hb dX5_left_40 (by decide) ?_
          refine lv_icmp_ne (tgt := 48) hx hb dX5_left_41 (by decide) (fun c41 => ?_) (fun c41 => ?_)
          · refine lv_iconst (v := 0) hx hb dX5_left_48 (by decide) ?_
            refine lv_aload_n hx hb dX5_left_49 rfl (lv_at hl 2 rfl) ?_
            refine lv_iload_n hx hb dX5_left_50 rfl (lv_at hl 0 rfl) ?_
            refine lv_iconst (v := 1) hx hb dX5_left_51 (by decide) ?_
            refine z_ki (va_runV (As := [.int (nI k), .int 1]) (rest := [.int 0, .int (nI (lf g (nI w) k))]) hfix (zcX5_ju l D cI H1 b 0 n (jf g me lo c) bf (zn e) (nm rd tk) k 1 hM3 (by omega) (by omega)) (cwV 2 hts gX5_left_X5_ju rfl rfl rfl (by decide +kernel) ⟨Nat.le_of_ble_eq_true rfl, Nat.le_of_ble_eq_true rfl⟩) (z_preV hK hK hM3 (ci := 5) (q0 := 0) rfl rfl rfl) rfl rfl hl.1 rfl (lv_room (Nat.le_of_ble_eq_true rfl)) dX5_left_52 ⟨by omega, by omega⟩) ?_
            refine z_toi (y := (g 1 k)) (jf_g (by omega)) ?_
            refine lv_iload_n hx hb dX5_left_55 rfl (lv_at hl 3 rfl) ?_
            refine lv_bipush (v := 100) hx hb dX5_left_56 (by decide) ?_
            refine lv_irem hx hb dX5_left_58 (by decide) ?_
            refine z_toi (y := zrem (nI w) 100) rfl ?_
            refine lv_icmp_ne (tgt := 66) hx hb dX5_left_59 (by decide) (fun c59 => ?_) (fun c59 => ?_)
            · refine lv_iconst (v := 0) hx hb dX5_left_66 (by decide) ?_
              refine lv_iadd hx hb dX5_left_67 ?_
              refine z_toi (y := nI (0 + 0)) (nI_add 0 0) ?_
              refine lv_iadd hx hb dX5_left_68 ?_
              refine z_toi (y := nI (lf g (nI w) k + (0 + 0))) (nI_add (lf g (nI w) k) (0 + 0)) ?_
              refine lv_istore_n (lv' := [(2, .int (nI (lf g (nI w) k + (0 + 0)))), (3, .int (nI k)), (0, .ref b), (1, .int (nI w))]) hx hb dX5_left_69 rfl hl (by decide) rfl (fun ls hl => ?_)
              refine lv_iinc (v := (nI (k + 1))) (lv' := [(3, .int (nI (k + 1))), (2, .int (nI (lf g (nI w) k + (0 + 0)))), (0, .ref b), (1, .int (nI w))]) hx hb dX5_left_70 hl (k := 1) rfl (nI_1 _) (by decide) rfl (fun ls hl => ?_)
              refine lv_goto (tgt := 22) hx hb dX5_left_73 (by decide) ?_
              exact ih (k + 1) (by omega) (by omega) _ (rfl) _ (by first | (rw [lf_11 c41 c59] <;> rfl) | (rw [lf_10 c41 c59] <;> rfl) | (rw [lf_01 c41 c59] <;> rfl) | (rw [lf_00 c41 c59] <;> rfl)) _ (lv_sub hl [0, 1, 2, 3] rfl)
            · refine lv_iconst (v := 1) hx hb dX5_left_62 (by decide) ?_
              refine lv_goto (tgt := 67) hx hb dX5_left_63 (by decide) ?_
              refine lv_iadd hx hb dX5_left_67 ?_
              refine z_toi (y := nI (0 + 1)) (nI_add 0 1) ?_
              refine lv_iadd hx hb dX5_left_68 ?_
              refine z_toi (y := nI (lf g (nI w) k + (0 + 1))) (nI_add (lf g (nI w) k) (0 + 1)) ?_
              refine lv_istore_n (lv' := [(2, .int (nI (lf g (nI w) k + (0 + 1)))), (3, .int (nI k)), (0, .ref b), (1, .int (nI w))]) hx hb dX5_left_69 rfl hl (by decide) rfl (fun ls hl => ?_)
              refine lv_iinc (v := (nI (k + 1))) (lv' := [(3, .int (nI (k + 1))), (2, .int (nI (lf g (nI w) k + (0 + 1)))), (0, .ref b), (1, .int (nI w))]) hx hb dX5_left_70 hl (k := 1) rfl (nI_1 _) (by decide) rfl (fun ls hl => ?_)
              refine lv_goto (tgt := 22) hx hb dX5_left_73 (by decide) ?_
              exact ih (k + 1) (by omega) (by omega) _ (rfl) _ (by first | (rw [lf_11 c41 c59] <;> rfl) | (rw [lf_10 c41 c59] <;> rfl) | (rw [lf_01 c41 c59] <;> rfl) | (rw [lf_00 c41 c59] <;> rfl)) _ (lv_sub hl [0, 1, 2, 3] rfl)
          · refine lv_iconst (v := 1) hx hb dX5_left_44 (by decide) ?_
            refine lv_goto (tgt := 49) hx hb dX5_left_45 (by decide) ?_
            refine lv_aload_n hx hb dX5_left_49 rfl (lv_at hl 2 rfl) ?_
            refine lv_iload_n hx hb dX5_left_50 rfl (lv_at hl 0 rfl) ?_
            refine lv_iconst (v := 1) hx hb dX5_left_51 (by decide) ?_
            refine z_ki (va_runV (As := [.int (nI k), .int 1]) (rest := [.int 1, .int (nI (lf g (nI w) k))]) hfix (zcX5_ju l D cI H1 b 0 n (jf g me lo c) bf (zn e) (nm rd tk) k 1 hM3 (by omega) (by omega)) (cwV 2 hts gX5_left_X5_ju rfl rfl rfl (by decide +kernel) ⟨Nat.le_of_ble_eq_true rfl, Nat.le_of_ble_eq_true rfl⟩) (z_preV hK hK hM3 (ci := 5) (q0 := 0) rfl rfl rfl) rfl rfl hl.1 rfl (lv_room (Nat.le_of_ble_eq_true rfl)) dX5_left_52 ⟨by omega, by omega⟩) ?_
            refine z_toi (y := (g 1 k)) (jf_g (by omega)) ?_
            refine lv_iload_n hx hb dX5_left_55 rfl (lv_at hl 3 rfl) ?_
            refine lv_bipush (v := 100) hx hb dX5_left_56 (by decide) ?_
            refine lv_irem hx hb dX5_left_58 (by decide) ?_
            refine z_toi (y := zrem (nI w) 100) rfl ?_
            refine lv_icmp_ne (tgt := 66) hx hb dX5_left_59 (by decide) (fun c59 => ?_) (fun c59 => ?_)
            · refine lv_iconst (v := 0) hx hb dX5_left_66 (by decide) ?_
              refine lv_iadd hx hb dX5_left_67 ?_
              refine z_toi (y := nI (1 + 0)) (nI_add 1 0) ?_
              refine lv_iadd hx hb dX5_left_68 ?_
              refine z_toi (y := nI (lf g (nI w) k + (1 + 0))) (nI_add (lf g (nI w) k) (1 + 0)) ?_
              refine lv_istore_n (lv' := [(2, .int (nI (lf g (nI w) k + (1 + 0)))), (3, .int (nI k)), (0, .ref b), (1, .int (nI w))]) hx hb dX5_left_69 rfl hl (by decide) rfl (fun ls hl => ?_)
              refine lv_iinc (v := (nI (k + 1))) (lv' := [(3, .int (nI (k + 1))), (2, .int (nI (lf g (nI w) k + (1 + 0)))), (0, .ref b), (1, .int (nI w))]) hx hb dX5_left_70 hl (k := 1) rfl (nI_1 _) (by decide) rfl (fun ls hl => ?_)
              refine lv_goto (tgt := 22) hx hb dX5_left_73 (by decide) ?_
              exact ih (k + 1) (by omega) (by omega) _ (rfl) _ (by first | (rw [lf_11 c41 c59] <;> rfl) | (rw [lf_10 c41 c59] <;> rfl) | (rw [lf_01 c41 c59] <;> rfl) | (rw [lf_00 c41 c59] <;> rfl)) _ (lv_sub hl [0, 1, 2, 3] rfl)
            · refine lv_iconst (v := 1) hx hb dX5_left_62 (by decide) ?_
              refine lv_goto (tgt := 67) hx hb dX5_left_63 (by decide) ?_
              refine lv_iadd hx hb dX5_left_67 ?_
              refine z_toi (y := nI (1 + 1)) (nI_add 1 1) ?_
              refine lv_iadd hx hb dX5_left_68 ?_
              refine z_toi (y := nI (lf g (nI w) k + (1 + 1))) (nI_add (lf g (nI w) k) (1 + 1)) ?_
              refine lv_istore_n (lv' := [(2, .int (nI (lf g (nI w) k + (1 + 1)))), (3, .int (nI k)), (0, .ref b), (1, .int (nI w))]) hx hb dX5_left_69 rfl hl (by decide) rfl (fun ls hl => ?_)
              refine lv_iinc (v := (nI (k + 1))) (lv' := [(3, .int (nI (k + 1))), (2, .int (nI (lf g (nI w) k + (1 + 1)))), (0, .ref b), (1, .int (nI w))]) hx hb dX5_left_70 hl (k := 1) rfl (nI_1 _) (by decide) rfl (fun ls hl => ?_)
              refine lv_goto (tgt := 22) hx hb dX5_left_73 (by decide) ?_
              exact ih (k + 1) (by omega) (by omega) _ (rfl) _ (by first | (rw [lf_11 c41 c59] <;> rfl) | (rw [lf_10 c41 c59] <;> rfl) | (rw [lf_01 c41 c59] <;> rfl) | (rw [lf_00 c41 c59] <;> rfl)) _ (lv_sub hl [0, 1, 2, 3] rfl)
    exact loop22 _ 0 (Nat.lt_succ_self _) (by omega) _ (rfl) _ (rfl) _ (lv_sub hl [0, 1, 2, 3] rfl)
  · have c9 := zb_0 c9
    exact absurd (z_in (a := 0) (b := 9999) (Nat.zero_le _) hw (by omega)) c9
set_option maxHeartbeats 4000000 in
set_option maxRecDepth 100000 in
/-- count returns -/
theorem zcX5_count_k (l : Launch) (D : va_G) (cI : ClassId) (H : Heap) (b : Nat) (tn : Int32) (n : Nat) (g : zG) (me : Nat → Int32) (lo : Nat → Int32) (c : Nat → Nat) (bf : Nat → Int32) (e : Nat → Nat) (rd : Int32) (tk : Int32) (q : Nat) (hM : va_P D vwCl (zMo cI b tn n (jf g me lo c) bf (zn e) (nm rd tk)) H) (hI : zI n me lo c e) (hq : q ≤ 5) : Met l yX5_count wsX5_count ({ frames := 3, cells := 0, slots := 0, locals := 68 } : Room) (zPc D [(cI, .int)] H [.ref b, .int (nI q)]) (zM (fun H1 => va_P D vwCl (zMo cI b 0 n (jf g me lo c) bf (zn e) (nm rd tk)) H1 ∧ H1.size = H.size) (some (.int (tj n (rd, tk, g) q))) (zF b (b + 5))) 0 0 (zF b (b + 5)) := by
  refine z_enter (cc := cX5_count) (maxL := 2) (ret := (some .int)) (by decide) rfl (Nat.le_of_ble_eq_true rfl) ?_
  intro pg ev s m args below meth cd hfix hr hlocks hname hK hHs ls hl
  obtain ⟨hx, hb, hml, hown, hts⟩ := id hfix
  have hl : lv_has ls 2 [(0, .ref b), (1, .int (nI q))] := hl
  have hS : va_S (zF b (b + 5)) s.heap H [] := by rw [hHs]; exact va_S.rf
  have hz : H.size = H.size := rfl
  have hinX5 : ∀ w ∈ wsX50, w ∈ wsX5_count := by decide +kernel
  have hn := zI_n hI
  refine lv_aload_n hx hb dX5_count_0 rfl (lv_at hl 0 rfl) ?_
  refine lv_iconst (v := 0) hx hb dX5_count_1 (by decide) ?_
  refine z_put (D := D) (ci := 5) (v := .int 0) (ty := .int) (C := RX5) (T := TX5) (N := 6) hx hb hts hinX5 tyX5 tyX5_ok nmX5 hown hK hM (by simp only [zF]; omega) hS 0 rfl rfl 0 (by decide) (hts _ (List.mem_of_getElem? (i := 1) rfl)) (fun _ h9 => h9) rfl (by decide +kernel) rfl rfl (Nat.le_of_ble_eq_true rfl) dX5_count_2 (fun H1 lo2 hP1 hz1 hk1 hS => ?_)
  have hz : H1.size = H.size := by omega
  have hM3 : va_P D vwCl (zMo cI b 0 n (jf g me lo c) bf (zn e) (nm rd tk)) H1 := z_set zMo_c hM 0 rfl hP1 (fun q _ h => hk1 q h)
  refine lv_iload_n hx hb dX5_count_5 rfl (lv_at hl 1 rfl) ?_
  refine lv_iconst (v := 0) hx hb dX5_count_6 (by decide) ?_
  refine lv_iconst (v := 5) hx hb dX5_count_7 (by decide) ?_
  refine z_ki (va_runS (As := [.int (nI q), .int 0, .int 5]) (rest := []) hfix (zcX5_isIn l D cI H1 (nI q) 0 5 ) (va_cwS 3 hts gX5_count_X5_isIn rfl rfl rfl (by decide +kernel) ⟨Nat.le_of_ble_eq_true rfl, Nat.le_of_ble_eq_true rfl⟩) (z_preS hK) rfl rfl hl.1 rfl (lv_room (Nat.le_of_ble_eq_true rfl)) dX5_count_8 ⟨by omega, by omega⟩) ?_
  refine lv_if_eq (tgt := 22) hx hb dX5_count_11 (by decide) (fun c11 => ?_) (fun c11 => ?_)
  · have c11 := zb_0 c11
    exact absurd (z_in (a := 0) (b := 5) (Nat.zero_le _) hq (by omega)) c11
  · have c11 := zb_1 c11
    refine lv_aload_n hx hb dX5_count_14 rfl (lv_at hl 0 rfl) ?_
    refine lv_iload_n hx hb dX5_count_15 rfl (lv_at hl 1 rfl) ?_
    refine z_ki (va_runV (As := [.int (nI q)]) (rest := []) hfix (zcX5_counted l D cI H1 b 0 n g me lo c bf e rd tk q hM3 hI (by omega)) (cwV 1 hts gX5_count_X5_counted rfl rfl rfl (by decide +kernel) ⟨Nat.le_of_ble_eq_true rfl, Nat.le_of_ble_eq_true rfl⟩) (z_preV hK hK hM3 (ci := 5) (q0 := 0) rfl rfl rfl) rfl rfl hl.1 rfl (lv_room (Nat.le_of_ble_eq_true rfl)) dX5_count_16 ⟨by omega, by omega⟩) ?_
    refine lv_goto (tgt := 27) hx hb dX5_count_19 (by decide) ?_
    exact z_iretM (⟨hM3, hz⟩) hx hb hr hlocks hS dX5_count_27
set_option maxHeartbeats 4000000 in
set_option maxRecDepth 100000 in
/-- pass returns -/
theorem zcX5_pass_k (l : Launch) (D : va_G) (cI : ClassId) (H : Heap) (b : Nat) (tn : Int32) (n : Nat) (g : zG) (me : Nat → Int32) (lo : Nat → Int32) (c : Nat → Nat) (bf : Nat → Int32) (e : Nat → Nat) (rd : Int32) (tk : Int32) (r : Nat) (hM : va_P D vwCl (zMo cI b tn n (jf g me lo c) bf (zn e) (nm rd tk)) H) (hI : zI n me lo c e) (hZ : zJ n g) (hr1 : 1 ≤ r) (hr2 : r ≤ 200) : Met l yX5_pass wsX5_pass ({ frames := 5, cells := 0, slots := 0, locals := 111 } : Room) (zPc D [(cI, .int)] H [.ref b, .int (nI r)]) (zM (fun H1 => (∃ bf9 : Nat → Int32, va_P D vwCl (zMo cI b 0 n (jf ((rN n me lo c e (rd, tk, g) r).2.2) me lo c) bf9 (zn e) (nm ((rN n me lo c e (rd, tk, g) r).1) ((rN n me lo c e (rd, tk, g) r).2.1))) H1) ∧ H1.size = H.size) (some (.int ((rN n me lo c e (rd, tk, g) r).2.1 - tk))) (zF b (b + 5))) 0 0 (zF b (b + 5)) := by
  refine z_enter (cc := cX5_pass) (maxL := 3) (ret := (some .int)) (by decide) rfl (Nat.le_of_ble_eq_true rfl) ?_
  intro pg ev s m args below meth cd hfix hr hlocks hname hK hHs ls hl
  obtain ⟨hx, hb, hml, hown, hts⟩ := id hfix
  have hl : lv_has ls 3 [(0, .ref b), (1, .int (nI r))] := hl
  have hS : va_S (zF b (b + 5)) s.heap H [] := by rw [hHs]; exact va_S.rf
  have hz : H.size = H.size := rfl
  have hinX5 : ∀ w ∈ wsX50, w ∈ wsX5_pass := by decide +kernel
  have hn := zI_n hI
  refine lv_aload_n hx hb dX5_pass_0 rfl (lv_at hl 0 rfl) ?_
  refine lv_iconst (v := 0) hx hb dX5_pass_1 (by decide) ?_
  refine z_put (D := D) (ci := 5) (v := .int 0) (ty := .int) (C := RX5) (T := TX5) (N := 6) hx hb hts hinX5 tyX5 tyX5_ok nmX5 hown hK hM (by simp only [zF]; omega) hS 0 rfl rfl 0 (by decide) (hts _ (List.mem_of_getElem? (i := 1) rfl)) (fun _ h9 => h9) rfl (by decide +kernel) rfl rfl (Nat.le_of_ble_eq_true rfl) dX5_pass_2 (fun H1 lo2 hP1 hz1 hk1 hS => ?_)
  have hz : H1.size = H.size := by omega
  have hM3 : va_P D vwCl (zMo cI b 0 n (jf g me lo c) bf (zn e) (nm rd tk)) H1 := z_set zMo_c hM 0 rfl hP1 (fun q _ h => hk1 q h)
  refine lv_iload_n hx hb dX5_pass_5 rfl (lv_at hl 1 rfl) ?_
  refine lv_iconst (v := 1) hx hb dX5_pass_6 (by decide) ?_
  refine lv_sipush (v := 200) hx hb dX5_pass_7 (by decide) ?_
  refine z_ki (va_runS (As := [.int (nI r), .int 1, .int 200]) (rest := []) hfix (zcX5_isIn l D cI H1 (nI r) 1 200 ) (va_cwS 3 hts gX5_pass_X5_isIn rfl rfl rfl (by decide +kernel) ⟨Nat.le_of_ble_eq_true rfl, Nat.le_of_ble_eq_true rfl⟩) (z_preS hK) rfl rfl hl.1 rfl (lv_room (Nat.le_of_ble_eq_true rfl)) dX5_pass_10 ⟨by omega, by omega⟩) ?_
  refine lv_if_ne (tgt := 22) hx hb dX5_pass_13 (by decide) (fun c13 => ?_) (fun c13 => ?_)
  · have c13 := zb_1 c13
    refine lv_aload_n hx hb dX5_pass_22 rfl (lv_at hl 0 rfl) ?_
    refine va_get (D := D) (ci := 5) (v := .ref (b + 4)) (C := RX5) (T := TX5) (N := 6) hx hb hts hinX5 hown hK hM3 0 rfl rfl 5 (by decide) (hts _ (List.mem_of_getElem? (i := 2) rfl)) (fun _ h9 => h9) rfl dX5_pass_23 ?_
    refine lv_iconst (v := 1) hx hb dX5_pass_26 (by decide) ?_
    refine z_iald (a := (b + 4)) (n := 2) (f := (nm rd tk)) (j := 1) hx hb hK hM3 4 0 rfl rfl rfl (by omega) (by omega) dX5_pass_27 ?_
    refine z_toi (y := tk) rfl ?_
    refine lv_istore_n (lv' := [(2, .int tk), (0, .ref b), (1, .int (nI r))]) hx hb dX5_pass_28 rfl hl (by decide) rfl (fun ls hl => ?_)
    refine lv_aload_n hx hb dX5_pass_29 rfl (lv_at hl 1 rfl) ?_
    refine lv_iload_n hx hb dX5_pass_30 rfl (lv_at hl 2 rfl) ?_
    refine z_mv (va_runV (As := [.int (nI r)]) (rest := []) hfix (zcX5_roundsOn l D cI H1 b 0 n g me lo c bf e rd tk r hM3 hI hZ (by omega)) (cwV 1 hts gX5_pass_X5_roundsOn rfl rfl rfl (by decide +kernel) ⟨Nat.le_of_ble_eq_true rfl, Nat.le_of_ble_eq_true rfl⟩) (z_preV hK hK hM3 (ci := 5) (q0 := 0) rfl rfl rfl) rfl rfl hl.1 rfl (lv_room (Nat.le_of_ble_eq_true rfl)) dX5_pass_31 ⟨by omega, by omega⟩) hS (fun q _ h => by simp only [zF] at h ⊢; omega) (fun q h => by simp only [zF] at h ⊢; omega) (fun H4 lo5 hB hz1 hk1 hS => ?_)
    obtain ⟨⟨bf6, hB1⟩, hB2⟩ := hB
    have hz : H4.size = H.size := (hB2).trans hz
    have hM7 : va_P D vwCl (zMo cI b 0 n (jf ((rN n me lo c e (rd, tk, g) r).2.2) me lo c) bf6 (zn e) (nm ((rN n me lo c e (rd, tk, g) r).1) ((rN n me lo c e (rd, tk, g) r).2.1))) H4 := hB1
    refine lv_aload_n hx hb dX5_pass_34 rfl (lv_at hl 1 rfl) ?_
    refine va_get (D := D) (ci := 5) (v := .ref (b + 4)) (C := RX5) (T := TX5) (N := 6) hx hb hts hinX5 hown hK hM7 0 rfl rfl 5 (by decide) (hts _ (List.mem_of_getElem? (i := 2) rfl)) (fun _ h9 => h9) rfl dX5_pass_35 ?_
    refine lv_iconst (v := 1) hx hb dX5_pass_38 (by decide) ?_
    refine z_iald (a := (b + 4)) (n := 2) (f := (nm ((rN n me lo c e (rd, tk, g) r).1) ((rN n me lo c e (rd, tk, g) r).2.1))) (j := 1) hx hb hK hM7 4 0 rfl rfl rfl (by omega) (by omega) dX5_pass_39 ?_
    refine z_toi (y := ((rN n me lo c e (rd, tk, g) r).2.1)) rfl ?_
    refine lv_iload_n hx hb dX5_pass_40 rfl (lv_at hl 0 rfl) ?_
    refine lv_isub hx hb dX5_pass_41 ?_
    refine z_toi (y := ((rN n me lo c e (rd, tk, g) r).2.1 - tk)) (rfl) ?_
    exact z_iretM (⟨⟨_, hM7⟩, hz⟩) hx hb hr hlocks hS dX5_pass_42
  · have c13 := zb_0 c13
    exact absurd (z_in (a := 1) (b := 200) hr1 hr2 (by omega)) c13
