set_option maxHeartbeats 8000000 in
set_option maxRecDepth 100000 in
/-- the tail of the look at one parrot -/
theorem zlaw_T {pg : Program} {l : Launch} {ev : Env} {s : State} {m : MethodId} {args : Array Value} {below : List Frame} {meth : Method} {cd : Code} {Q : State → Prop} {D : va_G} {cI cR cA cT : ClassId} {b o b0 L : Nat} {xs : Nat → Int32} (hfix : CallFix pg m cd cL_law 25 s args wsL_law RL) (hK4 : va_K D vwCl [(cI, .int), (cR, .object zBC), (cA, .array .int), (cT, .array (.array .int))] s) (hKw : zKw s) (hX : va_X b0 L xs s s.heap) (hb0 : b0 < s.heap.size) (hb9 : b + 61 ≤ o) (hbs : s.heap.size ≤ b) (hL : L ≤ 260) (hov2 : (Cond.arrayOver (.array .int)).before args s = true) (hov3 : (Cond.arrayOver (.array (.array .int))).before args s = true) (ck : Nat) (sk : Nat) (hck : ck ≤ 830515) (hsk : sk ≤ 6609922) (tm : Nat) (htm : tm < 40) (n : Nat) (me : Nat → Int32) (lo : Nat → Int32) (c : Nat → Nat) (e : Nat → Nat) (rd : Int32) (tk : Int32) (g : zG) (k : Nat) (mny : Int32) (sv : Int32) (qw : Nat) (qh : Nat) (qt : Nat) (F : Nat → Nat → Int32) (hI : zI n me lo c e) (hZ : zJ n g) (hV : zV n g) (hN : zNs c e) (hn0 : 0 < n) (hZ1 : zJ n (zgP n me lo c e rd tk g)) (hV1 : zV n (zgP n me lo c e rd tk g)) (hk : k < n) (hFf : ∀ i w, i < n → w < 7 → F i w = tp n g me lo c e i w) (hsv : sv = (zgP n me lo c e rd tk g) 6 k) (H : Heap) (lo0 : List Loc) (hS : va_S (fun q => b ≤ q) s.heap H lo0) (hC : zCW D cI b n me lo c e ((rN n me lo c e (rd, tk, g) 1).1) ((rN n me lo c e (rd, tk, g) 1).2.1) (zgP n me lo c e rd tk g) H) (hW : zW2 D cI cA qw n 7 F H)  (kt : ∀ ls1 : Array Slot, lv_has ls1 25 [(3, .int (nI tm)), (0, .ref b0), (1, .ref b), (2, .ref o), (5, .int (nI n)), (6, .ref qw), (7, .ref qh), (8, .ref qt), (10, .int rd), (12, .int ((rN n me lo c e (rd, tk, g) 1).2.1 - tk)), (13, .int mny), (14, .int (nI (ct (zgP n me lo c e rd tk g) (k + 1)))), (15, .int (su (zgP n me lo c e rd tk g) (k + 1))), (16, .int (nI (mo (zgP n me lo c e rd tk g) n (k + 1)))), (17, .int (nI k))] → W pg l ev room_1 s m args below meth cd H lo0 ck sk Q (F0 m 1102 ls1 [])) (ls : Array Slot) (hl : lv_has ls 25 [(3, .int (nI tm)), (0, .ref b0), (1, .ref b), (2, .ref o), (5, .int (nI n)), (6, .ref qw), (7, .ref qh), (8, .ref qt), (10, .int rd), (12, .int ((rN n me lo c e (rd, tk, g) 1).2.1 - tk)), (13, .int mny), (14, .int (nI (ct (zgP n me lo c e rd tk g) k))), (15, .int (su (zgP n me lo c e rd tk g) k)), (16, .int (nI (mo (zgP n me lo c e rd tk g) n k))), (17, .int (nI k)), (18, .int (zo (hd lo e k (c k)))), (22, .int sv)]) : W pg l ev room_1 s m args below meth cd H lo0 (ck) (sk) Q (F0 m 878 ls []) := by
  obtain ⟨hx, hb, hml, hown, hts⟩ := id hfix
  have hK : va_K D vwCl [(cI, .int), (cR, .object zBC)] s := hK4.sub [0, 1] rfl
  have hK1 : va_K D vwCl [(cI, .int)] s := hK4.sub [0] rfl
  have hz : H.size ≤ H.size := Nat.le_refl _
  have hwd7 := hts _ (List.mem_of_getElem? (i := 7) rfl)
  have hwd9 := hts _ (List.mem_of_getElem? (i := 9) rfl)
  have hwd10 := hts _ (List.mem_of_getElem? (i := 10) rfl)
  have hwd11 := hts _ (List.mem_of_getElem? (i := 11) rfl)
  have hn := zI_n hI
  obtain ⟨wv, hwv, hwe⟩ := wd_lt hZ1 hk
  have hvb := vt_le (zgP n me lo c e rd tk g) (nI wv) n
  have hmb := mo_le (zgP n me lo c e rd tk g) n k
  have hlb := lf_le (zgP n me lo c e rd tk g) (nI wv) n
  refine lv_aload_n hx hb dL_law_878 rfl (lv_at hl 2 rfl) ?_
  refine lv_iload hx hb dL_law_879 (lv_at hl 14 rfl) ?_
  refine lv_iconst (v := 1) hx hb dL_law_881 (by decide) ?_
  refine z_ki (va_runV (As := [.int (nI k), .int 1]) (rest := []) hfix (zcX4_parrot_k l D cI H b n me lo c e ((rN n me lo c e (rd, tk, g) 1).1) ((rN n me lo c e (rd, tk, g) 1).2.1) (zgP n me lo c e rd tk g) k 1 hC hI (by omega) (by omega)) (cwV 2 hts gL_law_X4_parrot rfl rfl rfl (by decide +kernel) ⟨Nat.le_of_ble_eq_true rfl, Nat.le_of_ble_eq_true rfl⟩) (z_preV hK hK1 hC.1 (ci := 4) (q0 := 0) rfl rfl rfl) rfl rfl hl.1 rfl (lv_room (Nat.le_of_ble_eq_true rfl)) dL_law_882 ⟨by show ck + 0 ≤ 830515; omega, by show sk + 0 ≤ 6609922; omega⟩) ?_
  refine lv_iload hx hb dL_law_885 (lv_at hl 16 rfl) ?_
  refine lv_icmp_eq (tgt := 892) hx hb dL_law_887 (by decide) (fun c887 => ?_) (fun c887 => ?_)
  · refine lv_iconst (v := 2) hx hb dL_law_892 (by decide) ?_
    refine lv_istore (lv' := [(23, .int 2), (3, .int (nI tm)), (0, .ref b0), (1, .ref b), (2, .ref o), (5, .int (nI n)), (6, .ref qw), (7, .ref qh), (8, .ref qt), (10, .int rd), (12, .int ((rN n me lo c e (rd, tk, g) 1).2.1 - tk)), (13, .int mny), (14, .int (nI (ct (zgP n me lo c e rd tk g) k))), (15, .int (su (zgP n me lo c e rd tk g) k)), (16, .int (nI (mo (zgP n me lo c e rd tk g) n k))), (17, .int (nI k)), (18, .int (zo (hd lo e k (c k)))), (22, .int sv)]) hx hb dL_law_893 hl (by decide) rfl (fun ls hl => ?_)
    have loop895 : ∀ (fu : Nat) (w : Nat), 7 - w < fu → (w ≤ 7) → (2 ≤ w) → ∀ (x23 : Int32), x23 = (nI w) → ∀ ls : Array Slot, lv_has ls 25 [(23, .int x23), (3, .int (nI tm)), (0, .ref b0), (1, .ref b), (2, .ref o), (5, .int (nI n)), (6, .ref qw), (7, .ref qh), (8, .ref qt), (10, .int rd), (12, .int ((rN n me lo c e (rd, tk, g) 1).2.1 - tk)), (13, .int mny), (14, .int (nI (ct (zgP n me lo c e rd tk g) k))), (15, .int (su (zgP n me lo c e rd tk g) k)), (16, .int (nI (mo (zgP n me lo c e rd tk g) n k))), (17, .int (nI k)), (18, .int (zo (hd lo e k (c k)))), (22, .int sv)] → W pg l ev room_1 s m args below meth cd H lo0 ck sk Q (F0 m 895 ls []) := by
      intro fu
      induction fu with
      | zero => intro w hfu; exact absurd hfu (Nat.not_lt_zero _)
      | succ fu ih =>
        intro w hfu hi895_0 hi895_1 x23 ex23 ls hl
        subst ex23
        refine lv_iload hx hb dL_law_895 (lv_at hl 0 rfl) ?_
        refine lv_bipush (v := 7) hx hb dL_law_897 (by decide) ?_
        refine lv_icmp_ge (tgt := 929) hx hb dL_law_899 (by decide) (fun c899 => ?_) (fun c899 => ?_)
        · have c899 := z_le (a := 7) (b := w) c899 (by omega) (by omega)
          refine lv_iload hx hb dL_law_929 (lv_at hl 16 rfl) ?_
          refine lv_if_lt (tgt := 950) hx hb dL_law_931 (by decide) (fun c931 => ?_) (fun c931 => ?_)
          · have c931 := (zo_neg (fun q hq => by have := zI_hd hI hq; omega)).mp c931
            refine lv_iload hx hb dL_law_950 (lv_at hl 13 rfl) ?_
            refine lv_iload hx hb dL_law_952 (lv_at hl 17 rfl) ?_
            refine lv_iadd hx hb dL_law_954 ?_
            refine lv_istore (lv' := [(15, .int ((su (zgP n me lo c e rd tk g) k) + sv)), (23, .int (nI w)), (3, .int (nI tm)), (0, .ref b0), (1, .ref b), (2, .ref o), (5, .int (nI n)), (6, .ref qw), (7, .ref qh), (8, .ref qt), (10, .int rd), (12, .int ((rN n me lo c e (rd, tk, g) 1).2.1 - tk)), (13, .int mny), (14, .int (nI (ct (zgP n me lo c e rd tk g) k))), (16, .int (nI (mo (zgP n me lo c e rd tk g) n k))), (17, .int (nI k)), (18, .int (zo (hd lo e k (c k)))), (22, .int sv)]) hx hb dL_law_955 hl (by decide) rfl (fun ls hl => ?_)
            have hs9 : su (zgP n me lo c e rd tk g) k + sv = su (zgP n me lo c e rd tk g) (k + 1) := by rw [hsv]; rfl
            have hl : lv_has ls 25 [(15, .int (su (zgP n me lo c e rd tk g) (k + 1))), (23, .int (nI w)), (3, .int (nI tm)), (0, .ref b0), (1, .ref b), (2, .ref o), (5, .int (nI n)), (6, .ref qw), (7, .ref qh), (8, .ref qt), (10, .int rd), (12, .int ((rN n me lo c e (rd, tk, g) 1).2.1 - tk)), (13, .int mny), (14, .int (nI (ct (zgP n me lo c e rd tk g) k))), (16, .int (nI (mo (zgP n me lo c e rd tk g) n k))), (17, .int (nI k)), (18, .int (zo (hd lo e k (c k)))), (22, .int sv)] := by rw [hs9] at hl; exact hl
            refine lv_iconst (v := 0) hx hb dL_law_957 (by decide) ?_
            refine lv_istore (lv' := [(23, .int 0), (15, .int (su (zgP n me lo c e rd tk g) (k + 1))), (3, .int (nI tm)), (0, .ref b0), (1, .ref b), (2, .ref o), (5, .int (nI n)), (6, .ref qw), (7, .ref qh), (8, .ref qt), (10, .int rd), (12, .int ((rN n me lo c e (rd, tk, g) 1).2.1 - tk)), (13, .int mny), (14, .int (nI (ct (zgP n me lo c e rd tk g) k))), (16, .int (nI (mo (zgP n me lo c e rd tk g) n k))), (17, .int (nI k)), (18, .int (zo (hd lo e k (c k)))), (22, .int sv)]) hx hb dL_law_958 hl (by decide) rfl (fun ls hl => ?_)
            have loop960 : ∀ (fu : Nat) (w : Nat), 2 - w < fu → (w ≤ 2) → ∀ (x23 : Int32), x23 = (nI w) → ∀ (x14 : Int32), x14 = (nI (cth (zgP n me lo c e rd tk g) k w)) → ∀ ls : Array Slot, lv_has ls 25 [(23, .int x23), (15, .int (su (zgP n me lo c e rd tk g) (k + 1))), (3, .int (nI tm)), (0, .ref b0), (1, .ref b), (2, .ref o), (5, .int (nI n)), (6, .ref qw), (7, .ref qh), (8, .ref qt), (10, .int rd), (12, .int ((rN n me lo c e (rd, tk, g) 1).2.1 - tk)), (13, .int mny), (14, .int x14), (16, .int (nI (mo (zgP n me lo c e rd tk g) n k))), (17, .int (nI k)), (18, .int (zo (hd lo e k (c k)))), (22, .int sv)] → W pg l ev room_1 s m args below meth cd H lo0 ck sk Q (F0 m 960 ls []) := by
              intro fu
              induction fu with
              | zero => intro w hfu; exact absurd hfu (Nat.not_lt_zero _)
              | succ fu ih960 =>
                intro w hfu hi960_0 x23 ex23 x14 ex14 ls hl
                subst ex23
                subst ex14
                refine lv_iload hx hb dL_law_960 (lv_at hl 0 rfl) ?_
                refine lv_iconst (v := 2) hx hb dL_law_962 (by decide) ?_
                refine lv_icmp_ge (tgt := 1055) hx hb dL_law_963 (by decide) (fun c963 => ?_) (fun c963 => ?_)
                · have c963 := z_le (a := 2) (b := w) c963 (by omega) (by omega)
                  have hw9 : w = 2 := by omega
                  have ht9 : cth (zgP n me lo c e rd tk g) k w = ct (zgP n me lo c e rd tk g) (k + 1) := by rw [hw9]; rfl
                  have hl : lv_has ls 25 [(23, .int (nI w)), (15, .int (su (zgP n me lo c e rd tk g) (k + 1))), (3, .int (nI tm)), (0, .ref b0), (1, .ref b), (2, .ref o), (5, .int (nI n)), (6, .ref qw), (7, .ref qh), (8, .ref qt), (10, .int rd), (12, .int ((rN n me lo c e (rd, tk, g) 1).2.1 - tk)), (13, .int mny), (14, .int (nI (ct (zgP n me lo c e rd tk g) (k + 1)))), (16, .int (nI (mo (zgP n me lo c e rd tk g) n k))), (17, .int (nI k)), (18, .int (zo (hd lo e k (c k)))), (22, .int sv)] := by rw [ht9] at hl; exact hl
                  refine lv_iload hx hb dL_law_1055 (lv_at hl 14 rfl) ?_
                  refine lv_aload_n hx hb dL_law_1057 rfl (lv_at hl 4 rfl) ?_
                  refine lv_aload_n hx hb dL_law_1058 rfl (lv_at hl 4 rfl) ?_
                  refine lv_iload hx hb dL_law_1059 (lv_at hl 15 rfl) ?_
                  refine lv_iconst (v := 0) hx hb dL_law_1061 (by decide) ?_
                  refine z_ki (va_runV (As := [.int (nI k), .int 0]) (rest := [.ref b, .int (nI (mo (zgP n me lo c e rd tk g) n k))]) hfix (zcX4_parrot_k l D cI H b n me lo c e ((rN n me lo c e (rd, tk, g) 1).1) ((rN n me lo c e (rd, tk, g) 1).2.1) (zgP n me lo c e rd tk g) k 0 hC hI (by omega) (by omega)) (cwV 2 hts gL_law_X4_parrot rfl rfl rfl (by decide +kernel) ⟨Nat.le_of_ble_eq_true rfl, Nat.le_of_ble_eq_true rfl⟩) (z_preV hK hK1 hC.1 (ci := 4) (q0 := 0) rfl rfl rfl) rfl rfl hl.1 rfl (lv_room (Nat.le_of_ble_eq_true rfl)) dL_law_1062 ⟨by show ck + 0 ≤ 830515; omega, by show sk + 0 ≤ 6609922; omega⟩) ?_
                  refine z_toi (y := nI wv) (hwe) ?_
                  refine z_ki (va_runV (As := [.int (nI wv)]) (rest := [.int (nI (mo (zgP n me lo c e rd tk g) n k))]) hfix (zcX4_votes_k l D cI H b n me lo c e ((rN n me lo c e (rd, tk, g) 1).1) ((rN n me lo c e (rd, tk, g) 1).2.1) (zgP n me lo c e rd tk g) wv hC hI (by omega)) (cwV 1 hts gL_law_X4_votes rfl rfl rfl (by decide +kernel) ⟨Nat.le_of_ble_eq_true rfl, Nat.le_of_ble_eq_true rfl⟩) (z_preV hK hK1 hC.1 (ci := 4) (q0 := 0) rfl rfl rfl) rfl rfl hl.1 rfl (lv_room (Nat.le_of_ble_eq_true rfl)) dL_law_1065 ⟨by show ck + 0 ≤ 830515; omega, by show sk + 0 ≤ 6609922; omega⟩) ?_
                  refine va_mmax hx hb (by rw [hml]; exact hl.1.symm) hown hwd9 hwd10 hwd7 (hwd11) (Nat.le_of_ble_eq_true rfl) (Nat.le_of_ble_eq_true rfl) (hck) (hsk) dL_law_1068 ?_
                  refine z_toi (y := zmax (nI (mo (zgP n me lo c e rd tk g) n k)) (nI (vt (zgP n me lo c e rd tk g) (nI wv) n))) rfl ?_
                  refine z_toi (y := nI (mo (zgP n me lo c e rd tk g) n (k + 1))) (by rw [show mo (zgP n me lo c e rd tk g) n (k + 1) = max (mo (zgP n me lo c e rd tk g) n k) (vt (zgP n me lo c e rd tk g) (wd (zgP n me lo c e rd tk g) k) n) from rfl, hwe]; exact zmax_nat (by omega) (by omega)) ?_
                  refine lv_istore (lv' := [(16, .int (nI (mo (zgP n me lo c e rd tk g) n (k + 1)))), (23, .int (nI w)), (15, .int (su (zgP n me lo c e rd tk g) (k + 1))), (3, .int (nI tm)), (0, .ref b0), (1, .ref b), (2, .ref o), (5, .int (nI n)), (6, .ref qw), (7, .ref qh), (8, .ref qt), (10, .int rd), (12, .int ((rN n me lo c e (rd, tk, g) 1).2.1 - tk)), (13, .int mny), (14, .int (nI (ct (zgP n me lo c e rd tk g) (k + 1)))), (17, .int (nI k)), (18, .int (zo (hd lo e k (c k)))), (22, .int sv)]) hx hb dL_law_1071 hl (by decide) rfl (fun ls hl => ?_)
                  refine lv_aload_n hx hb dL_law_1073 rfl (lv_at hl 5 rfl) ?_
                  refine lv_aload_n hx hb dL_law_1074 rfl (lv_at hl 5 rfl) ?_
                  refine lv_iload hx hb dL_law_1075 (lv_at hl 15 rfl) ?_
                  refine lv_iconst (v := 0) hx hb dL_law_1077 (by decide) ?_
                  refine z_ki (va_runV (As := [.int (nI k), .int 0]) (rest := [.ref b]) hfix (zcX4_parrot_k l D cI H b n me lo c e ((rN n me lo c e (rd, tk, g) 1).1) ((rN n me lo c e (rd, tk, g) 1).2.1) (zgP n me lo c e rd tk g) k 0 hC hI (by omega) (by omega)) (cwV 2 hts gL_law_X4_parrot rfl rfl rfl (by decide +kernel) ⟨Nat.le_of_ble_eq_true rfl, Nat.le_of_ble_eq_true rfl⟩) (z_preV hK hK1 hC.1 (ci := 4) (q0 := 0) rfl rfl rfl) rfl rfl hl.1 rfl (lv_room (Nat.le_of_ble_eq_true rfl)) dL_law_1078 ⟨by show ck + 0 ≤ 830515; omega, by show sk + 0 ≤ 6609922; omega⟩) ?_
                  refine z_toi (y := nI wv) (hwe) ?_
                  refine z_ki (va_runV (As := [.int (nI wv)]) (rest := []) hfix (zcX4_left_k l D cI H b n me lo c e ((rN n me lo c e (rd, tk, g) 1).1) ((rN n me lo c e (rd, tk, g) 1).2.1) (zgP n me lo c e rd tk g) wv hC hI (by omega)) (cwV 1 hts gL_law_X4_left rfl rfl rfl (by decide +kernel) ⟨Nat.le_of_ble_eq_true rfl, Nat.le_of_ble_eq_true rfl⟩) (z_preV hK hK1 hC.1 (ci := 4) (q0 := 0) rfl rfl rfl) rfl rfl hl.1 rfl (lv_room (Nat.le_of_ble_eq_true rfl)) dL_law_1081 ⟨by show ck + 0 ≤ 830515; omega, by show sk + 0 ≤ 6609922; omega⟩) ?_
                  refine lv_iconst (v := 2) hx hb dL_law_1084 (by decide) ?_
                  refine lv_aload_n hx hb dL_law_1085 rfl (lv_at hl 5 rfl) ?_
                  refine lv_aload_n hx hb dL_law_1086 rfl (lv_at hl 5 rfl) ?_
                  refine lv_iload hx hb dL_law_1087 (lv_at hl 15 rfl) ?_
                  refine lv_iconst (v := 0) hx hb dL_law_1089 (by decide) ?_
                  refine z_ki (va_runV (As := [.int (nI k), .int 0]) (rest := [.ref b, .int 2, .int (nI (lf (zgP n me lo c e rd tk g) (nI wv) n))]) hfix (zcX4_parrot_k l D cI H b n me lo c e ((rN n me lo c e (rd, tk, g) 1).1) ((rN n me lo c e (rd, tk, g) 1).2.1) (zgP n me lo c e rd tk g) k 0 hC hI (by omega) (by omega)) (cwV 2 hts gL_law_X4_parrot rfl rfl rfl (by decide +kernel) ⟨Nat.le_of_ble_eq_true rfl, Nat.le_of_ble_eq_true rfl⟩) (z_preV hK hK1 hC.1 (ci := 4) (q0 := 0) rfl rfl rfl) rfl rfl hl.1 rfl (lv_room (Nat.le_of_ble_eq_true rfl)) dL_law_1090 ⟨by show ck + 0 ≤ 830515; omega, by show sk + 0 ≤ 6609922; omega⟩) ?_
                  refine z_toi (y := nI wv) (hwe) ?_
                  refine z_ki (va_runV (As := [.int (nI wv)]) (rest := [.int 2, .int (nI (lf (zgP n me lo c e rd tk g) (nI wv) n))]) hfix (zcX4_votes_k l D cI H b n me lo c e ((rN n me lo c e (rd, tk, g) 1).1) ((rN n me lo c e (rd, tk, g) 1).2.1) (zgP n me lo c e rd tk g) wv hC hI (by omega)) (cwV 1 hts gL_law_X4_votes rfl rfl rfl (by decide +kernel) ⟨Nat.le_of_ble_eq_true rfl, Nat.le_of_ble_eq_true rfl⟩) (z_preV hK hK1 hC.1 (ci := 4) (q0 := 0) rfl rfl rfl) rfl rfl hl.1 rfl (lv_room (Nat.le_of_ble_eq_true rfl)) dL_law_1093 ⟨by show ck + 0 ≤ 830515; omega, by show sk + 0 ≤ 6609922; omega⟩) ?_
                  refine lv_imul hx hb dL_law_1096 ?_
                  refine z_toi (y := nI ((vt (zgP n me lo c e rd tk g) (nI wv) n) * 2)) ((pk_mul 2 (vt (zgP n me lo c e rd tk g) (nI wv) n)).trans (congrArg nI (Nat.mul_comm _ _))) ?_
                  refine lv_icmp_ge (tgt := 1102) hx hb dL_law_1097 (by decide) (fun c1097 => ?_) (fun c1097 => ?_)
                  · have c1097 := z_le (a := (vt (zgP n me lo c e rd tk g) (nI wv) n) * 2) (b := lf (zgP n me lo c e rd tk g) (nI wv) n) c1097 (by omega) (by omega)
                    exact kt _ (lv_sub hl [3, 4, 5, 6, 7, 8, 9, 10, 11, 12, 13, 14, 2, 0, 15] rfl)
                  · have c1097 := z_nle (a := (vt (zgP n me lo c e rd tk g) (nI wv) n) * 2) (b := lf (zgP n me lo c e rd tk g) (nI wv) n) c1097 (by omega) (by omega)
                    exact absurd (lf_vt hZ1 hwv n (Nat.le_refl _)) (by omega)
                · have c963 := z_nle (a := 2) (b := w) c963 (by omega) (by omega)
                  refine lv_aload_n hx hb dL_law_966 rfl (lv_at hl 4 rfl) ?_
                  refine lv_iload hx hb dL_law_967 (lv_at hl 15 rfl) ?_
                  refine lv_iload hx hb dL_law_969 (lv_at hl 0 rfl) ?_
                  refine lv_iconst (v := 1) hx hb dL_law_971 (by decide) ?_
                  refine lv_icmp_ne (tgt := 979) hx hb dL_law_972 (by decide) (fun c972 => ?_) (fun c972 => ?_)
                  · have c972 := z_ne (a := w) (b := 1) c972 (by omega) (by omega)
                    refine lv_iconst (v := 0) hx hb dL_law_979 (by decide) ?_
                    refine lv_iconst (v := 1) hx hb dL_law_980 (by decide) ?_
                    refine z_ki (va_runV (As := [.int (nI k), .int 0, .int 1]) (rest := []) hfix (zcX4_half_k0 l D cI H b n me lo c e ((rN n me lo c e (rd, tk, g) 1).1) ((rN n me lo c e (rd, tk, g) 1).2.1) (zgP n me lo c e rd tk g) k 1 hC hI (by omega) (by omega)) (cwV 3 hts gL_law_X4_half rfl rfl rfl (by decide +kernel) ⟨Nat.le_of_ble_eq_true rfl, Nat.le_of_ble_eq_true rfl⟩) (z_preV hK hK1 hC.1 (ci := 4) (q0 := 0) rfl rfl rfl) rfl rfl hl.1 rfl (lv_room (Nat.le_of_ble_eq_true rfl)) dL_law_981 ⟨by show ck + 0 ≤ 830515; omega, by show sk + 0 ≤ 6609922; omega⟩) ?_
                    refine lv_istore (lv' := [(24, .int (th (zgP n me lo c e rd tk g) k 0 1)), (23, .int (nI w)), (15, .int (su (zgP n me lo c e rd tk g) (k + 1))), (3, .int (nI tm)), (0, .ref b0), (1, .ref b), (2, .ref o), (5, .int (nI n)), (6, .ref qw), (7, .ref qh), (8, .ref qt), (10, .int rd), (12, .int ((rN n me lo c e (rd, tk, g) 1).2.1 - tk)), (13, .int mny), (14, .int (nI (cth (zgP n me lo c e rd tk g) k w))), (16, .int (nI (mo (zgP n me lo c e rd tk g) n k))), (17, .int (nI k)), (18, .int (zo (hd lo e k (c k)))), (22, .int sv)]) hx hb dL_law_984 hl (by decide) rfl (fun ls hl => ?_)
                    refine lv_iload hx hb dL_law_986 (lv_at hl 14 rfl) ?_
                    refine lv_iload hx hb dL_law_988 (lv_at hl 0 rfl) ?_
                    refine lv_if_ge (tgt := 997) hx hb dL_law_990 (by decide) (fun c990 => ?_) (fun c990 => ?_)
                    · refine lv_iconst (v := 0) hx hb dL_law_997 (by decide) ?_
                      refine lv_iadd hx hb dL_law_998 ?_
                      refine z_toi (y := nI (cth (zgP n me lo c e rd tk g) k w + 0)) (nI_add (cth (zgP n me lo c e rd tk g) k w) 0) ?_
                      refine lv_istore (lv' := [(14, .int (nI (cth (zgP n me lo c e rd tk g) k w + 0))), (24, .int (th (zgP n me lo c e rd tk g) k 0 1)), (23, .int (nI w)), (15, .int (su (zgP n me lo c e rd tk g) (k + 1))), (3, .int (nI tm)), (0, .ref b0), (1, .ref b), (2, .ref o), (5, .int (nI n)), (6, .ref qw), (7, .ref qh), (8, .ref qt), (10, .int rd), (12, .int ((rN n me lo c e (rd, tk, g) 1).2.1 - tk)), (13, .int mny), (16, .int (nI (mo (zgP n me lo c e rd tk g) n k))), (17, .int (nI k)), (18, .int (zo (hd lo e k (c k)))), (22, .int sv)]) hx hb dL_law_999 hl (by decide) rfl (fun ls hl => ?_)
                      refine lv_iload hx hb dL_law_1001 (lv_at hl 1 rfl) ?_
                      refine lv_if_ge (tgt := 1010) hx hb dL_law_1003 (by decide) (fun c1003 => ?_) (fun c1003 => ?_)
                      · refine lv_iconst (v := 0) hx hb dL_law_1010 (by decide) ?_
                        refine lv_aload_n hx hb dL_law_1011 rfl (lv_at hl 6 rfl) ?_
                        refine lv_iload hx hb dL_law_1012 (lv_at hl 16 rfl) ?_
                        refine lv_iload hx hb dL_law_1014 (lv_at hl 2 rfl) ?_
                        refine lv_iconst (v := 1) hx hb dL_law_1016 (by decide) ?_
                        refine lv_icmp_ne (tgt := 1024) hx hb dL_law_1017 (by decide) (fun c1017 => ?_) (fun c1017 => ?_)
                        · have c1017 := z_ne (a := w) (b := 1) c1017 (by omega) (by omega)
                          refine lv_iconst (v := 0) hx hb dL_law_1024 (by decide) ?_
                          refine lv_iconst (v := 2) hx hb dL_law_1025 (by decide) ?_
                          refine z_ki (va_runV (As := [.int (nI k), .int 0, .int 2]) (rest := [.int 0]) hfix (zcX4_half_k0 l D cI H b n me lo c e ((rN n me lo c e (rd, tk, g) 1).1) ((rN n me lo c e (rd, tk, g) 1).2.1) (zgP n me lo c e rd tk g) k 2 hC hI (by omega) (by omega)) (cwV 3 hts gL_law_X4_half rfl rfl rfl (by decide +kernel) ⟨Nat.le_of_ble_eq_true rfl, Nat.le_of_ble_eq_true rfl⟩) (z_preV hK hK1 hC.1 (ci := 4) (q0 := 0) rfl rfl rfl) rfl rfl hl.1 rfl (lv_room (Nat.le_of_ble_eq_true rfl)) dL_law_1026 ⟨by show ck + 0 ≤ 830515; omega, by show sk + 0 ≤ 6609922; omega⟩) ?_
                          refine lv_if_ne (tgt := 1036) hx hb dL_law_1029 (by decide) (fun c1029 => ?_) (fun c1029 => ?_)
                          · refine lv_iconst (v := 0) hx hb dL_law_1036 (by decide) ?_
                            refine lv_icmp_ne (tgt := 1047) hx hb dL_law_1037 (by decide) (fun c1037 => ?_) (fun c1037 => ?_)
                            · exact absurd (by decide) c1037
                            · have c1037 := z_eq (a := 0) (b := 0) c1037 (by omega) (by omega)
                              refine lv_iload hx hb dL_law_1040 (lv_at hl 1 rfl) ?_
                              refine lv_iload hx hb dL_law_1042 (lv_at hl 16 rfl) ?_
                              refine lv_icmp_ne (tgt := 1049) hx hb dL_law_1044 (by decide) (fun c1044 => ?_) (fun c1044 => ?_)
                              · refine lv_iinc (v := (nI (w + 1))) (lv' := [(23, .int (nI (w + 1))), (14, .int (nI (cth (zgP n me lo c e rd tk g) k w + 0))), (24, .int (th (zgP n me lo c e rd tk g) k 0 1)), (15, .int (su (zgP n me lo c e rd tk g) (k + 1))), (3, .int (nI tm)), (0, .ref b0), (1, .ref b), (2, .ref o), (5, .int (nI n)), (6, .ref qw), (7, .ref qh), (8, .ref qt), (10, .int rd), (12, .int ((rN n me lo c e (rd, tk, g) 1).2.1 - tk)), (13, .int mny), (16, .int (nI (mo (zgP n me lo c e rd tk g) n k))), (17, .int (nI k)), (18, .int (zo (hd lo e k (c k)))), (22, .int sv)]) hx hb dL_law_1049 hl (k := 2) rfl (nI_1 _) (by decide) rfl (fun ls hl => ?_)
                                refine lv_goto (tgt := 960) hx hb dL_law_1052 (by decide) ?_
                                exact ih960 (w + 1) (by omega) (by omega) _ (rfl) _ (congrArg nI (cth_n ((zV_neg hV1 hk (by omega) hn).mp (by rw [show w = 0 by omega]; exact c990)))) _ (lv_sub hl [0, 3, 4, 5, 6, 7, 8, 9, 10, 11, 12, 13, 14, 1, 15, 16, 17, 18] rfl)
                              · exact absurd c1044 (zV_nk (w := 0) hV1 hk (by omega) hn)
                          · exact absurd c1029 ((zV_ov (w := 0) hV1 hk (by omega) hn).mp c990)
                        · have c1017 := z_eq (a := w) (b := 1) c1017 (by omega) (by omega)
                          exact absurd c1017 c972
                      · exact absurd c990 c1003
                    · refine lv_iconst (v := 1) hx hb dL_law_993 (by decide) ?_
                      refine lv_goto (tgt := 998) hx hb dL_law_994 (by decide) ?_
                      refine lv_iadd hx hb dL_law_998 ?_
                      refine z_toi (y := nI (cth (zgP n me lo c e rd tk g) k w + 1)) (nI_add (cth (zgP n me lo c e rd tk g) k w) 1) ?_
                      refine lv_istore (lv' := [(14, .int (nI (cth (zgP n me lo c e rd tk g) k w + 1))), (24, .int (th (zgP n me lo c e rd tk g) k 0 1)), (23, .int (nI w)), (15, .int (su (zgP n me lo c e rd tk g) (k + 1))), (3, .int (nI tm)), (0, .ref b0), (1, .ref b), (2, .ref o), (5, .int (nI n)), (6, .ref qw), (7, .ref qh), (8, .ref qt), (10, .int rd), (12, .int ((rN n me lo c e (rd, tk, g) 1).2.1 - tk)), (13, .int mny), (16, .int (nI (mo (zgP n me lo c e rd tk g) n k))), (17, .int (nI k)), (18, .int (zo (hd lo e k (c k)))), (22, .int sv)]) hx hb dL_law_999 hl (by decide) rfl (fun ls hl => ?_)
                      refine lv_iload hx hb dL_law_1001 (lv_at hl 1 rfl) ?_
                      refine lv_if_ge (tgt := 1010) hx hb dL_law_1003 (by decide) (fun c1003 => ?_) (fun c1003 => ?_)
                      · exact absurd c1003 c990
                      · refine lv_iconst (v := 1) hx hb dL_law_1006 (by decide) ?_
                        refine lv_goto (tgt := 1011) hx hb dL_law_1007 (by decide) ?_
                        refine lv_aload_n hx hb dL_law_1011 rfl (lv_at hl 6 rfl) ?_
                        refine lv_iload hx hb dL_law_1012 (lv_at hl 16 rfl) ?_
                        refine lv_iload hx hb dL_law_1014 (lv_at hl 2 rfl) ?_
                        refine lv_iconst (v := 1) hx hb dL_law_1016 (by decide) ?_
                        refine lv_icmp_ne (tgt := 1024) hx hb dL_law_1017 (by decide) (fun c1017 => ?_) (fun c1017 => ?_)
                        · have c1017 := z_ne (a := w) (b := 1) c1017 (by omega) (by omega)
                          refine lv_iconst (v := 0) hx hb dL_law_1024 (by decide) ?_
                          refine lv_iconst (v := 2) hx hb dL_law_1025 (by decide) ?_
                          refine z_ki (va_runV (As := [.int (nI k), .int 0, .int 2]) (rest := [.int 1]) hfix (zcX4_half_k0 l D cI H b n me lo c e ((rN n me lo c e (rd, tk, g) 1).1) ((rN n me lo c e (rd, tk, g) 1).2.1) (zgP n me lo c e rd tk g) k 2 hC hI (by omega) (by omega)) (cwV 3 hts gL_law_X4_half rfl rfl rfl (by decide +kernel) ⟨Nat.le_of_ble_eq_true rfl, Nat.le_of_ble_eq_true rfl⟩) (z_preV hK hK1 hC.1 (ci := 4) (q0 := 0) rfl rfl rfl) rfl rfl hl.1 rfl (lv_room (Nat.le_of_ble_eq_true rfl)) dL_law_1026 ⟨by show ck + 0 ≤ 830515; omega, by show sk + 0 ≤ 6609922; omega⟩) ?_
                          refine lv_if_ne (tgt := 1036) hx hb dL_law_1029 (by decide) (fun c1029 => ?_) (fun c1029 => ?_)
                          · exact absurd ((zV_ov (w := 0) hV1 hk (by omega) hn).mpr c1029) c990
                          · refine lv_iconst (v := 1) hx hb dL_law_1032 (by decide) ?_
                            refine lv_goto (tgt := 1037) hx hb dL_law_1033 (by decide) ?_
                            refine lv_icmp_ne (tgt := 1047) hx hb dL_law_1037 (by decide) (fun c1037 => ?_) (fun c1037 => ?_)
                            · exact absurd (by decide) c1037
                            · have c1037 := z_eq (a := 1) (b := 1) c1037 (by omega) (by omega)
                              refine lv_iload hx hb dL_law_1040 (lv_at hl 1 rfl) ?_
                              refine lv_iload hx hb dL_law_1042 (lv_at hl 16 rfl) ?_
                              refine lv_icmp_ne (tgt := 1049) hx hb dL_law_1044 (by decide) (fun c1044 => ?_) (fun c1044 => ?_)
                              · refine lv_iinc (v := (nI (w + 1))) (lv' := [(23, .int (nI (w + 1))), (14, .int (nI (cth (zgP n me lo c e rd tk g) k w + 1))), (24, .int (th (zgP n me lo c e rd tk g) k 0 1)), (15, .int (su (zgP n me lo c e rd tk g) (k + 1))), (3, .int (nI tm)), (0, .ref b0), (1, .ref b), (2, .ref o), (5, .int (nI n)), (6, .ref qw), (7, .ref qh), (8, .ref qt), (10, .int rd), (12, .int ((rN n me lo c e (rd, tk, g) 1).2.1 - tk)), (13, .int mny), (16, .int (nI (mo (zgP n me lo c e rd tk g) n k))), (17, .int (nI k)), (18, .int (zo (hd lo e k (c k)))), (22, .int sv)]) hx hb dL_law_1049 hl (k := 2) rfl (nI_1 _) (by decide) rfl (fun ls hl => ?_)
                                refine lv_goto (tgt := 960) hx hb dL_law_1052 (by decide) ?_
                                exact ih960 (w + 1) (by omega) (by omega) _ (rfl) _ (congrArg nI (cth_y (Classical.byContradiction fun h9 => c990 (by have h8 := (zV_neg hV1 hk (w := w) (by omega) hn).mpr h9; rw [show w = 0 by omega] at h8; exact h8)))) _ (lv_sub hl [0, 3, 4, 5, 6, 7, 8, 9, 10, 11, 12, 13, 14, 1, 15, 16, 17, 18] rfl)
                              · exact absurd c1044 (zV_nk (w := 0) hV1 hk (by omega) hn)
                        · have c1017 := z_eq (a := w) (b := 1) c1017 (by omega) (by omega)
                          exact absurd c1017 c972
                  · have c972 := z_eq (a := w) (b := 1) c972 (by omega) (by omega)
                    refine lv_iconst (v := 1) hx hb dL_law_975 (by decide) ?_
                    refine lv_goto (tgt := 980) hx hb dL_law_976 (by decide) ?_
                    refine lv_iconst (v := 1) hx hb dL_law_980 (by decide) ?_
                    refine z_ki (va_runV (As := [.int (nI k), .int 1, .int 1]) (rest := []) hfix (zcX4_half_k1 l D cI H b n me lo c e ((rN n me lo c e (rd, tk, g) 1).1) ((rN n me lo c e (rd, tk, g) 1).2.1) (zgP n me lo c e rd tk g) k 1 hC hI (by omega) (by omega)) (cwV 3 hts gL_law_X4_half rfl rfl rfl (by decide +kernel) ⟨Nat.le_of_ble_eq_true rfl, Nat.le_of_ble_eq_true rfl⟩) (z_preV hK hK1 hC.1 (ci := 4) (q0 := 0) rfl rfl rfl) rfl rfl hl.1 rfl (lv_room (Nat.le_of_ble_eq_true rfl)) dL_law_981 ⟨by show ck + 0 ≤ 830515; omega, by show sk + 0 ≤ 6609922; omega⟩) ?_
                    refine lv_istore (lv' := [(24, .int (th (zgP n me lo c e rd tk g) k 1 1)), (23, .int (nI w)), (15, .int (su (zgP n me lo c e rd tk g) (k + 1))), (3, .int (nI tm)), (0, .ref b0), (1, .ref b), (2, .ref o), (5, .int (nI n)), (6, .ref qw), (7, .ref qh), (8, .ref qt), (10, .int rd), (12, .int ((rN n me lo c e (rd, tk, g) 1).2.1 - tk)), (13, .int mny), (14, .int (nI (cth (zgP n me lo c e rd tk g) k w))), (16, .int (nI (mo (zgP n me lo c e rd tk g) n k))), (17, .int (nI k)), (18, .int (zo (hd lo e k (c k)))), (22, .int sv)]) hx hb dL_law_984 hl (by decide) rfl (fun ls hl => ?_)
                    refine lv_iload hx hb dL_law_986 (lv_at hl 14 rfl) ?_
                    refine lv_iload hx hb dL_law_988 (lv_at hl 0 rfl) ?_
                    refine lv_if_ge (tgt := 997) hx hb dL_law_990 (by decide) (fun c990 => ?_) (fun c990 => ?_)
                    · refine lv_iconst (v := 0) hx hb dL_law_997 (by decide) ?_
                      refine lv_iadd hx hb dL_law_998 ?_
                      refine z_toi (y := nI (cth (zgP n me lo c e rd tk g) k w + 0)) (nI_add (cth (zgP n me lo c e rd tk g) k w) 0) ?_
                      refine lv_istore (lv' := [(14, .int (nI (cth (zgP n me lo c e rd tk g) k w + 0))), (24, .int (th (zgP n me lo c e rd tk g) k 1 1)), (23, .int (nI w)), (15, .int (su (zgP n me lo c e rd tk g) (k + 1))), (3, .int (nI tm)), (0, .ref b0), (1, .ref b), (2, .ref o), (5, .int (nI n)), (6, .ref qw), (7, .ref qh), (8, .ref qt), (10, .int rd), (12, .int ((rN n me lo c e (rd, tk, g) 1).2.1 - tk)), (13, .int mny), (16, .int (nI (mo (zgP n me lo c e rd tk g) n k))), (17, .int (nI k)), (18, .int (zo (hd lo e k (c k)))), (22, .int sv)]) hx hb dL_law_999 hl (by decide) rfl (fun ls hl => ?_)
                      refine lv_iload hx hb dL_law_1001 (lv_at hl 1 rfl) ?_
                      refine lv_if_ge (tgt := 1010) hx hb dL_law_1003 (by decide) (fun c1003 => ?_) (fun c1003 => ?_)
                      · refine lv_iconst (v := 0) hx hb dL_law_1010 (by decide) ?_
                        refine lv_aload_n hx hb dL_law_1011 rfl (lv_at hl 6 rfl) ?_
                        refine lv_iload hx hb dL_law_1012 (lv_at hl 16 rfl) ?_
                        refine lv_iload hx hb dL_law_1014 (lv_at hl 2 rfl) ?_
                        refine lv_iconst (v := 1) hx hb dL_law_1016 (by decide) ?_
                        refine lv_icmp_ne (tgt := 1024) hx hb dL_law_1017 (by decide) (fun c1017 => ?_) (fun c1017 => ?_)
                        · have c1017 := z_ne (a := w) (b := 1) c1017 (by omega) (by omega)
                          exact absurd c972 c1017
                        · have c1017 := z_eq (a := w) (b := 1) c1017 (by omega) (by omega)
                          refine lv_iconst (v := 1) hx hb dL_law_1020 (by decide) ?_
                          refine lv_goto (tgt := 1025) hx hb dL_law_1021 (by decide) ?_
                          refine lv_iconst (v := 2) hx hb dL_law_1025 (by decide) ?_
                          refine z_ki (va_runV (As := [.int (nI k), .int 1, .int 2]) (rest := [.int 0]) hfix (zcX4_half_k1 l D cI H b n me lo c e ((rN n me lo c e (rd, tk, g) 1).1) ((rN n me lo c e (rd, tk, g) 1).2.1) (zgP n me lo c e rd tk g) k 2 hC hI (by omega) (by omega)) (cwV 3 hts gL_law_X4_half rfl rfl rfl (by decide +kernel) ⟨Nat.le_of_ble_eq_true rfl, Nat.le_of_ble_eq_true rfl⟩) (z_preV hK hK1 hC.1 (ci := 4) (q0 := 0) rfl rfl rfl) rfl rfl hl.1 rfl (lv_room (Nat.le_of_ble_eq_true rfl)) dL_law_1026 ⟨by show ck + 0 ≤ 830515; omega, by show sk + 0 ≤ 6609922; omega⟩) ?_
                          refine lv_if_ne (tgt := 1036) hx hb dL_law_1029 (by decide) (fun c1029 => ?_) (fun c1029 => ?_)
                          · refine lv_iconst (v := 0) hx hb dL_law_1036 (by decide) ?_
                            refine lv_icmp_ne (tgt := 1047) hx hb dL_law_1037 (by decide) (fun c1037 => ?_) (fun c1037 => ?_)
                            · exact absurd (by decide) c1037
                            · have c1037 := z_eq (a := 0) (b := 0) c1037 (by omega) (by omega)
                              refine lv_iload hx hb dL_law_1040 (lv_at hl 1 rfl) ?_
                              refine lv_iload hx hb dL_law_1042 (lv_at hl 16 rfl) ?_
                              refine lv_icmp_ne (tgt := 1049) hx hb dL_law_1044 (by decide) (fun c1044 => ?_) (fun c1044 => ?_)
                              · refine lv_iinc (v := (nI (w + 1))) (lv' := [(23, .int (nI (w + 1))), (14, .int (nI (cth (zgP n me lo c e rd tk g) k w + 0))), (24, .int (th (zgP n me lo c e rd tk g) k 1 1)), (15, .int (su (zgP n me lo c e rd tk g) (k + 1))), (3, .int (nI tm)), (0, .ref b0), (1, .ref b), (2, .ref o), (5, .int (nI n)), (6, .ref qw), (7, .ref qh), (8, .ref qt), (10, .int rd), (12, .int ((rN n me lo c e (rd, tk, g) 1).2.1 - tk)), (13, .int mny), (16, .int (nI (mo (zgP n me lo c e rd tk g) n k))), (17, .int (nI k)), (18, .int (zo (hd lo e k (c k)))), (22, .int sv)]) hx hb dL_law_1049 hl (k := 2) rfl (nI_1 _) (by decide) rfl (fun ls hl => ?_)
                                refine lv_goto (tgt := 960) hx hb dL_law_1052 (by decide) ?_
                                exact ih960 (w + 1) (by omega) (by omega) _ (rfl) _ (congrArg nI (cth_n ((zV_neg hV1 hk (by omega) hn).mp (by rw [show w = 1 by omega]; exact c990)))) _ (lv_sub hl [0, 3, 4, 5, 6, 7, 8, 9, 10, 11, 12, 13, 14, 1, 15, 16, 17, 18] rfl)
                              · exact absurd c1044 (zV_nk (w := 1) hV1 hk (by omega) hn)
                          · exact absurd c1029 ((zV_ov (w := 1) hV1 hk (by omega) hn).mp c990)
                      · exact absurd c990 c1003
                    · refine lv_iconst (v := 1) hx hb dL_law_993 (by decide) ?_
                      refine lv_goto (tgt := 998) hx hb dL_law_994 (by decide) ?_
                      refine lv_iadd hx hb dL_law_998 ?_
                      refine z_toi (y := nI (cth (zgP n me lo c e rd tk g) k w + 1)) (nI_add (cth (zgP n me lo c e rd tk g) k w) 1) ?_
                      refine lv_istore (lv' := [(14, .int (nI (cth (zgP n me lo c e rd tk g) k w + 1))), (24, .int (th (zgP n me lo c e rd tk g) k 1 1)), (23, .int (nI w)), (15, .int (su (zgP n me lo c e rd tk g) (k + 1))), (3, .int (nI tm)), (0, .ref b0), (1, .ref b), (2, .ref o), (5, .int (nI n)), (6, .ref qw), (7, .ref qh), (8, .ref qt), (10, .int rd), (12, .int ((rN n me lo c e (rd, tk, g) 1).2.1 - tk)), (13, .int mny), (16, .int (nI (mo (zgP n me lo c e rd tk g) n k))), (17, .int (nI k)), (18, .int (zo (hd lo e k (c k)))), (22, .int sv)]) hx hb dL_law_999 hl (by decide) rfl (fun ls hl => ?_)
                      refine lv_iload hx hb dL_law_1001 (lv_at hl 1 rfl) ?_
                      refine lv_if_ge (tgt := 1010) hx hb dL_law_1003 (by decide) (fun c1003 => ?_) (fun c1003 => ?_)
                      · exact absurd c1003 c990
                      · refine lv_iconst (v := 1) hx hb dL_law_1006 (by decide) ?_
                        refine lv_goto (tgt := 1011) hx hb dL_law_1007 (by decide) ?_
                        refine lv_aload_n hx hb dL_law_1011 rfl (lv_at hl 6 rfl) ?_
                        refine lv_iload hx hb dL_law_1012 (lv_at hl 16 rfl) ?_
                        refine lv_iload hx hb dL_law_1014 (lv_at hl 2 rfl) ?_
                        refine lv_iconst (v := 1) hx hb dL_law_1016 (by decide) ?_
                        refine lv_icmp_ne (tgt := 1024) hx hb dL_law_1017 (by decide) (fun c1017 => ?_) (fun c1017 => ?_)
                        · have c1017 := z_ne (a := w) (b := 1) c1017 (by omega) (by omega)
                          exact absurd c972 c1017
                        · have c1017 := z_eq (a := w) (b := 1) c1017 (by omega) (by omega)
                          refine lv_iconst (v := 1) hx hb dL_law_1020 (by decide) ?_
                          refine lv_goto (tgt := 1025) hx hb dL_law_1021 (by decide) ?_
                          refine lv_iconst (v := 2) hx hb dL_law_1025 (by decide) ?_
                          refine z_ki (va_runV (As := [.int (nI k), .int 1, .int 2]) (rest := [.int 1]) hfix (zcX4_half_k1 l D cI H b n me lo c e ((rN n me lo c e (rd, tk, g) 1).1) ((rN n me lo c e (rd, tk, g) 1).2.1) (zgP n me lo c e rd tk g) k 2 hC hI (by omega) (by omega)) (cwV 3 hts gL_law_X4_half rfl rfl rfl (by decide +kernel) ⟨Nat.le_of_ble_eq_true rfl, Nat.le_of_ble_eq_true rfl⟩) (z_preV hK hK1 hC.1 (ci := 4) (q0 := 0) rfl rfl rfl) rfl rfl hl.1 rfl (lv_room (Nat.le_of_ble_eq_true rfl)) dL_law_1026 ⟨by show ck + 0 ≤ 830515; omega, by show sk + 0 ≤ 6609922; omega⟩) ?_
                          refine lv_if_ne (tgt := 1036) hx hb dL_law_1029 (by decide) (fun c1029 => ?_) (fun c1029 => ?_)
                          · exact absurd ((zV_ov (w := 1) hV1 hk (by omega) hn).mpr c1029) c990
                          · refine lv_iconst (v := 1) hx hb dL_law_1032 (by decide) ?_
                            refine lv_goto (tgt := 1037) hx hb dL_law_1033 (by decide) ?_
                            refine lv_icmp_ne (tgt := 1047) hx hb dL_law_1037 (by decide) (fun c1037 => ?_) (fun c1037 => ?_)
                            · exact absurd (by decide) c1037
                            · have c1037 := z_eq (a := 1) (b := 1) c1037 (by omega) (by omega)
                              refine lv_iload hx hb dL_law_1040 (lv_at hl 1 rfl) ?_
                              refine lv_iload hx hb dL_law_1042 (lv_at hl 16 rfl) ?_
                              refine lv_icmp_ne (tgt := 1049) hx hb dL_law_1044 (by decide) (fun c1044 => ?_) (fun c1044 => ?_)
                              · refine lv_iinc (v := (nI (w + 1))) (lv' := [(23, .int (nI (w + 1))), (14, .int (nI (cth (zgP n me lo c e rd tk g) k w + 1))), (24, .int (th (zgP n me lo c e rd tk g) k 1 1)), (15, .int (su (zgP n me lo c e rd tk g) (k + 1))), (3, .int (nI tm)), (0, .ref b0), (1, .ref b), (2, .ref o), (5, .int (nI n)), (6, .ref qw), (7, .ref qh), (8, .ref qt), (10, .int rd), (12, .int ((rN n me lo c e (rd, tk, g) 1).2.1 - tk)), (13, .int mny), (16, .int (nI (mo (zgP n me lo c e rd tk g) n k))), (17, .int (nI k)), (18, .int (zo (hd lo e k (c k)))), (22, .int sv)]) hx hb dL_law_1049 hl (k := 2) rfl (nI_1 _) (by decide) rfl (fun ls hl => ?_)
                                refine lv_goto (tgt := 960) hx hb dL_law_1052 (by decide) ?_
                                exact ih960 (w + 1) (by omega) (by omega) _ (rfl) _ (congrArg nI (cth_y (Classical.byContradiction fun h9 => c990 (by have h8 := (zV_neg hV1 hk (w := w) (by omega) hn).mpr h9; rw [show w = 1 by omega] at h8; exact h8)))) _ (lv_sub hl [0, 3, 4, 5, 6, 7, 8, 9, 10, 11, 12, 13, 14, 1, 15, 16, 17, 18] rfl)
                              · exact absurd c1044 (zV_nk (w := 1) hV1 hk (by omega) hn)
            exact loop960 _ 0 (Nat.lt_succ_self _) (by omega) _ (rfl) _ (rfl) _ (lv_sub hl [0, 1, 2, 3, 4, 5, 6, 7, 8, 9, 10, 11, 12, 13, 14, 15, 16, 17] rfl)
          · obtain ⟨o9, hho⟩ : ∃ o9, hd lo e k (c k) = some o9 := Option.ne_none_iff_exists'.mp (fun h => c931 ((zo_neg (fun q hq => by have := zI_hd hI hq; omega)).mpr h))
            refine lv_aload_n hx hb dL_law_934 rfl (lv_at hl 3 rfl) ?_
            refine lv_iload hx hb dL_law_935 (lv_at hl 15 rfl) ?_
            refine z_ki (va_runV (As := [.int (nI k)]) (rest := []) hfix (zcX4_source_k l D cI H b n me lo c e ((rN n me lo c e (rd, tk, g) 1).1) ((rN n me lo c e (rd, tk, g) 1).2.1) (zgP n me lo c e rd tk g) k hC hI (by omega)) (cwV 1 hts gL_law_X4_source rfl rfl rfl (by decide +kernel) ⟨Nat.le_of_ble_eq_true rfl, Nat.le_of_ble_eq_true rfl⟩) (z_preV hK hK1 hC.1 (ci := 4) (q0 := 0) rfl rfl rfl) rfl rfl hl.1 rfl (lv_room (Nat.le_of_ble_eq_true rfl)) dL_law_937 ⟨by show ck + 0 ≤ 830515; omega, by show sk + 0 ≤ 6609922; omega⟩) ?_
            refine lv_iload hx hb dL_law_940 (lv_at hl 16 rfl) ?_
            refine lv_ishr hx hb dL_law_942 ?_
            refine lv_iconst (v := 1) hx hb dL_law_943 (by decide) ?_
            refine lv_iand hx hb dL_law_944 ?_
            refine lv_if_ne (tgt := 950) hx hb dL_law_945 (by decide) (fun c945 => ?_) (fun c945 => ?_)
            · refine lv_iload hx hb dL_law_950 (lv_at hl 13 rfl) ?_
              refine lv_iload hx hb dL_law_952 (lv_at hl 17 rfl) ?_
              refine lv_iadd hx hb dL_law_954 ?_
              refine lv_istore (lv' := [(15, .int ((su (zgP n me lo c e rd tk g) k) + sv)), (23, .int (nI w)), (3, .int (nI tm)), (0, .ref b0), (1, .ref b), (2, .ref o), (5, .int (nI n)), (6, .ref qw), (7, .ref qh), (8, .ref qt), (10, .int rd), (12, .int ((rN n me lo c e (rd, tk, g) 1).2.1 - tk)), (13, .int mny), (14, .int (nI (ct (zgP n me lo c e rd tk g) k))), (16, .int (nI (mo (zgP n me lo c e rd tk g) n k))), (17, .int (nI k)), (18, .int (zo (hd lo e k (c k)))), (22, .int sv)]) hx hb dL_law_955 hl (by decide) rfl (fun ls hl => ?_)
              have hs9 : su (zgP n me lo c e rd tk g) k + sv = su (zgP n me lo c e rd tk g) (k + 1) := by rw [hsv]; rfl
              have hl : lv_has ls 25 [(15, .int (su (zgP n me lo c e rd tk g) (k + 1))), (23, .int (nI w)), (3, .int (nI tm)), (0, .ref b0), (1, .ref b), (2, .ref o), (5, .int (nI n)), (6, .ref qw), (7, .ref qh), (8, .ref qt), (10, .int rd), (12, .int ((rN n me lo c e (rd, tk, g) 1).2.1 - tk)), (13, .int mny), (14, .int (nI (ct (zgP n me lo c e rd tk g) k))), (16, .int (nI (mo (zgP n me lo c e rd tk g) n k))), (17, .int (nI k)), (18, .int (zo (hd lo e k (c k)))), (22, .int sv)] := by rw [hs9] at hl; exact hl
              refine lv_iconst (v := 0) hx hb dL_law_957 (by decide) ?_
              refine lv_istore (lv' := [(23, .int 0), (15, .int (su (zgP n me lo c e rd tk g) (k + 1))), (3, .int (nI tm)), (0, .ref b0), (1, .ref b), (2, .ref o), (5, .int (nI n)), (6, .ref qw), (7, .ref qh), (8, .ref qt), (10, .int rd), (12, .int ((rN n me lo c e (rd, tk, g) 1).2.1 - tk)), (13, .int mny), (14, .int (nI (ct (zgP n me lo c e rd tk g) k))), (16, .int (nI (mo (zgP n me lo c e rd tk g) n k))), (17, .int (nI k)), (18, .int (zo (hd lo e k (c k)))), (22, .int sv)]) hx hb dL_law_958 hl (by decide) rfl (fun ls hl => ?_)
              have loop960 : ∀ (fu : Nat) (w : Nat), 2 - w < fu → (w ≤ 2) → ∀ (x23 : Int32), x23 = (nI w) → ∀ (x14 : Int32), x14 = (nI (cth (zgP n me lo c e rd tk g) k w)) → ∀ ls : Array Slot, lv_has ls 25 [(23, .int x23), (15, .int (su (zgP n me lo c e rd tk g) (k + 1))), (3, .int (nI tm)), (0, .ref b0), (1, .ref b), (2, .ref o), (5, .int (nI n)), (6, .ref qw), (7, .ref qh), (8, .ref qt), (10, .int rd), (12, .int ((rN n me lo c e (rd, tk, g) 1).2.1 - tk)), (13, .int mny), (14, .int x14), (16, .int (nI (mo (zgP n me lo c e rd tk g) n k))), (17, .int (nI k)), (18, .int (zo (hd lo e k (c k)))), (22, .int sv)] → W pg l ev room_1 s m args below meth cd H lo0 ck sk Q (F0 m 960 ls []) := by
                intro fu
                induction fu with
                | zero => intro w hfu; exact absurd hfu (Nat.not_lt_zero _)
                | succ fu ih960 =>
                  intro w hfu hi960_0 x23 ex23 x14 ex14 ls hl
                  subst ex23
                  subst ex14
                  refine lv_iload hx hb dL_law_960 (lv_at hl 0 rfl) ?_
                  refine lv_iconst (v := 2) hx hb dL_law_962 (by decide) ?_
                  refine lv_icmp_ge (tgt := 1055) hx hb dL_law_963 (by decide) (fun c963 => ?_) (fun c963 => ?_)
                  · have c963 := z_le (a := 2) (b := w) c963 (by omega) (by omega)
                    have hw9 : w = 2 := by omega
                    have ht9 : cth (zgP n me lo c e rd tk g) k w = ct (zgP n me lo c e rd tk g) (k + 1) := by rw [hw9]; rfl
                    have hl : lv_has ls 25 [(23, .int (nI w)), (15, .int (su (zgP n me lo c e rd tk g) (k + 1))), (3, .int (nI tm)), (0, .ref b0), (1, .ref b), (2, .ref o), (5, .int (nI n)), (6, .ref qw), (7, .ref qh), (8, .ref qt), (10, .int rd), (12, .int ((rN n me lo c e (rd, tk, g) 1).2.1 - tk)), (13, .int mny), (14, .int (nI (ct (zgP n me lo c e rd tk g) (k + 1)))), (16, .int (nI (mo (zgP n me lo c e rd tk g) n k))), (17, .int (nI k)), (18, .int (zo (hd lo e k (c k)))), (22, .int sv)] := by rw [ht9] at hl; exact hl
                    refine lv_iload hx hb dL_law_1055 (lv_at hl 14 rfl) ?_
                    refine lv_aload_n hx hb dL_law_1057 rfl (lv_at hl 4 rfl) ?_
                    refine lv_aload_n hx hb dL_law_1058 rfl (lv_at hl 4 rfl) ?_
                    refine lv_iload hx hb dL_law_1059 (lv_at hl 15 rfl) ?_
                    refine lv_iconst (v := 0) hx hb dL_law_1061 (by decide) ?_
                    refine z_ki (va_runV (As := [.int (nI k), .int 0]) (rest := [.ref b, .int (nI (mo (zgP n me lo c e rd tk g) n k))]) hfix (zcX4_parrot_k l D cI H b n me lo c e ((rN n me lo c e (rd, tk, g) 1).1) ((rN n me lo c e (rd, tk, g) 1).2.1) (zgP n me lo c e rd tk g) k 0 hC hI (by omega) (by omega)) (cwV 2 hts gL_law_X4_parrot rfl rfl rfl (by decide +kernel) ⟨Nat.le_of_ble_eq_true rfl, Nat.le_of_ble_eq_true rfl⟩) (z_preV hK hK1 hC.1 (ci := 4) (q0 := 0) rfl rfl rfl) rfl rfl hl.1 rfl (lv_room (Nat.le_of_ble_eq_true rfl)) dL_law_1062 ⟨by show ck + 0 ≤ 830515; omega, by show sk + 0 ≤ 6609922; omega⟩) ?_
                    refine z_toi (y := nI wv) (hwe) ?_
                    refine z_ki (va_runV (As := [.int (nI wv)]) (rest := [.int (nI (mo (zgP n me lo c e rd tk g) n k))]) hfix (zcX4_votes_k l D cI H b n me lo c e ((rN n me lo c e (rd, tk, g) 1).1) ((rN n me lo c e (rd, tk, g) 1).2.1) (zgP n me lo c e rd tk g) wv hC hI (by omega)) (cwV 1 hts gL_law_X4_votes rfl rfl rfl (by decide +kernel) ⟨Nat.le_of_ble_eq_true rfl, Nat.le_of_ble_eq_true rfl⟩) (z_preV hK hK1 hC.1 (ci := 4) (q0 := 0) rfl rfl rfl) rfl rfl hl.1 rfl (lv_room (Nat.le_of_ble_eq_true rfl)) dL_law_1065 ⟨by show ck + 0 ≤ 830515; omega, by show sk + 0 ≤ 6609922; omega⟩) ?_
                    refine va_mmax hx hb (by rw [hml]; exact hl.1.symm) hown hwd9 hwd10 hwd7 (hwd11) (Nat.le_of_ble_eq_true rfl) (Nat.le_of_ble_eq_true rfl) (hck) (hsk) dL_law_1068 ?_
                    refine z_toi (y := zmax (nI (mo (zgP n me lo c e rd tk g) n k)) (nI (vt (zgP n me lo c e rd tk g) (nI wv) n))) rfl ?_
                    refine z_toi (y := nI (mo (zgP n me lo c e rd tk g) n (k + 1))) (by rw [show mo (zgP n me lo c e rd tk g) n (k + 1) = max (mo (zgP n me lo c e rd tk g) n k) (vt (zgP n me lo c e rd tk g) (wd (zgP n me lo c e rd tk g) k) n) from rfl, hwe]; exact zmax_nat (by omega) (by omega)) ?_
                    refine lv_istore (lv' := [(16, .int (nI (mo (zgP n me lo c e rd tk g) n (k + 1)))), (23, .int (nI w)), (15, .int (su (zgP n me lo c e rd tk g) (k + 1))), (3, .int (nI tm)), (0, .ref b0), (1, .ref b), (2, .ref o), (5, .int (nI n)), (6, .ref qw), (7, .ref qh), (8, .ref qt), (10, .int rd), (12, .int ((rN n me lo c e (rd, tk, g) 1).2.1 - tk)), (13, .int mny), (14, .int (nI (ct (zgP n me lo c e rd tk g) (k + 1)))), (17, .int (nI k)), (18, .int (zo (hd lo e k (c k)))), (22, .int sv)]) hx hb dL_law_1071 hl (by decide) rfl (fun ls hl => ?_)
                    refine lv_aload_n hx hb dL_law_1073 rfl (lv_at hl 5 rfl) ?_
                    refine lv_aload_n hx hb dL_law_1074 rfl (lv_at hl 5 rfl) ?_
                    refine lv_iload hx hb dL_law_1075 (lv_at hl 15 rfl) ?_
                    refine lv_iconst (v := 0) hx hb dL_law_1077 (by decide) ?_
                    refine z_ki (va_runV (As := [.int (nI k), .int 0]) (rest := [.ref b]) hfix (zcX4_parrot_k l D cI H b n me lo c e ((rN n me lo c e (rd, tk, g) 1).1) ((rN n me lo c e (rd, tk, g) 1).2.1) (zgP n me lo c e rd tk g) k 0 hC hI (by omega) (by omega)) (cwV 2 hts gL_law_X4_parrot rfl rfl rfl (by decide +kernel) ⟨Nat.le_of_ble_eq_true rfl, Nat.le_of_ble_eq_true rfl⟩) (z_preV hK hK1 hC.1 (ci := 4) (q0 := 0) rfl rfl rfl) rfl rfl hl.1 rfl (lv_room (Nat.le_of_ble_eq_true rfl)) dL_law_1078 ⟨by show ck + 0 ≤ 830515; omega, by show sk + 0 ≤ 6609922; omega⟩) ?_
                    refine z_toi (y := nI wv) (hwe) ?_
                    refine z_ki (va_runV (As := [.int (nI wv)]) (rest := []) hfix (zcX4_left_k l D cI H b n me lo c e ((rN n me lo c e (rd, tk, g) 1).1) ((rN n me lo c e (rd, tk, g) 1).2.1) (zgP n me lo c e rd tk g) wv hC hI (by omega)) (cwV 1 hts gL_law_X4_left rfl rfl rfl (by decide +kernel) ⟨Nat.le_of_ble_eq_true rfl, Nat.le_of_ble_eq_true rfl⟩) (z_preV hK hK1 hC.1 (ci := 4) (q0 := 0) rfl rfl rfl) rfl rfl hl.1 rfl (lv_room (Nat.le_of_ble_eq_true rfl)) dL_law_1081 ⟨by show ck + 0 ≤ 830515; omega, by show sk + 0 ≤ 6609922; omega⟩) ?_
                    refine lv_iconst (v := 2) hx hb dL_law_1084 (by decide) ?_
                    refine lv_aload_n hx hb dL_law_1085 rfl (lv_at hl 5 rfl) ?_
                    refine lv_aload_n hx hb dL_law_1086 rfl (lv_at hl 5 rfl) ?_
                    refine lv_iload hx hb dL_law_1087 (lv_at hl 15 rfl) ?_
                    refine lv_iconst (v := 0) hx hb dL_law_1089 (by decide) ?_
                    refine z_ki (va_runV (As := [.int (nI k), .int 0]) (rest := [.ref b, .int 2, .int (nI (lf (zgP n me lo c e rd tk g) (nI wv) n))]) hfix (zcX4_parrot_k l D cI H b n me lo c e ((rN n me lo c e (rd, tk, g) 1).1) ((rN n me lo c e (rd, tk, g) 1).2.1) (zgP n me lo c e rd tk g) k 0 hC hI (by omega) (by omega)) (cwV 2 hts gL_law_X4_parrot rfl rfl rfl (by decide +kernel) ⟨Nat.le_of_ble_eq_true rfl, Nat.le_of_ble_eq_true rfl⟩) (z_preV hK hK1 hC.1 (ci := 4) (q0 := 0) rfl rfl rfl) rfl rfl hl.1 rfl (lv_room (Nat.le_of_ble_eq_true rfl)) dL_law_1090 ⟨by show ck + 0 ≤ 830515; omega, by show sk + 0 ≤ 6609922; omega⟩) ?_
                    refine z_toi (y := nI wv) (hwe) ?_
                    refine z_ki (va_runV (As := [.int (nI wv)]) (rest := [.int 2, .int (nI (lf (zgP n me lo c e rd tk g) (nI wv) n))]) hfix (zcX4_votes_k l D cI H b n me lo c e ((rN n me lo c e (rd, tk, g) 1).1) ((rN n me lo c e (rd, tk, g) 1).2.1) (zgP n me lo c e rd tk g) wv hC hI (by omega)) (cwV 1 hts gL_law_X4_votes rfl rfl rfl (by decide +kernel) ⟨Nat.le_of_ble_eq_true rfl, Nat.le_of_ble_eq_true rfl⟩) (z_preV hK hK1 hC.1 (ci := 4) (q0 := 0) rfl rfl rfl) rfl rfl hl.1 rfl (lv_room (Nat.le_of_ble_eq_true rfl)) dL_law_1093 ⟨by show ck + 0 ≤ 830515; omega, by show sk + 0 ≤ 6609922; omega⟩) ?_
                    refine lv_imul hx hb dL_law_1096 ?_
                    refine z_toi (y := nI ((vt (zgP n me lo c e rd tk g) (nI wv) n) * 2)) ((pk_mul 2 (vt (zgP n me lo c e rd tk g) (nI wv) n)).trans (congrArg nI (Nat.mul_comm _ _))) ?_
                    refine lv_icmp_ge (tgt := 1102) hx hb dL_law_1097 (by decide) (fun c1097 => ?_) (fun c1097 => ?_)
                    · have c1097 := z_le (a := (vt (zgP n me lo c e rd tk g) (nI wv) n) * 2) (b := lf (zgP n me lo c e rd tk g) (nI wv) n) c1097 (by omega) (by omega)
                      exact kt _ (lv_sub hl [3, 4, 5, 6, 7, 8, 9, 10, 11, 12, 13, 14, 2, 0, 15] rfl)
                    · have c1097 := z_nle (a := (vt (zgP n me lo c e rd tk g) (nI wv) n) * 2) (b := lf (zgP n me lo c e rd tk g) (nI wv) n) c1097 (by omega) (by omega)
                      exact absurd (lf_vt hZ1 hwv n (Nat.le_refl _)) (by omega)
                  · have c963 := z_nle (a := 2) (b := w) c963 (by omega) (by omega)
                    refine lv_aload_n hx hb dL_law_966 rfl (lv_at hl 4 rfl) ?_
                    refine lv_iload hx hb dL_law_967 (lv_at hl 15 rfl) ?_
                    refine lv_iload hx hb dL_law_969 (lv_at hl 0 rfl) ?_
                    refine lv_iconst (v := 1) hx hb dL_law_971 (by decide) ?_
                    refine lv_icmp_ne (tgt := 979) hx hb dL_law_972 (by decide) (fun c972 => ?_) (fun c972 => ?_)
                    · have c972 := z_ne (a := w) (b := 1) c972 (by omega) (by omega)
                      refine lv_iconst (v := 0) hx hb dL_law_979 (by decide) ?_
                      refine lv_iconst (v := 1) hx hb dL_law_980 (by decide) ?_
                      refine z_ki (va_runV (As := [.int (nI k), .int 0, .int 1]) (rest := []) hfix (zcX4_half_k0 l D cI H b n me lo c e ((rN n me lo c e (rd, tk, g) 1).1) ((rN n me lo c e (rd, tk, g) 1).2.1) (zgP n me lo c e rd tk g) k 1 hC hI (by omega) (by omega)) (cwV 3 hts gL_law_X4_half rfl rfl rfl (by decide +kernel) ⟨Nat.le_of_ble_eq_true rfl, Nat.le_of_ble_eq_true rfl⟩) (z_preV hK hK1 hC.1 (ci := 4) (q0 := 0) rfl rfl rfl) rfl rfl hl.1 rfl (lv_room (Nat.le_of_ble_eq_true rfl)) dL_law_981 ⟨by show ck + 0 ≤ 830515; omega, by show sk + 0 ≤ 6609922; omega⟩) ?_
                      refine lv_istore (lv' := [(24, .int (th (zgP n me lo c e rd tk g) k 0 1)), (23, .int (nI w)), (15, .int (su (zgP n me lo c e rd tk g) (k + 1))), (3, .int (nI tm)), (0, .ref b0), (1, .ref b), (2, .ref o), (5, .int (nI n)), (6, .ref qw), (7, .ref qh), (8, .ref qt), (10, .int rd), (12, .int ((rN n me lo c e (rd, tk, g) 1).2.1 - tk)), (13, .int mny), (14, .int (nI (cth (zgP n me lo c e rd tk g) k w))), (16, .int (nI (mo (zgP n me lo c e rd tk g) n k))), (17, .int (nI k)), (18, .int (zo (hd lo e k (c k)))), (22, .int sv)]) hx hb dL_law_984 hl (by decide) rfl (fun ls hl => ?_)
                      refine lv_iload hx hb dL_law_986 (lv_at hl 14 rfl) ?_
                      refine lv_iload hx hb dL_law_988 (lv_at hl 0 rfl) ?_
                      refine lv_if_ge (tgt := 997) hx hb dL_law_990 (by decide) (fun c990 => ?_) (fun c990 => ?_)
                      · refine lv_iconst (v := 0) hx hb dL_law_997 (by decide) ?_
                        refine lv_iadd hx hb dL_law_998 ?_
                        refine z_toi (y := nI (cth (zgP n me lo c e rd tk g) k w + 0)) (nI_add (cth (zgP n me lo c e rd tk g) k w) 0) ?_
                        refine lv_istore (lv' := [(14, .int (nI (cth (zgP n me lo c e rd tk g) k w + 0))), (24, .int (th (zgP n me lo c e rd tk g) k 0 1)), (23, .int (nI w)), (15, .int (su (zgP n me lo c e rd tk g) (k + 1))), (3, .int (nI tm)), (0, .ref b0), (1, .ref b), (2, .ref o), (5, .int (nI n)), (6, .ref qw), (7, .ref qh), (8, .ref qt), (10, .int rd), (12, .int ((rN n me lo c e (rd, tk, g) 1).2.1 - tk)), (13, .int mny), (16, .int (nI (mo (zgP n me lo c e rd tk g) n k))), (17, .int (nI k)), (18, .int (zo (hd lo e k (c k)))), (22, .int sv)]) hx hb dL_law_999 hl (by decide) rfl (fun ls hl => ?_)
                        refine lv_iload hx hb dL_law_1001 (lv_at hl 1 rfl) ?_
                        refine lv_if_ge (tgt := 1010) hx hb dL_law_1003 (by decide) (fun c1003 => ?_) (fun c1003 => ?_)
                        · refine lv_iconst (v := 0) hx hb dL_law_1010 (by decide) ?_
                          refine lv_aload_n hx hb dL_law_1011 rfl (lv_at hl 6 rfl) ?_
                          refine lv_iload hx hb dL_law_1012 (lv_at hl 16 rfl) ?_
                          refine lv_iload hx hb dL_law_1014 (lv_at hl 2 rfl) ?_
                          refine lv_iconst (v := 1) hx hb dL_law_1016 (by decide) ?_
                          refine lv_icmp_ne (tgt := 1024) hx hb dL_law_1017 (by decide) (fun c1017 => ?_) (fun c1017 => ?_)
                          · have c1017 := z_ne (a := w) (b := 1) c1017 (by omega) (by omega)
                            refine lv_iconst (v := 0) hx hb dL_law_1024 (by decide) ?_
                            refine lv_iconst (v := 2) hx hb dL_law_1025 (by decide) ?_
                            refine z_ki (va_runV (As := [.int (nI k), .int 0, .int 2]) (rest := [.int 0]) hfix (zcX4_half_k0 l D cI H b n me lo c e ((rN n me lo c e (rd, tk, g) 1).1) ((rN n me lo c e (rd, tk, g) 1).2.1) (zgP n me lo c e rd tk g) k 2 hC hI (by omega) (by omega)) (cwV 3 hts gL_law_X4_half rfl rfl rfl (by decide +kernel) ⟨Nat.le_of_ble_eq_true rfl, Nat.le_of_ble_eq_true rfl⟩) (z_preV hK hK1 hC.1 (ci := 4) (q0 := 0) rfl rfl rfl) rfl rfl hl.1 rfl (lv_room (Nat.le_of_ble_eq_true rfl)) dL_law_1026 ⟨by show ck + 0 ≤ 830515; omega, by show sk + 0 ≤ 6609922; omega⟩) ?_
                            refine lv_if_ne (tgt := 1036) hx hb dL_law_1029 (by decide) (fun c1029 => ?_) (fun c1029 => ?_)
                            · refine lv_iconst (v := 0) hx hb dL_law_1036 (by decide) ?_
                              refine lv_icmp_ne (tgt := 1047) hx hb dL_law_1037 (by decide) (fun c1037 => ?_) (fun c1037 => ?_)
                              · exact absurd (by decide) c1037
                              · have c1037 := z_eq (a := 0) (b := 0) c1037 (by omega) (by omega)
                                refine lv_iload hx hb dL_law_1040 (lv_at hl 1 rfl) ?_
                                refine lv_iload hx hb dL_law_1042 (lv_at hl 16 rfl) ?_
                                refine lv_icmp_ne (tgt := 1049) hx hb dL_law_1044 (by decide) (fun c1044 => ?_) (fun c1044 => ?_)
                                · refine lv_iinc (v := (nI (w + 1))) (lv' := [(23, .int (nI (w + 1))), (14, .int (nI (cth (zgP n me lo c e rd tk g) k w + 0))), (24, .int (th (zgP n me lo c e rd tk g) k 0 1)), (15, .int (su (zgP n me lo c e rd tk g) (k + 1))), (3, .int (nI tm)), (0, .ref b0), (1, .ref b), (2, .ref o), (5, .int (nI n)), (6, .ref qw), (7, .ref qh), (8, .ref qt), (10, .int rd), (12, .int ((rN n me lo c e (rd, tk, g) 1).2.1 - tk)), (13, .int mny), (16, .int (nI (mo (zgP n me lo c e rd tk g) n k))), (17, .int (nI k)), (18, .int (zo (hd lo e k (c k)))), (22, .int sv)]) hx hb dL_law_1049 hl (k := 2) rfl (nI_1 _) (by decide) rfl (fun ls hl => ?_)
                                  refine lv_goto (tgt := 960) hx hb dL_law_1052 (by decide) ?_
                                  exact ih960 (w + 1) (by omega) (by omega) _ (rfl) _ (congrArg nI (cth_n ((zV_neg hV1 hk (by omega) hn).mp (by rw [show w = 0 by omega]; exact c990)))) _ (lv_sub hl [0, 3, 4, 5, 6, 7, 8, 9, 10, 11, 12, 13, 14, 1, 15, 16, 17, 18] rfl)
                                · exact absurd c1044 (zV_nk (w := 0) hV1 hk (by omega) hn)
                            · exact absurd c1029 ((zV_ov (w := 0) hV1 hk (by omega) hn).mp c990)
                          · have c1017 := z_eq (a := w) (b := 1) c1017 (by omega) (by omega)
                            exact absurd c1017 c972
                        · exact absurd c990 c1003
                      · refine lv_iconst (v := 1) hx hb dL_law_993 (by decide) ?_
                        refine lv_goto (tgt := 998) hx hb dL_law_994 (by decide) ?_
                        refine lv_iadd hx hb dL_law_998 ?_
                        refine z_toi (y := nI (cth (zgP n me lo c e rd tk g) k w + 1)) (nI_add (cth (zgP n me lo c e rd tk g) k w) 1) ?_
                        refine lv_istore (lv' := [(14, .int (nI (cth (zgP n me lo c e rd tk g) k w + 1))), (24, .int (th (zgP n me lo c e rd tk g) k 0 1)), (23, .int (nI w)), (15, .int (su (zgP n me lo c e rd tk g) (k + 1))), (3, .int (nI tm)), (0, .ref b0), (1, .ref b), (2, .ref o), (5, .int (nI n)), (6, .ref qw), (7, .ref qh), (8, .ref qt), (10, .int rd), (12, .int ((rN n me lo c e (rd, tk, g) 1).2.1 - tk)), (13, .int mny), (16, .int (nI (mo (zgP n me lo c e rd tk g) n k))), (17, .int (nI k)), (18, .int (zo (hd lo e k (c k)))), (22, .int sv)]) hx hb dL_law_999 hl (by decide) rfl (fun ls hl => ?_)
                        refine lv_iload hx hb dL_law_1001 (lv_at hl 1 rfl) ?_
                        refine lv_if_ge (tgt := 1010) hx hb dL_law_1003 (by decide) (fun c1003 => ?_) (fun c1003 => ?_)
                        · exact absurd c1003 c990
                        · refine lv_iconst (v := 1) hx hb dL_law_1006 (by decide) ?_
                          refine lv_goto (tgt := 1011) hx hb dL_law_1007 (by decide) ?_
                          refine lv_aload_n hx hb dL_law_1011 rfl (lv_at hl 6 rfl) ?_
                          refine lv_iload hx hb dL_law_1012 (lv_at hl 16 rfl) ?_
                          refine lv_iload hx hb dL_law_1014 (lv_at hl 2 rfl) ?_
                          refine lv_iconst (v := 1) hx hb dL_law_1016 (by decide) ?_
                          refine lv_icmp_ne (tgt := 1024) hx hb dL_law_1017 (by decide) (fun c1017 => ?_) (fun c1017 => ?_)
                          · have c1017 := z_ne (a := w) (b := 1) c1017 (by omega) (by omega)
                            refine lv_iconst (v := 0) hx hb dL_law_1024 (by decide) ?_
                            refine lv_iconst (v := 2) hx hb dL_law_1025 (by decide) ?_
                            refine z_ki (va_runV (As := [.int (nI k), .int 0, .int 2]) (rest := [.int 1]) hfix (zcX4_half_k0 l D cI H b n me lo c e ((rN n me lo c e (rd, tk, g) 1).1) ((rN n me lo c e (rd, tk, g) 1).2.1) (zgP n me lo c e rd tk g) k 2 hC hI (by omega) (by omega)) (cwV 3 hts gL_law_X4_half rfl rfl rfl (by decide +kernel) ⟨Nat.le_of_ble_eq_true rfl, Nat.le_of_ble_eq_true rfl⟩) (z_preV hK hK1 hC.1 (ci := 4) (q0 := 0) rfl rfl rfl) rfl rfl hl.1 rfl (lv_room (Nat.le_of_ble_eq_true rfl)) dL_law_1026 ⟨by show ck + 0 ≤ 830515; omega, by show sk + 0 ≤ 6609922; omega⟩) ?_
                            refine lv_if_ne (tgt := 1036) hx hb dL_law_1029 (by decide) (fun c1029 => ?_) (fun c1029 => ?_)
                            · exact absurd ((zV_ov (w := 0) hV1 hk (by omega) hn).mpr c1029) c990
                            · refine lv_iconst (v := 1) hx hb dL_law_1032 (by decide) ?_
                              refine lv_goto (tgt := 1037) hx hb dL_law_1033 (by decide) ?_
                              refine lv_icmp_ne (tgt := 1047) hx hb dL_law_1037 (by decide) (fun c1037 => ?_) (fun c1037 => ?_)
                              · exact absurd (by decide) c1037
                              · have c1037 := z_eq (a := 1) (b := 1) c1037 (by omega) (by omega)
                                refine lv_iload hx hb dL_law_1040 (lv_at hl 1 rfl) ?_
                                refine lv_iload hx hb dL_law_1042 (lv_at hl 16 rfl) ?_
                                refine lv_icmp_ne (tgt := 1049) hx hb dL_law_1044 (by decide) (fun c1044 => ?_) (fun c1044 => ?_)
                                · refine lv_iinc (v := (nI (w + 1))) (lv' := [(23, .int (nI (w + 1))), (14, .int (nI (cth (zgP n me lo c e rd tk g) k w + 1))), (24, .int (th (zgP n me lo c e rd tk g) k 0 1)), (15, .int (su (zgP n me lo c e rd tk g) (k + 1))), (3, .int (nI tm)), (0, .ref b0), (1, .ref b), (2, .ref o), (5, .int (nI n)), (6, .ref qw), (7, .ref qh), (8, .ref qt), (10, .int rd), (12, .int ((rN n me lo c e (rd, tk, g) 1).2.1 - tk)), (13, .int mny), (16, .int (nI (mo (zgP n me lo c e rd tk g) n k))), (17, .int (nI k)), (18, .int (zo (hd lo e k (c k)))), (22, .int sv)]) hx hb dL_law_1049 hl (k := 2) rfl (nI_1 _) (by decide) rfl (fun ls hl => ?_)
                                  refine lv_goto (tgt := 960) hx hb dL_law_1052 (by decide) ?_
                                  exact ih960 (w + 1) (by omega) (by omega) _ (rfl) _ (congrArg nI (cth_y (Classical.byContradiction fun h9 => c990 (by have h8 := (zV_neg hV1 hk (w := w) (by omega) hn).mpr h9; rw [show w = 0 by omega] at h8; exact h8)))) _ (lv_sub hl [0, 3, 4, 5, 6, 7, 8, 9, 10, 11, 12, 13, 14, 1, 15, 16, 17, 18] rfl)
                                · exact absurd c1044 (zV_nk (w := 0) hV1 hk (by omega) hn)
                          · have c1017 := z_eq (a := w) (b := 1) c1017 (by omega) (by omega)
                            exact absurd c1017 c972
                    · have c972 := z_eq (a := w) (b := 1) c972 (by omega) (by omega)
                      refine lv_iconst (v := 1) hx hb dL_law_975 (by decide) ?_
                      refine lv_goto (tgt := 980) hx hb dL_law_976 (by decide) ?_
                      refine lv_iconst (v := 1) hx hb dL_law_980 (by decide) ?_
                      refine z_ki (va_runV (As := [.int (nI k), .int 1, .int 1]) (rest := []) hfix (zcX4_half_k1 l D cI H b n me lo c e ((rN n me lo c e (rd, tk, g) 1).1) ((rN n me lo c e (rd, tk, g) 1).2.1) (zgP n me lo c e rd tk g) k 1 hC hI (by omega) (by omega)) (cwV 3 hts gL_law_X4_half rfl rfl rfl (by decide +kernel) ⟨Nat.le_of_ble_eq_true rfl, Nat.le_of_ble_eq_true rfl⟩) (z_preV hK hK1 hC.1 (ci := 4) (q0 := 0) rfl rfl rfl) rfl rfl hl.1 rfl (lv_room (Nat.le_of_ble_eq_true rfl)) dL_law_981 ⟨by show ck + 0 ≤ 830515; omega, by show sk + 0 ≤ 6609922; omega⟩) ?_
                      refine lv_istore (lv' := [(24, .int (th (zgP n me lo c e rd tk g) k 1 1)), (23, .int (nI w)), (15, .int (su (zgP n me lo c e rd tk g) (k + 1))), (3, .int (nI tm)), (0, .ref b0), (1, .ref b), (2, .ref o), (5, .int (nI n)), (6, .ref qw), (7, .ref qh), (8, .ref qt), (10, .int rd), (12, .int ((rN n me lo c e (rd, tk, g) 1).2.1 - tk)), (13, .int mny), (14, .int (nI (cth (zgP n me lo c e rd tk g) k w))), (16, .int (nI (mo (zgP n me lo c e rd tk g) n k))), (17, .int (nI k)), (18, .int (zo (hd lo e k (c k)))), (22, .int sv)]) hx hb dL_law_984 hl (by decide) rfl (fun ls hl => ?_)
                      refine lv_iload hx hb dL_law_986 (lv_at hl 14 rfl) ?_
                      refine lv_iload hx hb dL_law_988 (lv_at hl 0 rfl) ?_
                      refine lv_if_ge (tgt := 997) hx hb dL_law_990 (by decide) (fun c990 => ?_) (fun c990 => ?_)
                      · refine lv_iconst (v := 0) hx hb dL_law_997 (by decide) ?_
                        refine lv_iadd hx hb dL_law_998 ?_
                        refine z_toi (y := nI (cth (zgP n me lo c e rd tk g) k w + 0)) (nI_add (cth (zgP n me lo c e rd tk g) k w) 0) ?_
                        refine lv_istore (lv' := [(14, .int (nI (cth (zgP n me lo c e rd tk g) k w + 0))), (24, .int (th (zgP n me lo c e rd tk g) k 1 1)), (23, .int (nI w)), (15, .int (su (zgP n me lo c e rd tk g) (k + 1))), (3, .int (nI tm)), (0, .ref b0), (1, .ref b), (2, .ref o), (5, .int (nI n)), (6, .ref qw), (7, .ref qh), (8, .ref qt), (10, .int rd), (12, .int ((rN n me lo c e (rd, tk, g) 1).2.1 - tk)), (13, .int mny), (16, .int (nI (mo (zgP n me lo c e rd tk g) n k))), (17, .int (nI k)), (18, .int (zo (hd lo e k (c k)))), (22, .int sv)]) hx hb dL_law_999 hl (by decide) rfl (fun ls hl => ?_)
                        refine lv_iload hx hb dL_law_1001 (lv_at hl 1 rfl) ?_
                        refine lv_if_ge (tgt := 1010) hx hb dL_law_1003 (by decide) (fun c1003 => ?_) (fun c1003 => ?_)
                        · refine lv_iconst (v := 0) hx hb dL_law_1010 (by decide) ?_
                          refine lv_aload_n hx hb dL_law_1011 rfl (lv_at hl 6 rfl) ?_
                          refine lv_iload hx hb dL_law_1012 (lv_at hl 16 rfl) ?_
                          refine lv_iload hx hb dL_law_1014 (lv_at hl 2 rfl) ?_
                          refine lv_iconst (v := 1) hx hb dL_law_1016 (by decide) ?_
                          refine lv_icmp_ne (tgt := 1024) hx hb dL_law_1017 (by decide) (fun c1017 => ?_) (fun c1017 => ?_)
                          · have c1017 := z_ne (a := w) (b := 1) c1017 (by omega) (by omega)
                            exact absurd c972 c1017
                          · have c1017 := z_eq (a := w) (b := 1) c1017 (by omega) (by omega)
                            refine lv_iconst (v := 1) hx hb dL_law_1020 (by decide) ?_
                            refine lv_goto (tgt := 1025) hx hb dL_law_1021 (by decide) ?_
                            refine lv_iconst (v := 2) hx hb dL_law_1025 (by decide) ?_
                            refine z_ki (va_runV (As := [.int (nI k), .int 1, .int 2]) (rest := [.int 0]) hfix (zcX4_half_k1 l D cI H b n me lo c e ((rN n me lo c e (rd, tk, g) 1).1) ((rN n me lo c e (rd, tk, g) 1).2.1) (zgP n me lo c e rd tk g) k 2 hC hI (by omega) (by omega)) (cwV 3 hts gL_law_X4_half rfl rfl rfl (by decide +kernel) ⟨Nat.le_of_ble_eq_true rfl, Nat.le_of_ble_eq_true rfl⟩) (z_preV hK hK1 hC.1 (ci := 4) (q0 := 0) rfl rfl rfl) rfl rfl hl.1 rfl (lv_room (Nat.le_of_ble_eq_true rfl)) dL_law_1026 ⟨by show ck + 0 ≤ 830515; omega, by show sk + 0 ≤ 6609922; omega⟩) ?_
                            refine lv_if_ne (tgt := 1036) hx hb dL_law_1029 (by decide) (fun c1029 => ?_) (fun c1029 => ?_)
                            · refine lv_iconst (v := 0) hx hb dL_law_1036 (by decide) ?_
                              refine lv_icmp_ne (tgt := 1047) hx hb dL_law_1037 (by decide) (fun c1037 => ?_) (fun c1037 => ?_)
                              · exact absurd (by decide) c1037
                              · have c1037 := z_eq (a := 0) (b := 0) c1037 (by omega) (by omega)
                                refine lv_iload hx hb dL_law_1040 (lv_at hl 1 rfl) ?_
                                refine lv_iload hx hb dL_law_1042 (lv_at hl 16 rfl) ?_
                                refine lv_icmp_ne (tgt := 1049) hx hb dL_law_1044 (by decide) (fun c1044 => ?_) (fun c1044 => ?_)
                                · refine lv_iinc (v := (nI (w + 1))) (lv' := [(23, .int (nI (w + 1))), (14, .int (nI (cth (zgP n me lo c e rd tk g) k w + 0))), (24, .int (th (zgP n me lo c e rd tk g) k 1 1)), (15, .int (su (zgP n me lo c e rd tk g) (k + 1))), (3, .int (nI tm)), (0, .ref b0), (1, .ref b), (2, .ref o), (5, .int (nI n)), (6, .ref qw), (7, .ref qh), (8, .ref qt), (10, .int rd), (12, .int ((rN n me lo c e (rd, tk, g) 1).2.1 - tk)), (13, .int mny), (16, .int (nI (mo (zgP n me lo c e rd tk g) n k))), (17, .int (nI k)), (18, .int (zo (hd lo e k (c k)))), (22, .int sv)]) hx hb dL_law_1049 hl (k := 2) rfl (nI_1 _) (by decide) rfl (fun ls hl => ?_)
                                  refine lv_goto (tgt := 960) hx hb dL_law_1052 (by decide) ?_
                                  exact ih960 (w + 1) (by omega) (by omega) _ (rfl) _ (congrArg nI (cth_n ((zV_neg hV1 hk (by omega) hn).mp (by rw [show w = 1 by omega]; exact c990)))) _ (lv_sub hl [0, 3, 4, 5, 6, 7, 8, 9, 10, 11, 12, 13, 14, 1, 15, 16, 17, 18] rfl)
                                · exact absurd c1044 (zV_nk (w := 1) hV1 hk (by omega) hn)
                            · exact absurd c1029 ((zV_ov (w := 1) hV1 hk (by omega) hn).mp c990)
                        · exact absurd c990 c1003
                      · refine lv_iconst (v := 1) hx hb dL_law_993 (by decide) ?_
                        refine lv_goto (tgt := 998) hx hb dL_law_994 (by decide) ?_
                        refine lv_iadd hx hb dL_law_998 ?_
                        refine z_toi (y := nI (cth (zgP n me lo c e rd tk g) k w + 1)) (nI_add (cth (zgP n me lo c e rd tk g) k w) 1) ?_
                        refine lv_istore (lv' := [(14, .int (nI (cth (zgP n me lo c e rd tk g) k w + 1))), (24, .int (th (zgP n me lo c e rd tk g) k 1 1)), (23, .int (nI w)), (15, .int (su (zgP n me lo c e rd tk g) (k + 1))), (3, .int (nI tm)), (0, .ref b0), (1, .ref b), (2, .ref o), (5, .int (nI n)), (6, .ref qw), (7, .ref qh), (8, .ref qt), (10, .int rd), (12, .int ((rN n me lo c e (rd, tk, g) 1).2.1 - tk)), (13, .int mny), (16, .int (nI (mo (zgP n me lo c e rd tk g) n k))), (17, .int (nI k)), (18, .int (zo (hd lo e k (c k)))), (22, .int sv)]) hx hb dL_law_999 hl (by decide) rfl (fun ls hl => ?_)
                        refine lv_iload hx hb dL_law_1001 (lv_at hl 1 rfl) ?_
                        refine lv_if_ge (tgt := 1010) hx hb dL_law_1003 (by decide) (fun c1003 => ?_) (fun c1003 => ?_)
                        · exact absurd c1003 c990
                        · refine lv_iconst (v := 1) hx hb dL_law_1006 (by decide) ?_
                          refine lv_goto (tgt := 1011) hx hb dL_law_1007 (by decide) ?_
                          refine lv_aload_n hx hb dL_law_1011 rfl (lv_at hl 6 rfl) ?_
                          refine lv_iload hx hb dL_law_1012 (lv_at hl 16 rfl) ?_
                          refine lv_iload hx hb dL_law_1014 (lv_at hl 2 rfl) ?_
                          refine lv_iconst (v := 1) hx hb dL_law_1016 (by decide) ?_
                          refine lv_icmp_ne (tgt := 1024) hx hb dL_law_1017 (by decide) (fun c1017 => ?_) (fun c1017 => ?_)
                          · have c1017 := z_ne (a := w) (b := 1) c1017 (by omega) (by omega)
                            exact absurd c972 c1017
                          · have c1017 := z_eq (a := w) (b := 1) c1017 (by omega) (by omega)
                            refine lv_iconst (v := 1) hx hb dL_law_1020 (by decide) ?_
                            refine lv_goto (tgt := 1025) hx hb dL_law_1021 (by decide) ?_
                            refine lv_iconst (v := 2) hx hb dL_law_1025 (by decide) ?_
                            refine z_ki (va_runV (As := [.int (nI k), .int 1, .int 2]) (rest := [.int 1]) hfix (zcX4_half_k1 l D cI H b n me lo c e ((rN n me lo c e (rd, tk, g) 1).1) ((rN n me lo c e (rd, tk, g) 1).2.1) (zgP n me lo c e rd tk g) k 2 hC hI (by omega) (by omega)) (cwV 3 hts gL_law_X4_half rfl rfl rfl (by decide +kernel) ⟨Nat.le_of_ble_eq_true rfl, Nat.le_of_ble_eq_true rfl⟩) (z_preV hK hK1 hC.1 (ci := 4) (q0 := 0) rfl rfl rfl) rfl rfl hl.1 rfl (lv_room (Nat.le_of_ble_eq_true rfl)) dL_law_1026 ⟨by show ck + 0 ≤ 830515; omega, by show sk + 0 ≤ 6609922; omega⟩) ?_
                            refine lv_if_ne (tgt := 1036) hx hb dL_law_1029 (by decide) (fun c1029 => ?_) (fun c1029 => ?_)
                            · exact absurd ((zV_ov (w := 1) hV1 hk (by omega) hn).mpr c1029) c990
                            · refine lv_iconst (v := 1) hx hb dL_law_1032 (by decide) ?_
                              refine lv_goto (tgt := 1037) hx hb dL_law_1033 (by decide) ?_
                              refine lv_icmp_ne (tgt := 1047) hx hb dL_law_1037 (by decide) (fun c1037 => ?_) (fun c1037 => ?_)
                              · exact absurd (by decide) c1037
                              · have c1037 := z_eq (a := 1) (b := 1) c1037 (by omega) (by omega)
                                refine lv_iload hx hb dL_law_1040 (lv_at hl 1 rfl) ?_
                                refine lv_iload hx hb dL_law_1042 (lv_at hl 16 rfl) ?_
                                refine lv_icmp_ne (tgt := 1049) hx hb dL_law_1044 (by decide) (fun c1044 => ?_) (fun c1044 => ?_)
                                · refine lv_iinc (v := (nI (w + 1))) (lv' := [(23, .int (nI (w + 1))), (14, .int (nI (cth (zgP n me lo c e rd tk g) k w + 1))), (24, .int (th (zgP n me lo c e rd tk g) k 1 1)), (15, .int (su (zgP n me lo c e rd tk g) (k + 1))), (3, .int (nI tm)), (0, .ref b0), (1, .ref b), (2, .ref o), (5, .int (nI n)), (6, .ref qw), (7, .ref qh), (8, .ref qt), (10, .int rd), (12, .int ((rN n me lo c e (rd, tk, g) 1).2.1 - tk)), (13, .int mny), (16, .int (nI (mo (zgP n me lo c e rd tk g) n k))), (17, .int (nI k)), (18, .int (zo (hd lo e k (c k)))), (22, .int sv)]) hx hb dL_law_1049 hl (k := 2) rfl (nI_1 _) (by decide) rfl (fun ls hl => ?_)
                                  refine lv_goto (tgt := 960) hx hb dL_law_1052 (by decide) ?_
                                  exact ih960 (w + 1) (by omega) (by omega) _ (rfl) _ (congrArg nI (cth_y (Classical.byContradiction fun h9 => c990 (by have h8 := (zV_neg hV1 hk (w := w) (by omega) hn).mpr h9; rw [show w = 1 by omega] at h8; exact h8)))) _ (lv_sub hl [0, 3, 4, 5, 6, 7, 8, 9, 10, 11, 12, 13, 14, 1, 15, 16, 17, 18] rfl)
                                · exact absurd c1044 (zV_nk (w := 1) hV1 hk (by omega) hn)
              exact loop960 _ 0 (Nat.lt_succ_self _) (by omega) _ (rfl) _ (rfl) _ (lv_sub hl [0, 1, 2, 3, 4, 5, 6, 7, 8, 9, 10, 11, 12, 13, 14, 15, 16, 17] rfl)
            · rw [hho] at c945; exact absurd c945 (src_in hI hho)
        · have c899 := z_nle (a := 7) (b := w) c899 (by omega) (by omega)
          refine lv_aload_n hx hb dL_law_902 rfl (lv_at hl 3 rfl) ?_
          refine lv_iload hx hb dL_law_903 (lv_at hl 15 rfl) ?_
          refine lv_iload hx hb dL_law_905 (lv_at hl 0 rfl) ?_
          refine z_ki (va_runV (As := [.int (nI k), .int (nI w)]) (rest := []) hfix (zcX4_parrot_k l D cI H b n me lo c e ((rN n me lo c e (rd, tk, g) 1).1) ((rN n me lo c e (rd, tk, g) 1).2.1) (zgP n me lo c e rd tk g) k w hC hI (by omega) (by omega)) (cwV 2 hts gL_law_X4_parrot rfl rfl rfl (by decide +kernel) ⟨Nat.le_of_ble_eq_true rfl, Nat.le_of_ble_eq_true rfl⟩) (z_preV hK hK1 hC.1 (ci := 4) (q0 := 0) rfl rfl rfl) rfl rfl hl.1 rfl (lv_room (Nat.le_of_ble_eq_true rfl)) dL_law_907 ⟨by show ck + 0 ≤ 830515; omega, by show sk + 0 ≤ 6609922; omega⟩) ?_
          refine lv_aload hx hb dL_law_910 (lv_at hl 6 rfl) ?_
          refine lv_iload hx hb dL_law_912 (lv_at hl 15 rfl) ?_
          refine z_aald (a := qw) (n := n) (f := (zbf n (zR2 qw))) (j := k) hx hb hK4 hW.1 0 2 rfl rfl rfl rfl (by omega) (by omega) (zbf_in (by omega)) dL_law_914 ?_
          have hr1 : va_P D vwCl (zAr cI (zR2 qw k) 7 (F k)) H := hW.2 k (by omega)
          refine lv_iload hx hb dL_law_915 (lv_at hl 0 rfl) ?_
          refine z_iald (a := (zR2 qw k)) (n := 7) (f := (F k)) (j := w) hx hb hK hr1 0 0 rfl rfl rfl (by omega) (by omega) dL_law_917 ?_
          refine lv_icmp_eq (tgt := 923) hx hb dL_law_918 (by decide) (fun c918 => ?_) (fun c918 => ?_)
          · refine lv_iinc (v := (nI (w + 1))) (lv' := [(23, .int (nI (w + 1))), (3, .int (nI tm)), (0, .ref b0), (1, .ref b), (2, .ref o), (5, .int (nI n)), (6, .ref qw), (7, .ref qh), (8, .ref qt), (10, .int rd), (12, .int ((rN n me lo c e (rd, tk, g) 1).2.1 - tk)), (13, .int mny), (14, .int (nI (ct (zgP n me lo c e rd tk g) k))), (15, .int (su (zgP n me lo c e rd tk g) k)), (16, .int (nI (mo (zgP n me lo c e rd tk g) n k))), (17, .int (nI k)), (18, .int (zo (hd lo e k (c k)))), (22, .int sv)]) hx hb dL_law_923 hl (k := 0) rfl (nI_1 _) (by decide) rfl (fun ls hl => ?_)
            refine lv_goto (tgt := 895) hx hb dL_law_926 (by decide) ?_
            exact ih (w + 1) (by omega) (by omega) (by omega) _ (rfl) _ (lv_sub hl [0, 1, 2, 3, 4, 5, 6, 7, 8, 9, 10, 11, 12, 13, 14, 15, 16, 17] rfl)
          · exact absurd ((tp_ge hi895_1).trans (hFf k w hk (by omega)).symm) c918
    exact loop895 _ 2 (Nat.lt_succ_self _) (by omega) (by omega) _ (rfl) _ (lv_sub hl [0, 1, 2, 3, 4, 5, 6, 7, 8, 9, 10, 11, 12, 13, 14, 15, 16, 17] rfl)
  · exact absurd hsv.symm c887
set_option maxHeartbeats 8000000 in
set_option maxRecDepth 100000 in
/-- what is looked at behind a round -/
theorem zlaw_C {pg : Program} {l : Launch} {ev : Env} {s : State} {m : MethodId} {args : Array Value} {below : List Frame} {meth : Method} {cd : Code} {Q : State → Prop} {D : va_G} {cI cR cA cT : ClassId} {b o b0 L : Nat} {xs : Nat → Int32} (hfix : CallFix pg m cd cL_law 25 s args wsL_law RL) (hK4 : va_K D vwCl [(cI, .int), (cR, .object zBC), (cA, .array .int), (cT, .array (.array .int))] s) (hKw : zKw s) (hX : va_X b0 L xs s s.heap) (hb0 : b0 < s.heap.size) (hb9 : b + 61 ≤ o) (hbs : s.heap.size ≤ b) (hL : L ≤ 260) (hov2 : (Cond.arrayOver (.array .int)).before args s = true) (hov3 : (Cond.arrayOver (.array (.array .int))).before args s = true) (ck : Nat) (sk : Nat) (hck : ck ≤ 830515) (hsk : sk ≤ 6609922) (tm : Nat) (htm : tm < 40) (n : Nat) (me : Nat → Int32) (lo : Nat → Int32) (c : Nat → Nat) (e : Nat → Nat) (rd : Int32) (tk : Int32) (g : zG) (t : Nat) (ar : Nat) (B : Nat → Nat) (E : Nat → Nat) (qw : Nat) (qh : Nat) (qt : Nat) (F : Nat → Nat → Int32) (G : Nat → Nat → Nat → Int32) (T : Nat → Int32) (hI : zI n me lo c e) (hZ : zJ n g) (hV : zV n g) (hN : zNs c e) (hn0 : 0 < n) (hZ1 : zJ n (zgP n me lo c e rd tk g)) (hV1 : zV n (zgP n me lo c e rd tk g)) (hFf : ∀ i w, i < n → w < 7 → F i w = tp n g me lo c e i w) (hGf : ∀ i j w, i < n → j < 2 → w < 3 → G i j w = th g i j w) (hTf : ∀ i, i < n → T i = wd (zgP n me lo c e rd tk g) i) (hsp : zSp o t n ar B E) (H : Heap) (lo0 : List Loc) (hS : va_S (fun q => b ≤ q) s.heap H lo0) (hO : va_P D vwCl [(o, .inr (6, [.ref ar, .int ((rN n me lo c e (rd, tk, g) 1).1), .int ((rN n me lo c e (rd, tk, g) 1).2.1)]))] H) (hQ : va_P D vwCl (zQr cR ar n (zbf n B)) H) (hF : zFm D cI n B E me lo c e (zgP n me lo c e rd tk g) H) (hC : zCW D cI b n me lo c e ((rN n me lo c e (rd, tk, g) 1).1) ((rN n me lo c e (rd, tk, g) 1).2.1) (zgP n me lo c e rd tk g) H) (hW : zW2 D cI cA qw n 7 F H) (hV3 : zW3 D cI cA cT qh n G H) (hT : va_P D vwCl (zAr cI qt n T) H) (hsz : H.size = t) (kk : ∀ (n1 : Nat) (H1 : Heap) (lo1 : List Loc) (ls1 : Array Slot), 0 < n1 → zLs D cI cR b o n1 H1 → va_S (fun q => b ≤ q) s.heap H1 lo1 → lv_has ls1 25 [(3, .int (nI tm)), (0, .ref b0), (1, .ref b), (2, .ref o)] → W pg l ev room_1 s m args below meth cd H1 lo1 ck sk Q (F0 m 1177 ls1 [])) (ls : Array Slot) (hl : lv_has ls 25 [(3, .int (nI tm)), (0, .ref b0), (1, .ref b), (2, .ref o), (5, .int (nI n)), (6, .ref qw), (7, .ref qh), (8, .ref qt), (10, .int rd), (12, .int ((rN n me lo c e (rd, tk, g) 1).2.1 - tk))]) : W pg l ev room_1 s m args below meth cd H lo0 (ck) (sk) Q (F0 m 372 ls []) := by
  obtain ⟨hx, hb, hml, hown, hts⟩ := id hfix
  have hK : va_K D vwCl [(cI, .int), (cR, .object zBC)] s := hK4.sub [0, 1] rfl
  have hK1 : va_K D vwCl [(cI, .int)] s := hK4.sub [0] rfl
  have hz : H.size ≤ H.size := Nat.le_refl _
  have hwd5 := hts _ (List.mem_of_getElem? (i := 5) rfl)
  have hwd6 := hts _ (List.mem_of_getElem? (i := 6) rfl)
  have hwd7 := hts _ (List.mem_of_getElem? (i := 7) rfl)
  have hwd8 := hts _ (List.mem_of_getElem? (i := 8) rfl)
  have hwd9 := hts _ (List.mem_of_getElem? (i := 9) rfl)
  have hwd10 := hts _ (List.mem_of_getElem? (i := 10) rfl)
  have hwd11 := hts _ (List.mem_of_getElem? (i := 11) rfl)
  have hn := zI_n hI
  obtain ⟨⟨ho1, ho2, ho3⟩, -, -⟩ := id hsp
  refine lv_iconst (v := 0) hx hb dL_law_372 (by decide) ?_
  refine lv_istore (lv' := [(13, .int 0), (3, .int (nI tm)), (0, .ref b0), (1, .ref b), (2, .ref o), (5, .int (nI n)), (6, .ref qw), (7, .ref qh), (8, .ref qt), (10, .int rd), (12, .int ((rN n me lo c e (rd, tk, g) 1).2.1 - tk))]) hx hb dL_law_373 hl (by decide) rfl (fun ls hl => ?_)
  refine lv_iconst (v := 0) hx hb dL_law_375 (by decide) ?_
  refine lv_istore (lv' := [(14, .int 0), (13, .int 0), (3, .int (nI tm)), (0, .ref b0), (1, .ref b), (2, .ref o), (5, .int (nI n)), (6, .ref qw), (7, .ref qh), (8, .ref qt), (10, .int rd), (12, .int ((rN n me lo c e (rd, tk, g) 1).2.1 - tk))]) hx hb dL_law_376 hl (by decide) rfl (fun ls hl => ?_)
  refine lv_iconst (v := 0) hx hb dL_law_378 (by decide) ?_
  refine lv_istore (lv' := [(15, .int 0), (14, .int 0), (13, .int 0), (3, .int (nI tm)), (0, .ref b0), (1, .ref b), (2, .ref o), (5, .int (nI n)), (6, .ref qw), (7, .ref qh), (8, .ref qt), (10, .int rd), (12, .int ((rN n me lo c e (rd, tk, g) 1).2.1 - tk))]) hx hb dL_law_379 hl (by decide) rfl (fun ls hl => ?_)
  refine lv_iconst (v := 0) hx hb dL_law_381 (by decide) ?_
  refine lv_istore (lv' := [(16, .int 0), (15, .int 0), (14, .int 0), (13, .int 0), (3, .int (nI tm)), (0, .ref b0), (1, .ref b), (2, .ref o), (5, .int (nI n)), (6, .ref qw), (7, .ref qh), (8, .ref qt), (10, .int rd), (12, .int ((rN n me lo c e (rd, tk, g) 1).2.1 - tk))]) hx hb dL_law_382 hl (by decide) rfl (fun ls hl => ?_)
  refine lv_iconst (v := 0) hx hb dL_law_384 (by decide) ?_
  refine lv_istore (lv' := [(17, .int 0), (16, .int 0), (15, .int 0), (14, .int 0), (13, .int 0), (3, .int (nI tm)), (0, .ref b0), (1, .ref b), (2, .ref o), (5, .int (nI n)), (6, .ref qw), (7, .ref qh), (8, .ref qt), (10, .int rd), (12, .int ((rN n me lo c e (rd, tk, g) 1).2.1 - tk))]) hx hb dL_law_385 hl (by decide) rfl (fun ls hl => ?_)
  have loop387 : ∀ (fu : Nat) (k : Nat), n - k < fu → (k ≤ n) → ∀ (x17 : Int32), x17 = (nI k) → ∀ (x16 : Int32), x16 = (nI (mo (zgP n me lo c e rd tk g) n k)) → ∀ (x15 : Int32), x15 = (su (zgP n me lo c e rd tk g) k) → ∀ (x14 : Int32), x14 = (nI (ct (zgP n me lo c e rd tk g) k)) → ∀ (x13 : Int32), x13 = ((hA lo c e g (0, g) k).1) → ∀ ls : Array Slot, lv_has ls 25 [(17, .int x17), (16, .int x16), (15, .int x15), (14, .int x14), (13, .int x13), (3, .int (nI tm)), (0, .ref b0), (1, .ref b), (2, .ref o), (5, .int (nI n)), (6, .ref qw), (7, .ref qh), (8, .ref qt), (10, .int rd), (12, .int ((rN n me lo c e (rd, tk, g) 1).2.1 - tk))] → W pg l ev room_1 s m args below meth cd H lo0 ck sk Q (F0 m 387 ls []) := by
    intro fu
    induction fu with
    | zero => intro k hfu; exact absurd hfu (Nat.not_lt_zero _)
    | succ fu ih =>
      intro k hfu hi387_0 x17 ex17 x16 ex16 x15 ex15 x14 ex14 x13 ex13 ls hl
      subst ex17
      subst ex16
      subst ex15
      subst ex14
      subst ex13
      refine lv_iload hx hb dL_law_387 (lv_at hl 0 rfl) ?_
      refine lv_iload hx hb dL_law_389 (lv_at hl 9 rfl) ?_
      refine lv_icmp_ge (tgt := 1108) hx hb dL_law_391 (by decide) (fun c391 => ?_) (fun c391 => ?_)
      · have c391 := z_le (a := n) (b := k) c391 (by omega) (by omega)
        have hkn9 : k = n := by omega
        refine lv_iload hx hb dL_law_1108 (lv_at hl 4 rfl) ?_
        refine lv_iload hx hb dL_law_1110 (lv_at hl 14 rfl) ?_
        refine lv_icmp_ne (tgt := 1175) hx hb dL_law_1112 (by decide) (fun c1112 => ?_) (fun c1112 => ?_)
        · exact absurd (by rw [hkn9]; exact z_many.symm) c1112
        · refine lv_aload_n hx hb dL_law_1115 rfl (lv_at hl 7 rfl) ?_
          refine lv_iconst (v := 3) hx hb dL_law_1116 (by decide) ?_
          refine z_ki (va_runV (As := [.int 3]) (rest := []) hfix (zcX4_count_k l D cI H b n me lo c e ((rN n me lo c e (rd, tk, g) 1).1) ((rN n me lo c e (rd, tk, g) 1).2.1) (zgP n me lo c e rd tk g) 3 hC hI (by omega)) (cwV 1 hts gL_law_X4_count rfl rfl rfl (by decide +kernel) ⟨Nat.le_of_ble_eq_true rfl, Nat.le_of_ble_eq_true rfl⟩) (z_preV hK hK1 hC.1 (ci := 4) (q0 := 0) rfl rfl rfl) rfl rfl hl.1 rfl (lv_room (Nat.le_of_ble_eq_true rfl)) dL_law_1117 ⟨by show ck + 0 ≤ 830515; omega, by show sk + 0 ≤ 6609922; omega⟩) ?_
          refine lv_iload hx hb dL_law_1120 (lv_at hl 3 rfl) ?_
          refine lv_icmp_ne (tgt := 1175) hx hb dL_law_1122 (by decide) (fun c1122 => ?_) (fun c1122 => ?_)
          · exact absurd (by rw [hkn9]; rfl) c1122
          · refine lv_aload_n hx hb dL_law_1125 rfl (lv_at hl 7 rfl) ?_
            refine lv_iconst (v := 4) hx hb dL_law_1126 (by decide) ?_
            refine z_ki (va_runV (As := [.int 4]) (rest := []) hfix (zcX4_count_k l D cI H b n me lo c e ((rN n me lo c e (rd, tk, g) 1).1) ((rN n me lo c e (rd, tk, g) 1).2.1) (zgP n me lo c e rd tk g) 4 hC hI (by omega)) (cwV 1 hts gL_law_X4_count rfl rfl rfl (by decide +kernel) ⟨Nat.le_of_ble_eq_true rfl, Nat.le_of_ble_eq_true rfl⟩) (z_preV hK hK1 hC.1 (ci := 4) (q0 := 0) rfl rfl rfl) rfl rfl hl.1 rfl (lv_room (Nat.le_of_ble_eq_true rfl)) dL_law_1127 ⟨by show ck + 0 ≤ 830515; omega, by show sk + 0 ≤ 6609922; omega⟩) ?_
            refine lv_iload hx hb dL_law_1130 (lv_at hl 2 rfl) ?_
            refine lv_icmp_ne (tgt := 1175) hx hb dL_law_1132 (by decide) (fun c1132 => ?_) (fun c1132 => ?_)
            · exact absurd (by rw [hkn9]; rfl) c1132
            · refine lv_aload_n hx hb dL_law_1135 rfl (lv_at hl 7 rfl) ?_
              refine lv_aload_n hx hb dL_law_1136 rfl (lv_at hl 7 rfl) ?_
              refine z_ki (va_runV (As := []) (rest := [.ref b]) hfix (zcX4_verdict l D cI H b n me lo c e ((rN n me lo c e (rd, tk, g) 1).1) ((rN n me lo c e (rd, tk, g) 1).2.1) (zgP n me lo c e rd tk g) hC.1 hC.2.1 hC.2.2.1 hI) (cwV 0 hts gL_law_X4_verdict rfl rfl rfl (by decide +kernel) ⟨Nat.le_of_ble_eq_true rfl, Nat.le_of_ble_eq_true rfl⟩) (z_preV hK hK1 hC.1 (ci := 4) (q0 := 0) rfl rfl rfl) rfl rfl hl.1 rfl (lv_room (Nat.le_of_ble_eq_true rfl)) dL_law_1137 ⟨by show ck + 0 ≤ 830515; omega, by show sk + 0 ≤ 6609922; omega⟩) ?_
              obtain ⟨j9, hj9, hvd⟩ := vd_is (g := (zgP n me lo c e rd tk g)) hn0
              obtain ⟨wv, hwv, hwe⟩ := wd_lt hZ1 hj9
              have hvb := vt_le (zgP n me lo c e rd tk g) (nI wv) n
              have hmb := mo_le (zgP n me lo c e rd tk g) n k
              refine z_toi (y := nI wv) (by rw [hvd]; exact hwe) ?_
              refine z_ki (va_runV (As := [.int (nI wv)]) (rest := []) hfix (zcX4_votes_k l D cI H b n me lo c e ((rN n me lo c e (rd, tk, g) 1).1) ((rN n me lo c e (rd, tk, g) 1).2.1) (zgP n me lo c e rd tk g) wv hC hI (by omega)) (cwV 1 hts gL_law_X4_votes rfl rfl rfl (by decide +kernel) ⟨Nat.le_of_ble_eq_true rfl, Nat.le_of_ble_eq_true rfl⟩) (z_preV hK hK1 hC.1 (ci := 4) (q0 := 0) rfl rfl rfl) rfl rfl hl.1 rfl (lv_room (Nat.le_of_ble_eq_true rfl)) dL_law_1140 ⟨by show ck + 0 ≤ 830515; omega, by show sk + 0 ≤ 6609922; omega⟩) ?_
              refine lv_iload hx hb dL_law_1143 (lv_at hl 1 rfl) ?_
              refine lv_icmp_ne (tgt := 1175) hx hb dL_law_1145 (by decide) (fun c1145 => ?_) (fun c1145 => ?_)
              · have c1145 := z_ne (a := vt (zgP n me lo c e rd tk g) (nI wv) n) (b := mo (zgP n me lo c e rd tk g) n k) c1145 (by omega) (by omega)
                exact absurd (by rw [hkn9, ← vd_mo (zgP n me lo c e rd tk g) n n (Nat.le_refl _), hvd]; show _ = vt (zgP n me lo c e rd tk g) (wd (zgP n me lo c e rd tk g) j9) n; rw [hwe]) c1145
              · have c1145 := z_eq (a := vt (zgP n me lo c e rd tk g) (nI wv) n) (b := mo (zgP n me lo c e rd tk g) n k) c1145 (by omega) (by omega)
                refine lv_aload_n hx hb dL_law_1148 rfl (lv_at hl 7 rfl) ?_
                refine z_mi (va_runV (As := []) (rest := []) hfix (zcX4_agrees_k l D cI H b n me lo c e ((rN n me lo c e (rd, tk, g) 1).1) ((rN n me lo c e (rd, tk, g) 1).2.1) (zgP n me lo c e rd tk g) hC hI) (cwV 0 hts gL_law_X4_agrees rfl rfl rfl (by decide +kernel) ⟨Nat.le_of_ble_eq_true rfl, Nat.le_of_ble_eq_true rfl⟩) (z_preV hK hK1 hC.1 (ci := 4) (q0 := 0) rfl rfl rfl) rfl rfl hl.1 rfl (lv_room (Nat.le_of_ble_eq_true rfl)) dL_law_1149 ⟨by show ck + 0 ≤ 830515; omega, by show sk + 0 ≤ 6609922; omega⟩) hS (fun q _ h => by simp only [zF] at h; show b ≤ q; omega) (fun q h => by simp only [zF] at h; show b ≤ q; omega) (fun H1 lo2 hB hz1 hk1 hS => ?_)
                have hz : H.size ≤ H1.size := by have h9 := hB.2; omega
                have hO3 := zOb_kept hO (fun q h1 h2 h3 => hk1 q h1 (by simp only [zF]; omega))
                have hQ4 := zQr_kept hQ (fun q h1 h2 h3 => hk1 q h1 (by simp only [zF]; omega))
                have hF5 := zFm_kept hsp hF (fun q h1 h2 h3 => hk1 q h1 (by simp only [zF]; omega))
                have hC6 : zCW D cI b n me lo c e ((rN n me lo c e (rd, tk, g) 1).1) ((rN n me lo c e (rd, tk, g) 1).2.1) (zgP n me lo c e rd tk g) H1 := hB.1
                have hW7 := zW2_kept hW (fun q h1 h2 h3 => hk1 q h1 (by simp only [zF]; omega))
                have hV8 := zW3_kept hV3 (fun q h1 h2 h3 => hk1 q h1 (by simp only [zF]; omega))
                have hT9 := zAr_kept hT (fun q h1 h2 h3 => hk1 q h1 (by simp only [zF]; omega))
                refine lv_if_ne (tgt := 1159) hx hb dL_law_1152 (by decide) (fun c1152 => ?_) (fun c1152 => ?_)
                · have hag := (ag_0 (n := n) (me := me) (lo := lo) (c := c) (e := e) (t := ((rN n me lo c e (rd, tk, g) 1).1, (rN n me lo c e (rd, tk, g) 1).2.1, (zgP n me lo c e rd tk g)))).trans (mo_all (g := (zgP n me lo c e rd tk g)) hn0).symm
                  refine lv_iconst (v := 0) hx hb dL_law_1159 (by decide) ?_
                  refine lv_iload hx hb dL_law_1160 (lv_at hl 1 rfl) ?_
                  refine lv_iload hx hb dL_law_1162 (lv_at hl 9 rfl) ?_
                  refine lv_icmp_ne (tgt := 1171) hx hb dL_law_1164 (by decide) (fun c1164 => ?_) (fun c1164 => ?_)
                  · have c1164 := z_ne (a := mo (zgP n me lo c e rd tk g) n k) (b := n) c1164 (by omega) (by omega)
                    refine lv_iconst (v := 0) hx hb dL_law_1171 (by decide) ?_
                    refine lv_icmp_eq (tgt := 1177) hx hb dL_law_1172 (by decide) (fun c1172 => ?_) (fun c1172 => ?_)
                    · have c1172 := z_eq (a := 0) (b := 0) c1172 (by omega) (by omega)
                      have hsz : H1.size = t := hB.2.trans hsz
                      exact kk n H1 lo2 _ hn0 ⟨ar, B, E, me, lo, c, e, ((rN n me lo c e (rd, tk, g) 1).1), ((rN n me lo c e (rd, tk, g) 1).2.1), (zgP n me lo c e rd tk g), by rw [hsz]; exact ⟨hO3, hQ4, hF5, hsp⟩, hC6, hI, hZ1, hV1, hN⟩ hS (lv_sub hl [5, 6, 7, 8] rfl)
                    · exact absurd (by decide) c1172
                  · have c1164 := z_eq (a := mo (zgP n me lo c e rd tk g) n k) (b := n) c1164 (by omega) (by omega)
                    exact absurd (hag.mpr (by rw [← hkn9] at c1164 ⊢; exact c1164)) c1152
                · have hag := (ag_0 (n := n) (me := me) (lo := lo) (c := c) (e := e) (t := ((rN n me lo c e (rd, tk, g) 1).1, (rN n me lo c e (rd, tk, g) 1).2.1, (zgP n me lo c e rd tk g)))).trans (mo_all (g := (zgP n me lo c e rd tk g)) hn0).symm
                  refine lv_iconst (v := 1) hx hb dL_law_1155 (by decide) ?_
                  refine lv_goto (tgt := 1160) hx hb dL_law_1156 (by decide) ?_
                  refine lv_iload hx hb dL_law_1160 (lv_at hl 1 rfl) ?_
                  refine lv_iload hx hb dL_law_1162 (lv_at hl 9 rfl) ?_
                  refine lv_icmp_ne (tgt := 1171) hx hb dL_law_1164 (by decide) (fun c1164 => ?_) (fun c1164 => ?_)
                  · have c1164 := z_ne (a := mo (zgP n me lo c e rd tk g) n k) (b := n) c1164 (by omega) (by omega)
                    exact absurd (by rw [hkn9]; exact hag.mp c1152) c1164
                  · have c1164 := z_eq (a := mo (zgP n me lo c e rd tk g) n k) (b := n) c1164 (by omega) (by omega)
                    refine lv_iconst (v := 1) hx hb dL_law_1167 (by decide) ?_
                    refine lv_goto (tgt := 1172) hx hb dL_law_1168 (by decide) ?_
                    refine lv_icmp_eq (tgt := 1177) hx hb dL_law_1172 (by decide) (fun c1172 => ?_) (fun c1172 => ?_)
                    · have c1172 := z_eq (a := 1) (b := 1) c1172 (by omega) (by omega)
                      have hsz : H1.size = t := hB.2.trans hsz
                      exact kk n H1 lo2 _ hn0 ⟨ar, B, E, me, lo, c, e, ((rN n me lo c e (rd, tk, g) 1).1), ((rN n me lo c e (rd, tk, g) 1).2.1), (zgP n me lo c e rd tk g), by rw [hsz]; exact ⟨hO3, hQ4, hF5, hsp⟩, hC6, hI, hZ1, hV1, hN⟩ hS (lv_sub hl [5, 6, 7, 8] rfl)
                    · exact absurd (by decide) c1172
      · have c391 := z_nle (a := n) (b := k) c391 (by omega) (by omega)
        have hk : k < n := by omega
        refine lv_aload hx hb dL_law_394 (lv_at hl 10 rfl) ?_
        refine lv_iload hx hb dL_law_396 (lv_at hl 0 rfl) ?_
        refine z_aald (a := qw) (n := n) (f := (zbf n (zR2 qw))) (j := k) hx hb hK4 hW.1 0 2 rfl rfl rfl rfl (by omega) (by omega) (zbf_in (by omega)) dL_law_398 ?_
        have hr10 : va_P D vwCl (zAr cI (zR2 qw k) 7 (F k)) H := hW.2 k (by omega)
        refine lv_bipush (v := 6) hx hb dL_law_399 (by decide) ?_
        refine z_iald (a := (zR2 qw k)) (n := 7) (f := (F k)) (j := 6) hx hb hK hr10 0 0 rfl rfl rfl (by omega) (by omega) dL_law_401 ?_
        have hF6 : F k 6 = zo (hd lo e k (c k)) := hFf k 6 (by omega) (by omega)
        rcases hhc : hd lo e k (c k) with _ | o9
        · refine z_toi (y := (-1)) (by rw [hF6, hhc]; rfl) ?_
          refine lv_istore (lv' := [(18, .int (-1)), (17, .int (nI k)), (16, .int (nI (mo (zgP n me lo c e rd tk g) n k))), (15, .int (su (zgP n me lo c e rd tk g) k)), (14, .int (nI (ct (zgP n me lo c e rd tk g) k))), (13, .int ((hA lo c e g (0, g) k).1)), (3, .int (nI tm)), (0, .ref b0), (1, .ref b), (2, .ref o), (5, .int (nI n)), (6, .ref qw), (7, .ref qh), (8, .ref qt), (10, .int rd), (12, .int ((rN n me lo c e (rd, tk, g) 1).2.1 - tk))]) hx hb dL_law_402 hl (by decide) rfl (fun ls hl => ?_)
          refine lv_iload hx hb dL_law_404 (lv_at hl 0 rfl) ?_
          refine lv_if_lt (tgt := 430) hx hb dL_law_406 (by decide) (fun c406 => ?_) (fun c406 => ?_)
          · refine lv_iconst (v := 0) hx hb dL_law_430 (by decide) ?_
            refine lv_istore (lv' := [(19, .int 0), (18, .int (-1)), (17, .int (nI k)), (16, .int (nI (mo (zgP n me lo c e rd tk g) n k))), (15, .int (su (zgP n me lo c e rd tk g) k)), (14, .int (nI (ct (zgP n me lo c e rd tk g) k))), (13, .int ((hA lo c e g (0, g) k).1)), (3, .int (nI tm)), (0, .ref b0), (1, .ref b), (2, .ref o), (5, .int (nI n)), (6, .ref qw), (7, .ref qh), (8, .ref qt), (10, .int rd), (12, .int ((rN n me lo c e (rd, tk, g) 1).2.1 - tk))]) hx hb dL_law_431 hl (by decide) rfl (fun ls hl => ?_)
            refine lv_iload hx hb dL_law_433 (lv_at hl 1 rfl) ?_
            refine lv_if_lt (tgt := 464) hx hb dL_law_435 (by decide) (fun c435 => ?_) (fun c435 => ?_)
            · refine lv_iconst (v := 0) hx hb dL_law_464 (by decide) ?_
              refine lv_istore (lv' := [(20, .int 0), (19, .int 0), (18, .int (-1)), (17, .int (nI k)), (16, .int (nI (mo (zgP n me lo c e rd tk g) n k))), (15, .int (su (zgP n me lo c e rd tk g) k)), (14, .int (nI (ct (zgP n me lo c e rd tk g) k))), (13, .int ((hA lo c e g (0, g) k).1)), (3, .int (nI tm)), (0, .ref b0), (1, .ref b), (2, .ref o), (5, .int (nI n)), (6, .ref qw), (7, .ref qh), (8, .ref qt), (10, .int rd), (12, .int ((rN n me lo c e (rd, tk, g) 1).2.1 - tk))]) hx hb dL_law_465 hl (by decide) rfl (fun ls hl => ?_)
              refine lv_iload hx hb dL_law_467 (lv_at hl 3 rfl) ?_
              refine lv_iconst (v := 2) hx hb dL_law_469 (by decide) ?_
              refine lv_irem hx hb dL_law_470 (by decide) ?_
              refine z_toi (y := zrem (nI k) 2) rfl ?_
              refine z_toi (y := nI (k % 2)) (zrem2 k (by omega)) ?_
              refine lv_istore (lv' := [(21, .int (nI (k % 2))), (20, .int 0), (19, .int 0), (18, .int (-1)), (17, .int (nI k)), (16, .int (nI (mo (zgP n me lo c e rd tk g) n k))), (15, .int (su (zgP n me lo c e rd tk g) k)), (14, .int (nI (ct (zgP n me lo c e rd tk g) k))), (13, .int ((hA lo c e g (0, g) k).1)), (3, .int (nI tm)), (0, .ref b0), (1, .ref b), (2, .ref o), (5, .int (nI n)), (6, .ref qw), (7, .ref qh), (8, .ref qt), (10, .int rd), (12, .int ((rN n me lo c e (rd, tk, g) 1).2.1 - tk))]) hx hb dL_law_471 hl (by decide) rfl (fun ls hl => ?_)
              refine lv_iload hx hb dL_law_473 (lv_at hl 8 rfl) ?_
              refine lv_iload hx hb dL_law_475 (lv_at hl 1 rfl) ?_
              refine lv_if_eq (tgt := 484) hx hb dL_law_477 (by decide) (fun c477 => ?_) (fun c477 => ?_)
              · have c477 := z_eq (a := 0) (b := 0) c477 (by omega) (by omega)
                refine lv_iconst (v := 0) hx hb dL_law_484 (by decide) ?_
                refine lv_iadd hx hb dL_law_485 ?_
                refine lv_istore (lv' := [(13, .int (((hA lo c e g (0, g) k).1) + 0)), (21, .int (nI (k % 2))), (20, .int 0), (19, .int 0), (18, .int (-1)), (17, .int (nI k)), (16, .int (nI (mo (zgP n me lo c e rd tk g) n k))), (15, .int (su (zgP n me lo c e rd tk g) k)), (14, .int (nI (ct (zgP n me lo c e rd tk g) k))), (3, .int (nI tm)), (0, .ref b0), (1, .ref b), (2, .ref o), (5, .int (nI n)), (6, .ref qw), (7, .ref qh), (8, .ref qt), (10, .int rd), (12, .int ((rN n me lo c e (rd, tk, g) 1).2.1 - tk))]) hx hb dL_law_486 hl (by decide) rfl (fun ls hl => ?_)
                refine lv_aload_n hx hb dL_law_488 rfl (lv_at hl 11 rfl) ?_
                refine lv_iload hx hb dL_law_489 (lv_at hl 5 rfl) ?_
                refine lv_iconst (v := 0) hx hb dL_law_491 (by decide) ?_
                refine z_ki (va_runV (As := [.int (nI k), .int 0]) (rest := []) hfix (zcX4_parrot_k l D cI H b n me lo c e ((rN n me lo c e (rd, tk, g) 1).1) ((rN n me lo c e (rd, tk, g) 1).2.1) (zgP n me lo c e rd tk g) k 0 hC hI (by omega) (by omega)) (cwV 2 hts gL_law_X4_parrot rfl rfl rfl (by decide +kernel) ⟨Nat.le_of_ble_eq_true rfl, Nat.le_of_ble_eq_true rfl⟩) (z_preV hK hK1 hC.1 (ci := 4) (q0 := 0) rfl rfl rfl) rfl rfl hl.1 rfl (lv_room (Nat.le_of_ble_eq_true rfl)) dL_law_492 ⟨by show ck + 0 ≤ 830515; omega, by show sk + 0 ≤ 6609922; omega⟩) ?_
                refine lv_aload hx hb dL_law_495 (lv_at hl 16 rfl) ?_
                refine lv_iload hx hb dL_law_497 (lv_at hl 5 rfl) ?_
                refine z_iald (a := qt) (n := n) (f := T) (j := k) hx hb hK hT 0 0 rfl rfl rfl (by omega) (by omega) dL_law_499 ?_
                refine lv_icmp_ne (tgt := 599) hx hb dL_law_500 (by decide) (fun c500 => ?_) (fun c500 => ?_)
                · exact absurd (hTf k (by omega)).symm c500
                · refine lv_aload_n hx hb dL_law_503 rfl (lv_at hl 11 rfl) ?_
                  refine lv_iload hx hb dL_law_504 (lv_at hl 5 rfl) ?_
                  refine lv_iload hx hb dL_law_506 (lv_at hl 1 rfl) ?_
                  refine lv_if_ne (tgt := 515) hx hb dL_law_508 (by decide) (fun c508 => ?_) (fun c508 => ?_)
                  · have c508 := z_ne (a := k % 2) (b := 0) c508 (by omega) (by omega)
                    refine lv_iconst (v := 0) hx hb dL_law_515 (by decide) ?_
                    refine lv_iconst (v := 0) hx hb dL_law_516 (by decide) ?_
                    refine z_ki (va_runV (As := [.int (nI k), .int 0, .int 0]) (rest := []) hfix (zcX4_half_k0 l D cI H b n me lo c e ((rN n me lo c e (rd, tk, g) 1).1) ((rN n me lo c e (rd, tk, g) 1).2.1) (zgP n me lo c e rd tk g) k 0 hC hI (by omega) (by omega)) (cwV 3 hts gL_law_X4_half rfl rfl rfl (by decide +kernel) ⟨Nat.le_of_ble_eq_true rfl, Nat.le_of_ble_eq_true rfl⟩) (z_preV hK hK1 hC.1 (ci := 4) (q0 := 0) rfl rfl rfl) rfl rfl hl.1 rfl (lv_room (Nat.le_of_ble_eq_true rfl)) dL_law_517 ⟨by show ck + 0 ≤ 830515; omega, by show sk + 0 ≤ 6609922; omega⟩) ?_
                    refine lv_aload hx hb dL_law_520 (lv_at hl 15 rfl) ?_
                    refine lv_iload hx hb dL_law_522 (lv_at hl 5 rfl) ?_
                    refine z_aald (a := qh) (n := n) (f := (zbf n (zR3 qh))) (j := k) hx hb hK4 hV3.1 0 3 rfl rfl rfl rfl (by omega) (by omega) (zbf_in (by omega)) dL_law_524 ?_
                    have hr11 : va_P D vwCl (zQr cA (zR3 qh k) 2 (zbf 2 (zR2 (zR3 qh k)))) H := (hV3.2 k (by omega)).1
                    refine lv_iconst (v := 1) hx hb dL_law_525 (by decide) ?_
                    refine lv_iload hx hb dL_law_526 (lv_at hl 1 rfl) ?_
                    refine lv_isub hx hb dL_law_528 ?_
                    refine z_toi (y := nI (1 - k % 2)) (pk_sub (a := 1) (by omega)) ?_
                    refine z_aald (a := (zR3 qh k)) (n := 2) (f := (zbf 2 (zR2 (zR3 qh k)))) (j := (1 - k % 2)) hx hb hK4 hr11 0 2 rfl rfl rfl rfl (by omega) (by omega) (zbf_in (by omega)) dL_law_529 ?_
                    have hr12 : va_P D vwCl (zAr cI (zR2 (zR3 qh k) (1 - k % 2)) 3 (G k (1 - k % 2))) H := (hV3.2 k (by omega)).2 (1 - k % 2) (by omega)
                    refine lv_iconst (v := 0) hx hb dL_law_530 (by decide) ?_
                    refine z_iald (a := (zR2 (zR3 qh k) (1 - k % 2))) (n := 3) (f := (G k (1 - k % 2))) (j := 0) hx hb hK hr12 0 0 rfl rfl rfl (by omega) (by omega) dL_law_531 ?_
                    refine lv_icmp_ne (tgt := 599) hx hb dL_law_532 (by decide) (fun c532 => ?_) (fun c532 => ?_)
                    · exact absurd (by rw [hGf k (1 - k % 2) 0 (by omega) (by omega) (by omega), show 1 - k % 2 = 0 by omega]; exact z1_oth hk (by omega) (by omega)) c532
                    · refine lv_aload_n hx hb dL_law_535 rfl (lv_at hl 11 rfl) ?_
                      refine lv_iload hx hb dL_law_536 (lv_at hl 5 rfl) ?_
                      refine lv_iload hx hb dL_law_538 (lv_at hl 1 rfl) ?_
                      refine lv_if_ne (tgt := 547) hx hb dL_law_540 (by decide) (fun c540 => ?_) (fun c540 => ?_)
                      · have c540 := z_ne (a := k % 2) (b := 0) c540 (by omega) (by omega)
                        refine lv_iconst (v := 0) hx hb dL_law_547 (by decide) ?_
                        refine lv_iconst (v := 1) hx hb dL_law_548 (by decide) ?_
                        refine z_ki (va_runV (As := [.int (nI k), .int 0, .int 1]) (rest := []) hfix (zcX4_half_k0 l D cI H b n me lo c e ((rN n me lo c e (rd, tk, g) 1).1) ((rN n me lo c e (rd, tk, g) 1).2.1) (zgP n me lo c e rd tk g) k 1 hC hI (by omega) (by omega)) (cwV 3 hts gL_law_X4_half rfl rfl rfl (by decide +kernel) ⟨Nat.le_of_ble_eq_true rfl, Nat.le_of_ble_eq_true rfl⟩) (z_preV hK hK1 hC.1 (ci := 4) (q0 := 0) rfl rfl rfl) rfl rfl hl.1 rfl (lv_room (Nat.le_of_ble_eq_true rfl)) dL_law_549 ⟨by show ck + 0 ≤ 830515; omega, by show sk + 0 ≤ 6609922; omega⟩) ?_
                        refine lv_aload hx hb dL_law_552 (lv_at hl 15 rfl) ?_
                        refine lv_iload hx hb dL_law_554 (lv_at hl 5 rfl) ?_
                        refine z_aald (a := qh) (n := n) (f := (zbf n (zR3 qh))) (j := k) hx hb hK4 hV3.1 0 3 rfl rfl rfl rfl (by omega) (by omega) (zbf_in (by omega)) dL_law_556 ?_
                        refine lv_iconst (v := 1) hx hb dL_law_557 (by decide) ?_
                        refine lv_iload hx hb dL_law_558 (lv_at hl 1 rfl) ?_
                        refine lv_isub hx hb dL_law_560 ?_
                        refine z_toi (y := nI (1 - k % 2)) (pk_sub (a := 1) (by omega)) ?_
                        refine z_aald (a := (zR3 qh k)) (n := 2) (f := (zbf 2 (zR2 (zR3 qh k)))) (j := (1 - k % 2)) hx hb hK4 hr11 0 2 rfl rfl rfl rfl (by omega) (by omega) (zbf_in (by omega)) dL_law_561 ?_
                        refine lv_iconst (v := 1) hx hb dL_law_562 (by decide) ?_
                        refine z_iald (a := (zR2 (zR3 qh k) (1 - k % 2))) (n := 3) (f := (G k (1 - k % 2))) (j := 1) hx hb hK hr12 0 0 rfl rfl rfl (by omega) (by omega) dL_law_563 ?_
                        refine lv_icmp_ne (tgt := 599) hx hb dL_law_564 (by decide) (fun c564 => ?_) (fun c564 => ?_)
                        · exact absurd (by rw [hGf k (1 - k % 2) 1 (by omega) (by omega) (by omega), show 1 - k % 2 = 0 by omega]; exact z1_oth hk (by omega) (by omega)) c564
                        · refine lv_aload_n hx hb dL_law_567 rfl (lv_at hl 11 rfl) ?_
                          refine lv_iload hx hb dL_law_568 (lv_at hl 5 rfl) ?_
                          refine lv_iload hx hb dL_law_570 (lv_at hl 1 rfl) ?_
                          refine lv_if_ne (tgt := 579) hx hb dL_law_572 (by decide) (fun c572 => ?_) (fun c572 => ?_)
                          · have c572 := z_ne (a := k % 2) (b := 0) c572 (by omega) (by omega)
                            refine lv_iconst (v := 0) hx hb dL_law_579 (by decide) ?_
                            refine lv_iconst (v := 2) hx hb dL_law_580 (by decide) ?_
                            refine z_ki (va_runV (As := [.int (nI k), .int 0, .int 2]) (rest := []) hfix (zcX4_half_k0 l D cI H b n me lo c e ((rN n me lo c e (rd, tk, g) 1).1) ((rN n me lo c e (rd, tk, g) 1).2.1) (zgP n me lo c e rd tk g) k 2 hC hI (by omega) (by omega)) (cwV 3 hts gL_law_X4_half rfl rfl rfl (by decide +kernel) ⟨Nat.le_of_ble_eq_true rfl, Nat.le_of_ble_eq_true rfl⟩) (z_preV hK hK1 hC.1 (ci := 4) (q0 := 0) rfl rfl rfl) rfl rfl hl.1 rfl (lv_room (Nat.le_of_ble_eq_true rfl)) dL_law_581 ⟨by show ck + 0 ≤ 830515; omega, by show sk + 0 ≤ 6609922; omega⟩) ?_
                            refine lv_aload hx hb dL_law_584 (lv_at hl 15 rfl) ?_
                            refine lv_iload hx hb dL_law_586 (lv_at hl 5 rfl) ?_
                            refine z_aald (a := qh) (n := n) (f := (zbf n (zR3 qh))) (j := k) hx hb hK4 hV3.1 0 3 rfl rfl rfl rfl (by omega) (by omega) (zbf_in (by omega)) dL_law_588 ?_
                            refine lv_iconst (v := 1) hx hb dL_law_589 (by decide) ?_
                            refine lv_iload hx hb dL_law_590 (lv_at hl 1 rfl) ?_
                            refine lv_isub hx hb dL_law_592 ?_
                            refine z_toi (y := nI (1 - k % 2)) (pk_sub (a := 1) (by omega)) ?_
                            refine z_aald (a := (zR3 qh k)) (n := 2) (f := (zbf 2 (zR2 (zR3 qh k)))) (j := (1 - k % 2)) hx hb hK4 hr11 0 2 rfl rfl rfl rfl (by omega) (by omega) (zbf_in (by omega)) dL_law_593 ?_
                            refine lv_iconst (v := 2) hx hb dL_law_594 (by decide) ?_
                            refine z_iald (a := (zR2 (zR3 qh k) (1 - k % 2))) (n := 3) (f := (G k (1 - k % 2))) (j := 2) hx hb hK hr12 0 0 rfl rfl rfl (by omega) (by omega) dL_law_595 ?_
                            refine lv_icmp_eq (tgt := 601) hx hb dL_law_596 (by decide) (fun c596 => ?_) (fun c596 => ?_)
                            · refine lv_iload hx hb dL_law_601 (lv_at hl 2 rfl) ?_
                              refine lv_if_eq (tgt := 701) hx hb dL_law_603 (by decide) (fun c603 => ?_) (fun c603 => ?_)
                              · have c603 := z_eq (a := 0) (b := 0) c603 (by omega) (by omega)
                                refine lv_aload_n hx hb dL_law_701 rfl (lv_at hl 11 rfl) ?_
                                refine lv_iload hx hb dL_law_702 (lv_at hl 5 rfl) ?_
                                refine lv_iload hx hb dL_law_704 (lv_at hl 1 rfl) ?_
                                refine lv_iconst (v := 1) hx hb dL_law_706 (by decide) ?_
                                refine lv_icmp_ne (tgt := 714) hx hb dL_law_707 (by decide) (fun c707 => ?_) (fun c707 => ?_)
                                · have c707 := z_ne (a := k % 2) (b := 1) c707 (by omega) (by omega)
                                  omega
                                · have c707 := z_eq (a := k % 2) (b := 1) c707 (by omega) (by omega)
                                  refine lv_iconst (v := 1) hx hb dL_law_710 (by decide) ?_
                                  refine lv_goto (tgt := 715) hx hb dL_law_711 (by decide) ?_
                                  refine lv_iconst (v := 0) hx hb dL_law_715 (by decide) ?_
                                  refine z_ki (va_runV (As := [.int (nI k), .int 1, .int 0]) (rest := []) hfix (zcX4_half_k1 l D cI H b n me lo c e ((rN n me lo c e (rd, tk, g) 1).1) ((rN n me lo c e (rd, tk, g) 1).2.1) (zgP n me lo c e rd tk g) k 0 hC hI (by omega) (by omega)) (cwV 3 hts gL_law_X4_half rfl rfl rfl (by decide +kernel) ⟨Nat.le_of_ble_eq_true rfl, Nat.le_of_ble_eq_true rfl⟩) (z_preV hK hK1 hC.1 (ci := 4) (q0 := 0) rfl rfl rfl) rfl rfl hl.1 rfl (lv_room (Nat.le_of_ble_eq_true rfl)) dL_law_716 ⟨by show ck + 0 ≤ 830515; omega, by show sk + 0 ≤ 6609922; omega⟩) ?_
                                  refine lv_aload hx hb dL_law_719 (lv_at hl 15 rfl) ?_
                                  refine lv_iload hx hb dL_law_721 (lv_at hl 5 rfl) ?_
                                  refine z_aald (a := qh) (n := n) (f := (zbf n (zR3 qh))) (j := k) hx hb hK4 hV3.1 0 3 rfl rfl rfl rfl (by omega) (by omega) (zbf_in (by omega)) dL_law_723 ?_
                                  refine lv_iload hx hb dL_law_724 (lv_at hl 1 rfl) ?_
                                  refine z_aald (a := (zR3 qh k)) (n := 2) (f := (zbf 2 (zR2 (zR3 qh k)))) (j := (k % 2)) hx hb hK4 hr11 0 2 rfl rfl rfl rfl (by omega) (by omega) (zbf_in (by omega)) dL_law_726 ?_
                                  have hr13 : va_P D vwCl (zAr cI (zR2 (zR3 qh k) (k % 2)) 3 (G k (k % 2))) H := (hV3.2 k (by omega)).2 (k % 2) (by omega)
                                  refine lv_iconst (v := 0) hx hb dL_law_727 (by decide) ?_
                                  refine z_iald (a := (zR2 (zR3 qh k) (k % 2))) (n := 3) (f := (G k (k % 2))) (j := 0) hx hb hK hr13 0 0 rfl rfl rfl (by omega) (by omega) dL_law_728 ?_
                                  refine lv_icmp_ne (tgt := 794) hx hb dL_law_729 (by decide) (fun c729 => ?_) (fun c729 => ?_)
                                  · exact absurd (by rw [hGf k (k % 2) 0 (by omega) (by omega) (by omega), show k % 2 = 1 by omega]; exact zkp_th (zkp_N hhc) hk (by omega) (by omega)) c729
                                  · refine lv_aload_n hx hb dL_law_732 rfl (lv_at hl 11 rfl) ?_
                                    refine lv_iload hx hb dL_law_733 (lv_at hl 5 rfl) ?_
                                    refine lv_iload hx hb dL_law_735 (lv_at hl 1 rfl) ?_
                                    refine lv_iconst (v := 1) hx hb dL_law_737 (by decide) ?_
                                    refine lv_icmp_ne (tgt := 745) hx hb dL_law_738 (by decide) (fun c738 => ?_) (fun c738 => ?_)
                                    · have c738 := z_ne (a := k % 2) (b := 1) c738 (by omega) (by omega)
                                      omega
                                    · have c738 := z_eq (a := k % 2) (b := 1) c738 (by omega) (by omega)
                                      refine lv_iconst (v := 1) hx hb dL_law_741 (by decide) ?_
                                      refine lv_goto (tgt := 746) hx hb dL_law_742 (by decide) ?_
                                      refine lv_iconst (v := 1) hx hb dL_law_746 (by decide) ?_
                                      refine z_ki (va_runV (As := [.int (nI k), .int 1, .int 1]) (rest := []) hfix (zcX4_half_k1 l D cI H b n me lo c e ((rN n me lo c e (rd, tk, g) 1).1) ((rN n me lo c e (rd, tk, g) 1).2.1) (zgP n me lo c e rd tk g) k 1 hC hI (by omega) (by omega)) (cwV 3 hts gL_law_X4_half rfl rfl rfl (by decide +kernel) ⟨Nat.le_of_ble_eq_true rfl, Nat.le_of_ble_eq_true rfl⟩) (z_preV hK hK1 hC.1 (ci := 4) (q0 := 0) rfl rfl rfl) rfl rfl hl.1 rfl (lv_room (Nat.le_of_ble_eq_true rfl)) dL_law_747 ⟨by show ck + 0 ≤ 830515; omega, by show sk + 0 ≤ 6609922; omega⟩) ?_
                                      refine lv_aload hx hb dL_law_750 (lv_at hl 15 rfl) ?_
                                      refine lv_iload hx hb dL_law_752 (lv_at hl 5 rfl) ?_
                                      refine z_aald (a := qh) (n := n) (f := (zbf n (zR3 qh))) (j := k) hx hb hK4 hV3.1 0 3 rfl rfl rfl rfl (by omega) (by omega) (zbf_in (by omega)) dL_law_754 ?_
                                      refine lv_iload hx hb dL_law_755 (lv_at hl 1 rfl) ?_
                                      refine z_aald (a := (zR3 qh k)) (n := 2) (f := (zbf 2 (zR2 (zR3 qh k)))) (j := (k % 2)) hx hb hK4 hr11 0 2 rfl rfl rfl rfl (by omega) (by omega) (zbf_in (by omega)) dL_law_757 ?_
                                      refine lv_iconst (v := 1) hx hb dL_law_758 (by decide) ?_
                                      refine z_iald (a := (zR2 (zR3 qh k) (k % 2))) (n := 3) (f := (G k (k % 2))) (j := 1) hx hb hK hr13 0 0 rfl rfl rfl (by omega) (by omega) dL_law_759 ?_
                                      refine lv_icmp_ne (tgt := 794) hx hb dL_law_760 (by decide) (fun c760 => ?_) (fun c760 => ?_)
                                      · exact absurd (by rw [hGf k (k % 2) 1 (by omega) (by omega) (by omega), show k % 2 = 1 by omega]; exact zkp_th (zkp_N hhc) hk (by omega) (by omega)) c760
                                      · refine lv_aload_n hx hb dL_law_763 rfl (lv_at hl 11 rfl) ?_
                                        refine lv_iload hx hb dL_law_764 (lv_at hl 5 rfl) ?_
                                        refine lv_iload hx hb dL_law_766 (lv_at hl 1 rfl) ?_
                                        refine lv_iconst (v := 1) hx hb dL_law_768 (by decide) ?_
                                        refine lv_icmp_ne (tgt := 776) hx hb dL_law_769 (by decide) (fun c769 => ?_) (fun c769 => ?_)
                                        · have c769 := z_ne (a := k % 2) (b := 1) c769 (by omega) (by omega)
                                          omega
                                        · have c769 := z_eq (a := k % 2) (b := 1) c769 (by omega) (by omega)
                                          refine lv_iconst (v := 1) hx hb dL_law_772 (by decide) ?_
                                          refine lv_goto (tgt := 777) hx hb dL_law_773 (by decide) ?_
                                          refine lv_iconst (v := 2) hx hb dL_law_777 (by decide) ?_
                                          refine z_ki (va_runV (As := [.int (nI k), .int 1, .int 2]) (rest := []) hfix (zcX4_half_k1 l D cI H b n me lo c e ((rN n me lo c e (rd, tk, g) 1).1) ((rN n me lo c e (rd, tk, g) 1).2.1) (zgP n me lo c e rd tk g) k 2 hC hI (by omega) (by omega)) (cwV 3 hts gL_law_X4_half rfl rfl rfl (by decide +kernel) ⟨Nat.le_of_ble_eq_true rfl, Nat.le_of_ble_eq_true rfl⟩) (z_preV hK hK1 hC.1 (ci := 4) (q0 := 0) rfl rfl rfl) rfl rfl hl.1 rfl (lv_room (Nat.le_of_ble_eq_true rfl)) dL_law_778 ⟨by show ck + 0 ≤ 830515; omega, by show sk + 0 ≤ 6609922; omega⟩) ?_
                                          refine lv_aload hx hb dL_law_781 (lv_at hl 15 rfl) ?_
                                          refine lv_iload hx hb dL_law_783 (lv_at hl 5 rfl) ?_
                                          refine z_aald (a := qh) (n := n) (f := (zbf n (zR3 qh))) (j := k) hx hb hK4 hV3.1 0 3 rfl rfl rfl rfl (by omega) (by omega) (zbf_in (by omega)) dL_law_785 ?_
                                          refine lv_iload hx hb dL_law_786 (lv_at hl 1 rfl) ?_
                                          refine z_aald (a := (zR3 qh k)) (n := 2) (f := (zbf 2 (zR2 (zR3 qh k)))) (j := (k % 2)) hx hb hK4 hr11 0 2 rfl rfl rfl rfl (by omega) (by omega) (zbf_in (by omega)) dL_law_788 ?_
                                          refine lv_iconst (v := 2) hx hb dL_law_789 (by decide) ?_
                                          refine z_iald (a := (zR2 (zR3 qh k) (k % 2))) (n := 3) (f := (G k (k % 2))) (j := 2) hx hb hK hr13 0 0 rfl rfl rfl (by omega) (by omega) dL_law_790 ?_
                                          refine lv_icmp_eq (tgt := 796) hx hb dL_law_791 (by decide) (fun c791 => ?_) (fun c791 => ?_)
                                          · refine lv_iload hx hb dL_law_796 (lv_at hl 4 rfl) ?_
                                            refine lv_if_ge (tgt := 811) hx hb dL_law_798 (by decide) (fun c798 => ?_) (fun c798 => ?_)
                                            · exact absurd c798 (by decide)
                                            · refine lv_aload hx hb dL_law_801 (lv_at hl 14 rfl) ?_
                                              refine lv_iload hx hb dL_law_803 (lv_at hl 5 rfl) ?_
                                              refine z_aald (a := qw) (n := n) (f := (zbf n (zR2 qw))) (j := k) hx hb hK4 hW.1 0 2 rfl rfl rfl rfl (by omega) (by omega) (zbf_in (by omega)) dL_law_805 ?_
                                              refine lv_iconst (v := 1) hx hb dL_law_806 (by decide) ?_
                                              refine z_iald (a := (zR2 qw k)) (n := 7) (f := (F k)) (j := 1) hx hb hK hr10 0 0 rfl rfl rfl (by omega) (by omega) dL_law_807 ?_
                                              refine z_toi (y := (g 6 k)) (hFf k 1 (by omega) (by omega)) ?_
                                              refine lv_goto (tgt := 851) hx hb dL_law_808 (by decide) ?_
                                              refine lv_istore (lv' := [(22, .int (g 6 k)), (13, .int (((hA lo c e g (0, g) k).1) + 0)), (21, .int (nI (k % 2))), (20, .int 0), (19, .int 0), (18, .int (-1)), (17, .int (nI k)), (16, .int (nI (mo (zgP n me lo c e rd tk g) n k))), (15, .int (su (zgP n me lo c e rd tk g) k)), (14, .int (nI (ct (zgP n me lo c e rd tk g) k))), (3, .int (nI tm)), (0, .ref b0), (1, .ref b), (2, .ref o), (5, .int (nI n)), (6, .ref qw), (7, .ref qh), (8, .ref qt), (10, .int rd), (12, .int ((rN n me lo c e (rd, tk, g) 1).2.1 - tk))]) hx hb dL_law_851 hl (by decide) rfl (fun ls hl => ?_)
                                              refine lv_iload hx hb dL_law_853 (lv_at hl 18 rfl) ?_
                                              refine lv_aload hx hb dL_law_855 (lv_at hl 15 rfl) ?_
                                              refine lv_iload hx hb dL_law_857 (lv_at hl 6 rfl) ?_
                                              refine z_aald (a := qw) (n := n) (f := (zbf n (zR2 qw))) (j := k) hx hb hK4 hW.1 0 2 rfl rfl rfl rfl (by omega) (by omega) (zbf_in (by omega)) dL_law_859 ?_
                                              refine lv_iconst (v := 2) hx hb dL_law_860 (by decide) ?_
                                              refine z_iald (a := (zR2 qw k)) (n := 7) (f := (F k)) (j := 2) hx hb hK hr10 0 0 rfl rfl rfl (by omega) (by omega) dL_law_861 ?_
                                              refine z_toi (y := (me k)) (hFf k 2 (by omega) (by omega)) ?_
                                              refine lv_iconst (v := 1) hx hb dL_law_862 (by decide) ?_
                                              refine lv_iadd hx hb dL_law_863 ?_
                                              refine lv_irem hx hb dL_law_864 (zI_span0 hI hk) ?_
                                              refine z_toi (y := zrem rd ((me k) + 1)) rfl ?_
                                              refine lv_if_ne (tgt := 878) hx hb dL_law_865 (by decide) (fun c865 => ?_) (fun c865 => ?_)
                                              · have hl : lv_has ls 25 [(22, .int (g 6 k)), (13, .int (((hA lo c e g (0, g) k).1) + 0)), (21, .int (nI (k % 2))), (20, .int 0), (19, .int 0), (18, .int (zo (hd lo e k (c k)))), (17, .int (nI k)), (16, .int (nI (mo (zgP n me lo c e rd tk g) n k))), (15, .int (su (zgP n me lo c e rd tk g) k)), (14, .int (nI (ct (zgP n me lo c e rd tk g) k))), (3, .int (nI tm)), (0, .ref b0), (1, .ref b), (2, .ref o), (5, .int (nI n)), (6, .ref qw), (7, .ref qh), (8, .ref qt), (10, .int rd), (12, .int ((rN n me lo c e (rd, tk, g) 1).2.1 - tk))] := by rw [hhc]; exact hl
                                                have hl : lv_has ls 25 [(3, .int (nI tm)), (0, .ref b0), (1, .ref b), (2, .ref o), (5, .int (nI n)), (6, .ref qw), (7, .ref qh), (8, .ref qt), (10, .int rd), (12, .int ((rN n me lo c e (rd, tk, g) 1).2.1 - tk)), (13, .int (((hA lo c e g (0, g) k).1) + 0)), (14, .int (nI (ct (zgP n me lo c e rd tk g) k))), (15, .int (su (zgP n me lo c e rd tk g) k)), (16, .int (nI (mo (zgP n me lo c e rd tk g) n k))), (17, .int (nI k)), (18, .int (zo (hd lo e k (c k)))), (22, .int (g 6 k))] := lv_sub hl [10, 11, 12, 13, 14, 15, 16, 17, 18, 19, 1, 9, 8, 7, 6, 5, 0] rfl
                                                refine zlaw_T hfix hK4 hKw hX hb0 hb9 hbs hL hov2 hov3 ck sk hck hsk tm htm n me lo c e rd tk g k (((hA lo c e g (0, g) k).1) + 0) (g 6 k) qw qh qt F hI hZ hV hN hn0 hZ1 hV1 hk hFf (zsv_n hk (zkp_N hhc).2.1 c865) H lo0 hS hC hW (fun ls hl => ?_) _ hl
                                                refine lv_iinc (v := (nI (k + 1))) (lv' := [(17, .int (nI (k + 1))), (3, .int (nI tm)), (0, .ref b0), (1, .ref b), (2, .ref o), (5, .int (nI n)), (6, .ref qw), (7, .ref qh), (8, .ref qt), (10, .int rd), (12, .int ((rN n me lo c e (rd, tk, g) 1).2.1 - tk)), (13, .int (((hA lo c e g (0, g) k).1) + 0)), (14, .int (nI (ct (zgP n me lo c e rd tk g) (k + 1)))), (15, .int (su (zgP n me lo c e rd tk g) (k + 1))), (16, .int (nI (mo (zgP n me lo c e rd tk g) n (k + 1))))]) hx hb dL_law_1102 hl (k := 14) rfl (nI_1 _) (by decide) rfl (fun ls hl => ?_)
                                                refine lv_goto (tgt := 387) hx hb dL_law_1105 (by decide) ?_
                                                exact ih (k + 1) (by omega) (by omega) _ (rfl) _ (rfl) _ (rfl) _ (rfl) _ (hA_kp (zkp_N hhc)) _ (lv_sub hl [0, 14, 13, 12, 11, 1, 2, 3, 4, 5, 6, 7, 8, 9, 10] rfl)
                                              · refine lv_iconst (v := 0) hx hb dL_law_868 (by decide) ?_
                                                refine lv_iload hx hb dL_law_869 (lv_at hl 0 rfl) ?_
                                                refine lv_iconst (v := 1) hx hb dL_law_871 (by decide) ?_
                                                refine lv_isub hx hb dL_law_872 ?_
                                                refine va_mmax hx hb (by rw [hml]; exact hl.1.symm) hown hwd9 hwd10 hwd7 (hwd11) (Nat.le_of_ble_eq_true rfl) (Nat.le_of_ble_eq_true rfl) (hck) (hsk) dL_law_873 ?_
                                                refine z_toi (y := zmax 0 ((g 6 k) - 1)) rfl ?_
                                                refine lv_istore (lv' := [(22, .int (zmax 0 ((g 6 k) - 1))), (13, .int (((hA lo c e g (0, g) k).1) + 0)), (21, .int (nI (k % 2))), (20, .int 0), (19, .int 0), (18, .int (-1)), (17, .int (nI k)), (16, .int (nI (mo (zgP n me lo c e rd tk g) n k))), (15, .int (su (zgP n me lo c e rd tk g) k)), (14, .int (nI (ct (zgP n me lo c e rd tk g) k))), (3, .int (nI tm)), (0, .ref b0), (1, .ref b), (2, .ref o), (5, .int (nI n)), (6, .ref qw), (7, .ref qh), (8, .ref qt), (10, .int rd), (12, .int ((rN n me lo c e (rd, tk, g) 1).2.1 - tk))]) hx hb dL_law_876 hl (by decide) rfl (fun ls hl => ?_)
                                                have hl : lv_has ls 25 [(22, .int (zmax 0 ((g 6 k) - 1))), (13, .int (((hA lo c e g (0, g) k).1) + 0)), (21, .int (nI (k % 2))), (20, .int 0), (19, .int 0), (18, .int (zo (hd lo e k (c k)))), (17, .int (nI k)), (16, .int (nI (mo (zgP n me lo c e rd tk g) n k))), (15, .int (su (zgP n me lo c e rd tk g) k)), (14, .int (nI (ct (zgP n me lo c e rd tk g) k))), (3, .int (nI tm)), (0, .ref b0), (1, .ref b), (2, .ref o), (5, .int (nI n)), (6, .ref qw), (7, .ref qh), (8, .ref qt), (10, .int rd), (12, .int ((rN n me lo c e (rd, tk, g) 1).2.1 - tk))] := by rw [hhc]; exact hl
                                                have hl : lv_has ls 25 [(3, .int (nI tm)), (0, .ref b0), (1, .ref b), (2, .ref o), (5, .int (nI n)), (6, .ref qw), (7, .ref qh), (8, .ref qt), (10, .int rd), (12, .int ((rN n me lo c e (rd, tk, g) 1).2.1 - tk)), (13, .int (((hA lo c e g (0, g) k).1) + 0)), (14, .int (nI (ct (zgP n me lo c e rd tk g) k))), (15, .int (su (zgP n me lo c e rd tk g) k)), (16, .int (nI (mo (zgP n me lo c e rd tk g) n k))), (17, .int (nI k)), (18, .int (zo (hd lo e k (c k)))), (22, .int (zmax 0 ((g 6 k) - 1)))] := lv_sub hl [10, 11, 12, 13, 14, 15, 16, 17, 18, 19, 1, 9, 8, 7, 6, 5, 0] rfl
                                                refine zlaw_T hfix hK4 hKw hX hb0 hb9 hbs hL hov2 hov3 ck sk hck hsk tm htm n me lo c e rd tk g k (((hA lo c e g (0, g) k).1) + 0) (zmax 0 ((g 6 k) - 1)) qw qh qt F hI hZ hV hN hn0 hZ1 hV1 hk hFf (zsv_y hk (zkp_N hhc).2.1 c865) H lo0 hS hC hW (fun ls hl => ?_) _ hl
                                                refine lv_iinc (v := (nI (k + 1))) (lv' := [(17, .int (nI (k + 1))), (3, .int (nI tm)), (0, .ref b0), (1, .ref b), (2, .ref o), (5, .int (nI n)), (6, .ref qw), (7, .ref qh), (8, .ref qt), (10, .int rd), (12, .int ((rN n me lo c e (rd, tk, g) 1).2.1 - tk)), (13, .int (((hA lo c e g (0, g) k).1) + 0)), (14, .int (nI (ct (zgP n me lo c e rd tk g) (k + 1)))), (15, .int (su (zgP n me lo c e rd tk g) (k + 1))), (16, .int (nI (mo (zgP n me lo c e rd tk g) n (k + 1))))]) hx hb dL_law_1102 hl (k := 14) rfl (nI_1 _) (by decide) rfl (fun ls hl => ?_)
                                                refine lv_goto (tgt := 387) hx hb dL_law_1105 (by decide) ?_
                                                exact ih (k + 1) (by omega) (by omega) _ (rfl) _ (rfl) _ (rfl) _ (rfl) _ (hA_kp (zkp_N hhc)) _ (lv_sub hl [0, 14, 13, 12, 11, 1, 2, 3, 4, 5, 6, 7, 8, 9, 10] rfl)
                                          · exact absurd (by rw [hGf k (k % 2) 2 (by omega) (by omega) (by omega), show k % 2 = 1 by omega]; exact zkp_th (zkp_N hhc) hk (by omega) (by omega)) c791
                              · exact absurd (by decide) c603
                            · exact absurd (by rw [hGf k (1 - k % 2) 2 (by omega) (by omega) (by omega), show 1 - k % 2 = 0 by omega]; exact z1_oth hk (by omega) (by omega)) c596
                          · have c572 := z_eq (a := k % 2) (b := 0) c572 (by omega) (by omega)
                            exact absurd c572 c508
                      · have c540 := z_eq (a := k % 2) (b := 0) c540 (by omega) (by omega)
                        exact absurd c540 c508
                  · have c508 := z_eq (a := k % 2) (b := 0) c508 (by omega) (by omega)
                    refine lv_iconst (v := 1) hx hb dL_law_511 (by decide) ?_
                    refine lv_goto (tgt := 516) hx hb dL_law_512 (by decide) ?_
                    refine lv_iconst (v := 0) hx hb dL_law_516 (by decide) ?_
                    refine z_ki (va_runV (As := [.int (nI k), .int 1, .int 0]) (rest := []) hfix (zcX4_half_k1 l D cI H b n me lo c e ((rN n me lo c e (rd, tk, g) 1).1) ((rN n me lo c e (rd, tk, g) 1).2.1) (zgP n me lo c e rd tk g) k 0 hC hI (by omega) (by omega)) (cwV 3 hts gL_law_X4_half rfl rfl rfl (by decide +kernel) ⟨Nat.le_of_ble_eq_true rfl, Nat.le_of_ble_eq_true rfl⟩) (z_preV hK hK1 hC.1 (ci := 4) (q0 := 0) rfl rfl rfl) rfl rfl hl.1 rfl (lv_room (Nat.le_of_ble_eq_true rfl)) dL_law_517 ⟨by show ck + 0 ≤ 830515; omega, by show sk + 0 ≤ 6609922; omega⟩) ?_
                    refine lv_aload hx hb dL_law_520 (lv_at hl 15 rfl) ?_
                    refine lv_iload hx hb dL_law_522 (lv_at hl 5 rfl) ?_
                    refine z_aald (a := qh) (n := n) (f := (zbf n (zR3 qh))) (j := k) hx hb hK4 hV3.1 0 3 rfl rfl rfl rfl (by omega) (by omega) (zbf_in (by omega)) dL_law_524 ?_
                    have hr14 : va_P D vwCl (zQr cA (zR3 qh k) 2 (zbf 2 (zR2 (zR3 qh k)))) H := (hV3.2 k (by omega)).1
                    refine lv_iconst (v := 1) hx hb dL_law_525 (by decide) ?_
                    refine lv_iload hx hb dL_law_526 (lv_at hl 1 rfl) ?_
                    refine lv_isub hx hb dL_law_528 ?_
                    refine z_toi (y := nI (1 - k % 2)) (pk_sub (a := 1) (by omega)) ?_
                    refine z_aald (a := (zR3 qh k)) (n := 2) (f := (zbf 2 (zR2 (zR3 qh k)))) (j := (1 - k % 2)) hx hb hK4 hr14 0 2 rfl rfl rfl rfl (by omega) (by omega) (zbf_in (by omega)) dL_law_529 ?_
                    have hr15 : va_P D vwCl (zAr cI (zR2 (zR3 qh k) (1 - k % 2)) 3 (G k (1 - k % 2))) H := (hV3.2 k (by omega)).2 (1 - k % 2) (by omega)
                    refine lv_iconst (v := 0) hx hb dL_law_530 (by decide) ?_
                    refine z_iald (a := (zR2 (zR3 qh k) (1 - k % 2))) (n := 3) (f := (G k (1 - k % 2))) (j := 0) hx hb hK hr15 0 0 rfl rfl rfl (by omega) (by omega) dL_law_531 ?_
                    refine lv_icmp_ne (tgt := 599) hx hb dL_law_532 (by decide) (fun c532 => ?_) (fun c532 => ?_)
                    · exact absurd (by rw [hGf k (1 - k % 2) 0 (by omega) (by omega) (by omega), show 1 - k % 2 = 1 by omega]; exact z1_oth hk (by omega) (by omega)) c532
                    · refine lv_aload_n hx hb dL_law_535 rfl (lv_at hl 11 rfl) ?_
                      refine lv_iload hx hb dL_law_536 (lv_at hl 5 rfl) ?_
                      refine lv_iload hx hb dL_law_538 (lv_at hl 1 rfl) ?_
                      refine lv_if_ne (tgt := 547) hx hb dL_law_540 (by decide) (fun c540 => ?_) (fun c540 => ?_)
                      · have c540 := z_ne (a := k % 2) (b := 0) c540 (by omega) (by omega)
                        exact absurd c508 c540
                      · have c540 := z_eq (a := k % 2) (b := 0) c540 (by omega) (by omega)
                        refine lv_iconst (v := 1) hx hb dL_law_543 (by decide) ?_
                        refine lv_goto (tgt := 548) hx hb dL_law_544 (by decide) ?_
                        refine lv_iconst (v := 1) hx hb dL_law_548 (by decide) ?_
                        refine z_ki (va_runV (As := [.int (nI k), .int 1, .int 1]) (rest := []) hfix (zcX4_half_k1 l D cI H b n me lo c e ((rN n me lo c e (rd, tk, g) 1).1) ((rN n me lo c e (rd, tk, g) 1).2.1) (zgP n me lo c e rd tk g) k 1 hC hI (by omega) (by omega)) (cwV 3 hts gL_law_X4_half rfl rfl rfl (by decide +kernel) ⟨Nat.le_of_ble_eq_true rfl, Nat.le_of_ble_eq_true rfl⟩) (z_preV hK hK1 hC.1 (ci := 4) (q0 := 0) rfl rfl rfl) rfl rfl hl.1 rfl (lv_room (Nat.le_of_ble_eq_true rfl)) dL_law_549 ⟨by show ck + 0 ≤ 830515; omega, by show sk + 0 ≤ 6609922; omega⟩) ?_
                        refine lv_aload hx hb dL_law_552 (lv_at hl 15 rfl) ?_
                        refine lv_iload hx hb dL_law_554 (lv_at hl 5 rfl) ?_
                        refine z_aald (a := qh) (n := n) (f := (zbf n (zR3 qh))) (j := k) hx hb hK4 hV3.1 0 3 rfl rfl rfl rfl (by omega) (by omega) (zbf_in (by omega)) dL_law_556 ?_
                        refine lv_iconst (v := 1) hx hb dL_law_557 (by decide) ?_
                        refine lv_iload hx hb dL_law_558 (lv_at hl 1 rfl) ?_
                        refine lv_isub hx hb dL_law_560 ?_
                        refine z_toi (y := nI (1 - k % 2)) (pk_sub (a := 1) (by omega)) ?_
                        refine z_aald (a := (zR3 qh k)) (n := 2) (f := (zbf 2 (zR2 (zR3 qh k)))) (j := (1 - k % 2)) hx hb hK4 hr14 0 2 rfl rfl rfl rfl (by omega) (by omega) (zbf_in (by omega)) dL_law_561 ?_
                        refine lv_iconst (v := 1) hx hb dL_law_562 (by decide) ?_
                        refine z_iald (a := (zR2 (zR3 qh k) (1 - k % 2))) (n := 3) (f := (G k (1 - k % 2))) (j := 1) hx hb hK hr15 0 0 rfl rfl rfl (by omega) (by omega) dL_law_563 ?_
                        refine lv_icmp_ne (tgt := 599) hx hb dL_law_564 (by decide) (fun c564 => ?_) (fun c564 => ?_)
                        · exact absurd (by rw [hGf k (1 - k % 2) 1 (by omega) (by omega) (by omega), show 1 - k % 2 = 1 by omega]; exact z1_oth hk (by omega) (by omega)) c564
                        · refine lv_aload_n hx hb dL_law_567 rfl (lv_at hl 11 rfl) ?_
                          refine lv_iload hx hb dL_law_568 (lv_at hl 5 rfl) ?_
                          refine lv_iload hx hb dL_law_570 (lv_at hl 1 rfl) ?_
                          refine lv_if_ne (tgt := 579) hx hb dL_law_572 (by decide) (fun c572 => ?_) (fun c572 => ?_)
                          · have c572 := z_ne (a := k % 2) (b := 0) c572 (by omega) (by omega)
                            exact absurd c508 c572
                          · have c572 := z_eq (a := k % 2) (b := 0) c572 (by omega) (by omega)
                            refine lv_iconst (v := 1) hx hb dL_law_575 (by decide) ?_
                            refine lv_goto (tgt := 580) hx hb dL_law_576 (by decide) ?_
                            refine lv_iconst (v := 2) hx hb dL_law_580 (by decide) ?_
                            refine z_ki (va_runV (As := [.int (nI k), .int 1, .int 2]) (rest := []) hfix (zcX4_half_k1 l D cI H b n me lo c e ((rN n me lo c e (rd, tk, g) 1).1) ((rN n me lo c e (rd, tk, g) 1).2.1) (zgP n me lo c e rd tk g) k 2 hC hI (by omega) (by omega)) (cwV 3 hts gL_law_X4_half rfl rfl rfl (by decide +kernel) ⟨Nat.le_of_ble_eq_true rfl, Nat.le_of_ble_eq_true rfl⟩) (z_preV hK hK1 hC.1 (ci := 4) (q0 := 0) rfl rfl rfl) rfl rfl hl.1 rfl (lv_room (Nat.le_of_ble_eq_true rfl)) dL_law_581 ⟨by show ck + 0 ≤ 830515; omega, by show sk + 0 ≤ 6609922; omega⟩) ?_
                            refine lv_aload hx hb dL_law_584 (lv_at hl 15 rfl) ?_
                            refine lv_iload hx hb dL_law_586 (lv_at hl 5 rfl) ?_
                            refine z_aald (a := qh) (n := n) (f := (zbf n (zR3 qh))) (j := k) hx hb hK4 hV3.1 0 3 rfl rfl rfl rfl (by omega) (by omega) (zbf_in (by omega)) dL_law_588 ?_
                            refine lv_iconst (v := 1) hx hb dL_law_589 (by decide) ?_
                            refine lv_iload hx hb dL_law_590 (lv_at hl 1 rfl) ?_
                            refine lv_isub hx hb dL_law_592 ?_
                            refine z_toi (y := nI (1 - k % 2)) (pk_sub (a := 1) (by omega)) ?_
                            refine z_aald (a := (zR3 qh k)) (n := 2) (f := (zbf 2 (zR2 (zR3 qh k)))) (j := (1 - k % 2)) hx hb hK4 hr14 0 2 rfl rfl rfl rfl (by omega) (by omega) (zbf_in (by omega)) dL_law_593 ?_
                            refine lv_iconst (v := 2) hx hb dL_law_594 (by decide) ?_
                            refine z_iald (a := (zR2 (zR3 qh k) (1 - k % 2))) (n := 3) (f := (G k (1 - k % 2))) (j := 2) hx hb hK hr15 0 0 rfl rfl rfl (by omega) (by omega) dL_law_595 ?_
                            refine lv_icmp_eq (tgt := 601) hx hb dL_law_596 (by decide) (fun c596 => ?_) (fun c596 => ?_)
                            · refine lv_iload hx hb dL_law_601 (lv_at hl 2 rfl) ?_
                              refine lv_if_eq (tgt := 701) hx hb dL_law_603 (by decide) (fun c603 => ?_) (fun c603 => ?_)
                              · have c603 := z_eq (a := 0) (b := 0) c603 (by omega) (by omega)
                                refine lv_aload_n hx hb dL_law_701 rfl (lv_at hl 11 rfl) ?_
                                refine lv_iload hx hb dL_law_702 (lv_at hl 5 rfl) ?_
                                refine lv_iload hx hb dL_law_704 (lv_at hl 1 rfl) ?_
                                refine lv_iconst (v := 1) hx hb dL_law_706 (by decide) ?_
                                refine lv_icmp_ne (tgt := 714) hx hb dL_law_707 (by decide) (fun c707 => ?_) (fun c707 => ?_)
                                · have c707 := z_ne (a := k % 2) (b := 1) c707 (by omega) (by omega)
                                  refine lv_iconst (v := 0) hx hb dL_law_714 (by decide) ?_
                                  refine lv_iconst (v := 0) hx hb dL_law_715 (by decide) ?_
                                  refine z_ki (va_runV (As := [.int (nI k), .int 0, .int 0]) (rest := []) hfix (zcX4_half_k0 l D cI H b n me lo c e ((rN n me lo c e (rd, tk, g) 1).1) ((rN n me lo c e (rd, tk, g) 1).2.1) (zgP n me lo c e rd tk g) k 0 hC hI (by omega) (by omega)) (cwV 3 hts gL_law_X4_half rfl rfl rfl (by decide +kernel) ⟨Nat.le_of_ble_eq_true rfl, Nat.le_of_ble_eq_true rfl⟩) (z_preV hK hK1 hC.1 (ci := 4) (q0 := 0) rfl rfl rfl) rfl rfl hl.1 rfl (lv_room (Nat.le_of_ble_eq_true rfl)) dL_law_716 ⟨by show ck + 0 ≤ 830515; omega, by show sk + 0 ≤ 6609922; omega⟩) ?_
                                  refine lv_aload hx hb dL_law_719 (lv_at hl 15 rfl) ?_
                                  refine lv_iload hx hb dL_law_721 (lv_at hl 5 rfl) ?_
                                  refine z_aald (a := qh) (n := n) (f := (zbf n (zR3 qh))) (j := k) hx hb hK4 hV3.1 0 3 rfl rfl rfl rfl (by omega) (by omega) (zbf_in (by omega)) dL_law_723 ?_
                                  refine lv_iload hx hb dL_law_724 (lv_at hl 1 rfl) ?_
                                  refine z_aald (a := (zR3 qh k)) (n := 2) (f := (zbf 2 (zR2 (zR3 qh k)))) (j := (k % 2)) hx hb hK4 hr14 0 2 rfl rfl rfl rfl (by omega) (by omega) (zbf_in (by omega)) dL_law_726 ?_
                                  have hr16 : va_P D vwCl (zAr cI (zR2 (zR3 qh k) (k % 2)) 3 (G k (k % 2))) H := (hV3.2 k (by omega)).2 (k % 2) (by omega)
                                  refine lv_iconst (v := 0) hx hb dL_law_727 (by decide) ?_
                                  refine z_iald (a := (zR2 (zR3 qh k) (k % 2))) (n := 3) (f := (G k (k % 2))) (j := 0) hx hb hK hr16 0 0 rfl rfl rfl (by omega) (by omega) dL_law_728 ?_
                                  refine lv_icmp_ne (tgt := 794) hx hb dL_law_729 (by decide) (fun c729 => ?_) (fun c729 => ?_)
                                  · exact absurd (by rw [hGf k (k % 2) 0 (by omega) (by omega) (by omega), show k % 2 = 0 by omega]; exact zkp_th (zkp_N hhc) hk (by omega) (by omega)) c729
                                  · refine lv_aload_n hx hb dL_law_732 rfl (lv_at hl 11 rfl) ?_
                                    refine lv_iload hx hb dL_law_733 (lv_at hl 5 rfl) ?_
                                    refine lv_iload hx hb dL_law_735 (lv_at hl 1 rfl) ?_
                                    refine lv_iconst (v := 1) hx hb dL_law_737 (by decide) ?_
                                    refine lv_icmp_ne (tgt := 745) hx hb dL_law_738 (by decide) (fun c738 => ?_) (fun c738 => ?_)
                                    · have c738 := z_ne (a := k % 2) (b := 1) c738 (by omega) (by omega)
                                      refine lv_iconst (v := 0) hx hb dL_law_745 (by decide) ?_
                                      refine lv_iconst (v := 1) hx hb dL_law_746 (by decide) ?_
                                      refine z_ki (va_runV (As := [.int (nI k), .int 0, .int 1]) (rest := []) hfix (zcX4_half_k0 l D cI H b n me lo c e ((rN n me lo c e (rd, tk, g) 1).1) ((rN n me lo c e (rd, tk, g) 1).2.1) (zgP n me lo c e rd tk g) k 1 hC hI (by omega) (by omega)) (cwV 3 hts gL_law_X4_half rfl rfl rfl (by decide +kernel) ⟨Nat.le_of_ble_eq_true rfl, Nat.le_of_ble_eq_true rfl⟩) (z_preV hK hK1 hC.1 (ci := 4) (q0 := 0) rfl rfl rfl) rfl rfl hl.1 rfl (lv_room (Nat.le_of_ble_eq_true rfl)) dL_law_747 ⟨by show ck + 0 ≤ 830515; omega, by show sk + 0 ≤ 6609922; omega⟩) ?_
                                      refine lv_aload hx hb dL_law_750 (lv_at hl 15 rfl) ?_
                                      refine lv_iload hx hb dL_law_752 (lv_at hl 5 rfl) ?_
                                      refine z_aald (a := qh) (n := n) (f := (zbf n (zR3 qh))) (j := k) hx hb hK4 hV3.1 0 3 rfl rfl rfl rfl (by omega) (by omega) (zbf_in (by omega)) dL_law_754 ?_
                                      refine lv_iload hx hb dL_law_755 (lv_at hl 1 rfl) ?_
                                      refine z_aald (a := (zR3 qh k)) (n := 2) (f := (zbf 2 (zR2 (zR3 qh k)))) (j := (k % 2)) hx hb hK4 hr14 0 2 rfl rfl rfl rfl (by omega) (by omega) (zbf_in (by omega)) dL_law_757 ?_
                                      refine lv_iconst (v := 1) hx hb dL_law_758 (by decide) ?_
                                      refine z_iald (a := (zR2 (zR3 qh k) (k % 2))) (n := 3) (f := (G k (k % 2))) (j := 1) hx hb hK hr16 0 0 rfl rfl rfl (by omega) (by omega) dL_law_759 ?_
                                      refine lv_icmp_ne (tgt := 794) hx hb dL_law_760 (by decide) (fun c760 => ?_) (fun c760 => ?_)
                                      · exact absurd (by rw [hGf k (k % 2) 1 (by omega) (by omega) (by omega), show k % 2 = 0 by omega]; exact zkp_th (zkp_N hhc) hk (by omega) (by omega)) c760
                                      · refine lv_aload_n hx hb dL_law_763 rfl (lv_at hl 11 rfl) ?_
                                        refine lv_iload hx hb dL_law_764 (lv_at hl 5 rfl) ?_
                                        refine lv_iload hx hb dL_law_766 (lv_at hl 1 rfl) ?_
                                        refine lv_iconst (v := 1) hx hb dL_law_768 (by decide) ?_
                                        refine lv_icmp_ne (tgt := 776) hx hb dL_law_769 (by decide) (fun c769 => ?_) (fun c769 => ?_)
                                        · have c769 := z_ne (a := k % 2) (b := 1) c769 (by omega) (by omega)
                                          refine lv_iconst (v := 0) hx hb dL_law_776 (by decide) ?_
                                          refine lv_iconst (v := 2) hx hb dL_law_777 (by decide) ?_
                                          refine z_ki (va_runV (As := [.int (nI k), .int 0, .int 2]) (rest := []) hfix (zcX4_half_k0 l D cI H b n me lo c e ((rN n me lo c e (rd, tk, g) 1).1) ((rN n me lo c e (rd, tk, g) 1).2.1) (zgP n me lo c e rd tk g) k 2 hC hI (by omega) (by omega)) (cwV 3 hts gL_law_X4_half rfl rfl rfl (by decide +kernel) ⟨Nat.le_of_ble_eq_true rfl, Nat.le_of_ble_eq_true rfl⟩) (z_preV hK hK1 hC.1 (ci := 4) (q0 := 0) rfl rfl rfl) rfl rfl hl.1 rfl (lv_room (Nat.le_of_ble_eq_true rfl)) dL_law_778 ⟨by show ck + 0 ≤ 830515; omega, by show sk + 0 ≤ 6609922; omega⟩) ?_
                                          refine lv_aload hx hb dL_law_781 (lv_at hl 15 rfl) ?_
                                          refine lv_iload hx hb dL_law_783 (lv_at hl 5 rfl) ?_
                                          refine z_aald (a := qh) (n := n) (f := (zbf n (zR3 qh))) (j := k) hx hb hK4 hV3.1 0 3 rfl rfl rfl rfl (by omega) (by omega) (zbf_in (by omega)) dL_law_785 ?_
                                          refine lv_iload hx hb dL_law_786 (lv_at hl 1 rfl) ?_
                                          refine z_aald (a := (zR3 qh k)) (n := 2) (f := (zbf 2 (zR2 (zR3 qh k)))) (j := (k % 2)) hx hb hK4 hr14 0 2 rfl rfl rfl rfl (by omega) (by omega) (zbf_in (by omega)) dL_law_788 ?_
                                          refine lv_iconst (v := 2) hx hb dL_law_789 (by decide) ?_
                                          refine z_iald (a := (zR2 (zR3 qh k) (k % 2))) (n := 3) (f := (G k (k % 2))) (j := 2) hx hb hK hr16 0 0 rfl rfl rfl (by omega) (by omega) dL_law_790 ?_
                                          refine lv_icmp_eq (tgt := 796) hx hb dL_law_791 (by decide) (fun c791 => ?_) (fun c791 => ?_)
                                          · refine lv_iload hx hb dL_law_796 (lv_at hl 4 rfl) ?_
                                            refine lv_if_ge (tgt := 811) hx hb dL_law_798 (by decide) (fun c798 => ?_) (fun c798 => ?_)
                                            · exact absurd c798 (by decide)
                                            · refine lv_aload hx hb dL_law_801 (lv_at hl 14 rfl) ?_
                                              refine lv_iload hx hb dL_law_803 (lv_at hl 5 rfl) ?_
                                              refine z_aald (a := qw) (n := n) (f := (zbf n (zR2 qw))) (j := k) hx hb hK4 hW.1 0 2 rfl rfl rfl rfl (by omega) (by omega) (zbf_in (by omega)) dL_law_805 ?_
                                              refine lv_iconst (v := 1) hx hb dL_law_806 (by decide) ?_
                                              refine z_iald (a := (zR2 qw k)) (n := 7) (f := (F k)) (j := 1) hx hb hK hr10 0 0 rfl rfl rfl (by omega) (by omega) dL_law_807 ?_
                                              refine z_toi (y := (g 6 k)) (hFf k 1 (by omega) (by omega)) ?_
                                              refine lv_goto (tgt := 851) hx hb dL_law_808 (by decide) ?_
                                              refine lv_istore (lv' := [(22, .int (g 6 k)), (13, .int (((hA lo c e g (0, g) k).1) + 0)), (21, .int (nI (k % 2))), (20, .int 0), (19, .int 0), (18, .int (-1)), (17, .int (nI k)), (16, .int (nI (mo (zgP n me lo c e rd tk g) n k))), (15, .int (su (zgP n me lo c e rd tk g) k)), (14, .int (nI (ct (zgP n me lo c e rd tk g) k))), (3, .int (nI tm)), (0, .ref b0), (1, .ref b), (2, .ref o), (5, .int (nI n)), (6, .ref qw), (7, .ref qh), (8, .ref qt), (10, .int rd), (12, .int ((rN n me lo c e (rd, tk, g) 1).2.1 - tk))]) hx hb dL_law_851 hl (by decide) rfl (fun ls hl => ?_)
                                              refine lv_iload hx hb dL_law_853 (lv_at hl 18 rfl) ?_
                                              refine lv_aload hx hb dL_law_855 (lv_at hl 15 rfl) ?_
                                              refine lv_iload hx hb dL_law_857 (lv_at hl 6 rfl) ?_
                                              refine z_aald (a := qw) (n := n) (f := (zbf n (zR2 qw))) (j := k) hx hb hK4 hW.1 0 2 rfl rfl rfl rfl (by omega) (by omega) (zbf_in (by omega)) dL_law_859 ?_
                                              refine lv_iconst (v := 2) hx hb dL_law_860 (by decide) ?_
                                              refine z_iald (a := (zR2 qw k)) (n := 7) (f := (F k)) (j := 2) hx hb hK hr10 0 0 rfl rfl rfl (by omega) (by omega) dL_law_861 ?_
                                              refine z_toi (y := (me k)) (hFf k 2 (by omega) (by omega)) ?_
                                              refine lv_iconst (v := 1) hx hb dL_law_862 (by decide) ?_
                                              refine lv_iadd hx hb dL_law_863 ?_
                                              refine lv_irem hx hb dL_law_864 (zI_span0 hI hk) ?_
                                              refine z_toi (y := zrem rd ((me k) + 1)) rfl ?_
                                              refine lv_if_ne (tgt := 878) hx hb dL_law_865 (by decide) (fun c865 => ?_) (fun c865 => ?_)
                                              · have hl : lv_has ls 25 [(22, .int (g 6 k)), (13, .int (((hA lo c e g (0, g) k).1) + 0)), (21, .int (nI (k % 2))), (20, .int 0), (19, .int 0), (18, .int (zo (hd lo e k (c k)))), (17, .int (nI k)), (16, .int (nI (mo (zgP n me lo c e rd tk g) n k))), (15, .int (su (zgP n me lo c e rd tk g) k)), (14, .int (nI (ct (zgP n me lo c e rd tk g) k))), (3, .int (nI tm)), (0, .ref b0), (1, .ref b), (2, .ref o), (5, .int (nI n)), (6, .ref qw), (7, .ref qh), (8, .ref qt), (10, .int rd), (12, .int ((rN n me lo c e (rd, tk, g) 1).2.1 - tk))] := by rw [hhc]; exact hl
                                                have hl : lv_has ls 25 [(3, .int (nI tm)), (0, .ref b0), (1, .ref b), (2, .ref o), (5, .int (nI n)), (6, .ref qw), (7, .ref qh), (8, .ref qt), (10, .int rd), (12, .int ((rN n me lo c e (rd, tk, g) 1).2.1 - tk)), (13, .int (((hA lo c e g (0, g) k).1) + 0)), (14, .int (nI (ct (zgP n me lo c e rd tk g) k))), (15, .int (su (zgP n me lo c e rd tk g) k)), (16, .int (nI (mo (zgP n me lo c e rd tk g) n k))), (17, .int (nI k)), (18, .int (zo (hd lo e k (c k)))), (22, .int (g 6 k))] := lv_sub hl [10, 11, 12, 13, 14, 15, 16, 17, 18, 19, 1, 9, 8, 7, 6, 5, 0] rfl
                                                refine zlaw_T hfix hK4 hKw hX hb0 hb9 hbs hL hov2 hov3 ck sk hck hsk tm htm n me lo c e rd tk g k (((hA lo c e g (0, g) k).1) + 0) (g 6 k) qw qh qt F hI hZ hV hN hn0 hZ1 hV1 hk hFf (zsv_n hk (zkp_N hhc).2.1 c865) H lo0 hS hC hW (fun ls hl => ?_) _ hl
                                                refine lv_iinc (v := (nI (k + 1))) (lv' := [(17, .int (nI (k + 1))), (3, .int (nI tm)), (0, .ref b0), (1, .ref b), (2, .ref o), (5, .int (nI n)), (6, .ref qw), (7, .ref qh), (8, .ref qt), (10, .int rd), (12, .int ((rN n me lo c e (rd, tk, g) 1).2.1 - tk)), (13, .int (((hA lo c e g (0, g) k).1) + 0)), (14, .int (nI (ct (zgP n me lo c e rd tk g) (k + 1)))), (15, .int (su (zgP n me lo c e rd tk g) (k + 1))), (16, .int (nI (mo (zgP n me lo c e rd tk g) n (k + 1))))]) hx hb dL_law_1102 hl (k := 14) rfl (nI_1 _) (by decide) rfl (fun ls hl => ?_)
                                                refine lv_goto (tgt := 387) hx hb dL_law_1105 (by decide) ?_
                                                exact ih (k + 1) (by omega) (by omega) _ (rfl) _ (rfl) _ (rfl) _ (rfl) _ (hA_kp (zkp_N hhc)) _ (lv_sub hl [0, 14, 13, 12, 11, 1, 2, 3, 4, 5, 6, 7, 8, 9, 10] rfl)
                                              · refine lv_iconst (v := 0) hx hb dL_law_868 (by decide) ?_
                                                refine lv_iload hx hb dL_law_869 (lv_at hl 0 rfl) ?_
                                                refine lv_iconst (v := 1) hx hb dL_law_871 (by decide) ?_
                                                refine lv_isub hx hb dL_law_872 ?_
                                                refine va_mmax hx hb (by rw [hml]; exact hl.1.symm) hown hwd9 hwd10 hwd7 (hwd11) (Nat.le_of_ble_eq_true rfl) (Nat.le_of_ble_eq_true rfl) (hck) (hsk) dL_law_873 ?_
                                                refine z_toi (y := zmax 0 ((g 6 k) - 1)) rfl ?_
                                                refine lv_istore (lv' := [(22, .int (zmax 0 ((g 6 k) - 1))), (13, .int (((hA lo c e g (0, g) k).1) + 0)), (21, .int (nI (k % 2))), (20, .int 0), (19, .int 0), (18, .int (-1)), (17, .int (nI k)), (16, .int (nI (mo (zgP n me lo c e rd tk g) n k))), (15, .int (su (zgP n me lo c e rd tk g) k)), (14, .int (nI (ct (zgP n me lo c e rd tk g) k))), (3, .int (nI tm)), (0, .ref b0), (1, .ref b), (2, .ref o), (5, .int (nI n)), (6, .ref qw), (7, .ref qh), (8, .ref qt), (10, .int rd), (12, .int ((rN n me lo c e (rd, tk, g) 1).2.1 - tk))]) hx hb dL_law_876 hl (by decide) rfl (fun ls hl => ?_)
                                                have hl : lv_has ls 25 [(22, .int (zmax 0 ((g 6 k) - 1))), (13, .int (((hA lo c e g (0, g) k).1) + 0)), (21, .int (nI (k % 2))), (20, .int 0), (19, .int 0), (18, .int (zo (hd lo e k (c k)))), (17, .int (nI k)), (16, .int (nI (mo (zgP n me lo c e rd tk g) n k))), (15, .int (su (zgP n me lo c e rd tk g) k)), (14, .int (nI (ct (zgP n me lo c e rd tk g) k))), (3, .int (nI tm)), (0, .ref b0), (1, .ref b), (2, .ref o), (5, .int (nI n)), (6, .ref qw), (7, .ref qh), (8, .ref qt), (10, .int rd), (12, .int ((rN n me lo c e (rd, tk, g) 1).2.1 - tk))] := by rw [hhc]; exact hl
                                                have hl : lv_has ls 25 [(3, .int (nI tm)), (0, .ref b0), (1, .ref b), (2, .ref o), (5, .int (nI n)), (6, .ref qw), (7, .ref qh), (8, .ref qt), (10, .int rd), (12, .int ((rN n me lo c e (rd, tk, g) 1).2.1 - tk)), (13, .int (((hA lo c e g (0, g) k).1) + 0)), (14, .int (nI (ct (zgP n me lo c e rd tk g) k))), (15, .int (su (zgP n me lo c e rd tk g) k)), (16, .int (nI (mo (zgP n me lo c e rd tk g) n k))), (17, .int (nI k)), (18, .int (zo (hd lo e k (c k)))), (22, .int (zmax 0 ((g 6 k) - 1)))] := lv_sub hl [10, 11, 12, 13, 14, 15, 16, 17, 18, 19, 1, 9, 8, 7, 6, 5, 0] rfl
                                                refine zlaw_T hfix hK4 hKw hX hb0 hb9 hbs hL hov2 hov3 ck sk hck hsk tm htm n me lo c e rd tk g k (((hA lo c e g (0, g) k).1) + 0) (zmax 0 ((g 6 k) - 1)) qw qh qt F hI hZ hV hN hn0 hZ1 hV1 hk hFf (zsv_y hk (zkp_N hhc).2.1 c865) H lo0 hS hC hW (fun ls hl => ?_) _ hl
                                                refine lv_iinc (v := (nI (k + 1))) (lv' := [(17, .int (nI (k + 1))), (3, .int (nI tm)), (0, .ref b0), (1, .ref b), (2, .ref o), (5, .int (nI n)), (6, .ref qw), (7, .ref qh), (8, .ref qt), (10, .int rd), (12, .int ((rN n me lo c e (rd, tk, g) 1).2.1 - tk)), (13, .int (((hA lo c e g (0, g) k).1) + 0)), (14, .int (nI (ct (zgP n me lo c e rd tk g) (k + 1)))), (15, .int (su (zgP n me lo c e rd tk g) (k + 1))), (16, .int (nI (mo (zgP n me lo c e rd tk g) n (k + 1))))]) hx hb dL_law_1102 hl (k := 14) rfl (nI_1 _) (by decide) rfl (fun ls hl => ?_)
                                                refine lv_goto (tgt := 387) hx hb dL_law_1105 (by decide) ?_
                                                exact ih (k + 1) (by omega) (by omega) _ (rfl) _ (rfl) _ (rfl) _ (rfl) _ (hA_kp (zkp_N hhc)) _ (lv_sub hl [0, 14, 13, 12, 11, 1, 2, 3, 4, 5, 6, 7, 8, 9, 10] rfl)
                                          · exact absurd (by rw [hGf k (k % 2) 2 (by omega) (by omega) (by omega), show k % 2 = 0 by omega]; exact zkp_th (zkp_N hhc) hk (by omega) (by omega)) c791
                                        · have c769 := z_eq (a := k % 2) (b := 1) c769 (by omega) (by omega)
                                          omega
                                    · have c738 := z_eq (a := k % 2) (b := 1) c738 (by omega) (by omega)
                                      omega
                                · have c707 := z_eq (a := k % 2) (b := 1) c707 (by omega) (by omega)
                                  omega
                              · exact absurd (by decide) c603
                            · exact absurd (by rw [hGf k (1 - k % 2) 2 (by omega) (by omega) (by omega), show 1 - k % 2 = 1 by omega]; exact z1_oth hk (by omega) (by omega)) c596
              · exact absurd (by decide) c477
            · exact absurd (by decide) c435
          · exact absurd (by decide) c406
        · have ho9 := zI_hd hI hhc
          refine z_toi (y := (nI o9)) (by rw [hF6, hhc]; rfl) ?_
          refine lv_istore (lv' := [(18, .int (nI o9)), (17, .int (nI k)), (16, .int (nI (mo (zgP n me lo c e rd tk g) n k))), (15, .int (su (zgP n me lo c e rd tk g) k)), (14, .int (nI (ct (zgP n me lo c e rd tk g) k))), (13, .int ((hA lo c e g (0, g) k).1)), (3, .int (nI tm)), (0, .ref b0), (1, .ref b), (2, .ref o), (5, .int (nI n)), (6, .ref qw), (7, .ref qh), (8, .ref qt), (10, .int rd), (12, .int ((rN n me lo c e (rd, tk, g) 1).2.1 - tk))]) hx hb dL_law_402 hl (by decide) rfl (fun ls hl => ?_)
          refine lv_iload hx hb dL_law_404 (lv_at hl 0 rfl) ?_
          refine lv_if_lt (tgt := 430) hx hb dL_law_406 (by decide) (fun c406 => ?_) (fun c406 => ?_)
          · have c406 := z_lt (a := o9) (b := 0) c406 (by omega) (by omega)
            omega
          · have c406 := z_nlt (a := o9) (b := 0) c406 (by omega) (by omega)
            refine lv_aload hx hb dL_law_409 (lv_at hl 11 rfl) ?_
            refine lv_iload hx hb dL_law_411 (lv_at hl 0 rfl) ?_
            refine z_aald (a := qw) (n := n) (f := (zbf n (zR2 qw))) (j := o9) hx hb hK4 hW.1 0 2 rfl rfl rfl rfl (by omega) (by omega) (zbf_in (by omega)) dL_law_413 ?_
            have hr17 : va_P D vwCl (zAr cI (zR2 qw o9) 7 (F o9)) H := hW.2 o9 (by omega)
            refine lv_iconst (v := 0) hx hb dL_law_414 (by decide) ?_
            refine z_iald (a := (zR2 qw o9)) (n := 7) (f := (F o9)) (j := 0) hx hb hK hr17 0 0 rfl rfl rfl (by omega) (by omega) dL_law_415 ?_
            refine z_toi (y := (wd g o9)) (hFf o9 0 (by omega) (by omega)) ?_
            refine lv_aload hx hb dL_law_416 (lv_at hl 11 rfl) ?_
            refine lv_iload hx hb dL_law_418 (lv_at hl 1 rfl) ?_
            refine z_aald (a := qw) (n := n) (f := (zbf n (zR2 qw))) (j := k) hx hb hK4 hW.1 0 2 rfl rfl rfl rfl (by omega) (by omega) (zbf_in (by omega)) dL_law_420 ?_
            refine lv_iconst (v := 0) hx hb dL_law_421 (by decide) ?_
            refine z_iald (a := (zR2 qw k)) (n := 7) (f := (F k)) (j := 0) hx hb hK hr10 0 0 rfl rfl rfl (by omega) (by omega) dL_law_422 ?_
            refine z_toi (y := (wd g k)) (hFf k 0 (by omega) (by omega)) ?_
            refine lv_icmp_ne (tgt := 430) hx hb dL_law_423 (by decide) (fun c423 => ?_) (fun c423 => ?_)
            · refine lv_iconst (v := 0) hx hb dL_law_430 (by decide) ?_
              refine lv_istore (lv' := [(19, .int 0), (18, .int (nI o9)), (17, .int (nI k)), (16, .int (nI (mo (zgP n me lo c e rd tk g) n k))), (15, .int (su (zgP n me lo c e rd tk g) k)), (14, .int (nI (ct (zgP n me lo c e rd tk g) k))), (13, .int ((hA lo c e g (0, g) k).1)), (3, .int (nI tm)), (0, .ref b0), (1, .ref b), (2, .ref o), (5, .int (nI n)), (6, .ref qw), (7, .ref qh), (8, .ref qt), (10, .int rd), (12, .int ((rN n me lo c e (rd, tk, g) 1).2.1 - tk))]) hx hb dL_law_431 hl (by decide) rfl (fun ls hl => ?_)
              refine lv_iload hx hb dL_law_433 (lv_at hl 1 rfl) ?_
              refine lv_if_lt (tgt := 464) hx hb dL_law_435 (by decide) (fun c435 => ?_) (fun c435 => ?_)
              · have c435 := z_lt (a := o9) (b := 0) c435 (by omega) (by omega)
                omega
              · have c435 := z_nlt (a := o9) (b := 0) c435 (by omega) (by omega)
                refine lv_iload hx hb dL_law_438 (lv_at hl 0 rfl) ?_
                refine lv_if_ne (tgt := 464) hx hb dL_law_440 (by decide) (fun c440 => ?_) (fun c440 => ?_)
                · exact absurd (by decide) c440
                · have c440 := z_eq (a := 0) (b := 0) c440 (by omega) (by omega)
                  refine lv_aload hx hb dL_law_443 (lv_at hl 12 rfl) ?_
                  refine lv_iload hx hb dL_law_445 (lv_at hl 2 rfl) ?_
                  refine z_aald (a := qw) (n := n) (f := (zbf n (zR2 qw))) (j := k) hx hb hK4 hW.1 0 2 rfl rfl rfl rfl (by omega) (by omega) (zbf_in (by omega)) dL_law_447 ?_
                  refine lv_iconst (v := 1) hx hb dL_law_448 (by decide) ?_
                  refine z_iald (a := (zR2 qw k)) (n := 7) (f := (F k)) (j := 1) hx hb hK hr10 0 0 rfl rfl rfl (by omega) (by omega) dL_law_449 ?_
                  refine z_toi (y := (g 6 k)) (hFf k 1 (by omega) (by omega)) ?_
                  refine lv_aload hx hb dL_law_450 (lv_at hl 12 rfl) ?_
                  refine lv_iload hx hb dL_law_452 (lv_at hl 1 rfl) ?_
                  refine z_aald (a := qw) (n := n) (f := (zbf n (zR2 qw))) (j := o9) hx hb hK4 hW.1 0 2 rfl rfl rfl rfl (by omega) (by omega) (zbf_in (by omega)) dL_law_454 ?_
                  refine lv_iconst (v := 1) hx hb dL_law_455 (by decide) ?_
                  refine z_iald (a := (zR2 qw o9)) (n := 7) (f := (F o9)) (j := 1) hx hb hK hr17 0 0 rfl rfl rfl (by omega) (by omega) dL_law_456 ?_
                  refine z_toi (y := (g 6 o9)) (hFf o9 1 (by omega) (by omega)) ?_
                  refine lv_icmp_gt (tgt := 464) hx hb dL_law_457 (by decide) (fun c457 => ?_) (fun c457 => ?_)
                  · refine lv_iconst (v := 0) hx hb dL_law_464 (by decide) ?_
                    refine lv_istore (lv' := [(20, .int 0), (19, .int 0), (18, .int (nI o9)), (17, .int (nI k)), (16, .int (nI (mo (zgP n me lo c e rd tk g) n k))), (15, .int (su (zgP n me lo c e rd tk g) k)), (14, .int (nI (ct (zgP n me lo c e rd tk g) k))), (13, .int ((hA lo c e g (0, g) k).1)), (3, .int (nI tm)), (0, .ref b0), (1, .ref b), (2, .ref o), (5, .int (nI n)), (6, .ref qw), (7, .ref qh), (8, .ref qt), (10, .int rd), (12, .int ((rN n me lo c e (rd, tk, g) 1).2.1 - tk))]) hx hb dL_law_465 hl (by decide) rfl (fun ls hl => ?_)
                    refine lv_iload hx hb dL_law_467 (lv_at hl 3 rfl) ?_
                    refine lv_iconst (v := 2) hx hb dL_law_469 (by decide) ?_
                    refine lv_irem hx hb dL_law_470 (by decide) ?_
                    refine z_toi (y := zrem (nI k) 2) rfl ?_
                    refine z_toi (y := nI (k % 2)) (zrem2 k (by omega)) ?_
                    refine lv_istore (lv' := [(21, .int (nI (k % 2))), (20, .int 0), (19, .int 0), (18, .int (nI o9)), (17, .int (nI k)), (16, .int (nI (mo (zgP n me lo c e rd tk g) n k))), (15, .int (su (zgP n me lo c e rd tk g) k)), (14, .int (nI (ct (zgP n me lo c e rd tk g) k))), (13, .int ((hA lo c e g (0, g) k).1)), (3, .int (nI tm)), (0, .ref b0), (1, .ref b), (2, .ref o), (5, .int (nI n)), (6, .ref qw), (7, .ref qh), (8, .ref qt), (10, .int rd), (12, .int ((rN n me lo c e (rd, tk, g) 1).2.1 - tk))]) hx hb dL_law_471 hl (by decide) rfl (fun ls hl => ?_)
                    refine lv_iload hx hb dL_law_473 (lv_at hl 8 rfl) ?_
                    refine lv_iload hx hb dL_law_475 (lv_at hl 1 rfl) ?_
                    refine lv_if_eq (tgt := 484) hx hb dL_law_477 (by decide) (fun c477 => ?_) (fun c477 => ?_)
                    · have c477 := z_eq (a := 0) (b := 0) c477 (by omega) (by omega)
                      refine lv_iconst (v := 0) hx hb dL_law_484 (by decide) ?_
                      refine lv_iadd hx hb dL_law_485 ?_
                      refine lv_istore (lv' := [(13, .int (((hA lo c e g (0, g) k).1) + 0)), (21, .int (nI (k % 2))), (20, .int 0), (19, .int 0), (18, .int (nI o9)), (17, .int (nI k)), (16, .int (nI (mo (zgP n me lo c e rd tk g) n k))), (15, .int (su (zgP n me lo c e rd tk g) k)), (14, .int (nI (ct (zgP n me lo c e rd tk g) k))), (3, .int (nI tm)), (0, .ref b0), (1, .ref b), (2, .ref o), (5, .int (nI n)), (6, .ref qw), (7, .ref qh), (8, .ref qt), (10, .int rd), (12, .int ((rN n me lo c e (rd, tk, g) 1).2.1 - tk))]) hx hb dL_law_486 hl (by decide) rfl (fun ls hl => ?_)
                      refine lv_aload_n hx hb dL_law_488 rfl (lv_at hl 11 rfl) ?_
                      refine lv_iload hx hb dL_law_489 (lv_at hl 5 rfl) ?_
                      refine lv_iconst (v := 0) hx hb dL_law_491 (by decide) ?_
                      refine z_ki (va_runV (As := [.int (nI k), .int 0]) (rest := []) hfix (zcX4_parrot_k l D cI H b n me lo c e ((rN n me lo c e (rd, tk, g) 1).1) ((rN n me lo c e (rd, tk, g) 1).2.1) (zgP n me lo c e rd tk g) k 0 hC hI (by omega) (by omega)) (cwV 2 hts gL_law_X4_parrot rfl rfl rfl (by decide +kernel) ⟨Nat.le_of_ble_eq_true rfl, Nat.le_of_ble_eq_true rfl⟩) (z_preV hK hK1 hC.1 (ci := 4) (q0 := 0) rfl rfl rfl) rfl rfl hl.1 rfl (lv_room (Nat.le_of_ble_eq_true rfl)) dL_law_492 ⟨by show ck + 0 ≤ 830515; omega, by show sk + 0 ≤ 6609922; omega⟩) ?_
                      refine lv_aload hx hb dL_law_495 (lv_at hl 16 rfl) ?_
                      refine lv_iload hx hb dL_law_497 (lv_at hl 5 rfl) ?_
                      refine z_iald (a := qt) (n := n) (f := T) (j := k) hx hb hK hT 0 0 rfl rfl rfl (by omega) (by omega) dL_law_499 ?_
                      refine lv_icmp_ne (tgt := 599) hx hb dL_law_500 (by decide) (fun c500 => ?_) (fun c500 => ?_)
                      · exact absurd (hTf k (by omega)).symm c500
                      · refine lv_aload_n hx hb dL_law_503 rfl (lv_at hl 11 rfl) ?_
                        refine lv_iload hx hb dL_law_504 (lv_at hl 5 rfl) ?_
                        refine lv_iload hx hb dL_law_506 (lv_at hl 1 rfl) ?_
                        refine lv_if_ne (tgt := 515) hx hb dL_law_508 (by decide) (fun c508 => ?_) (fun c508 => ?_)
                        · have c508 := z_ne (a := k % 2) (b := 0) c508 (by omega) (by omega)
                          refine lv_iconst (v := 0) hx hb dL_law_515 (by decide) ?_
                          refine lv_iconst (v := 0) hx hb dL_law_516 (by decide) ?_
                          refine z_ki (va_runV (As := [.int (nI k), .int 0, .int 0]) (rest := []) hfix (zcX4_half_k0 l D cI H b n me lo c e ((rN n me lo c e (rd, tk, g) 1).1) ((rN n me lo c e (rd, tk, g) 1).2.1) (zgP n me lo c e rd tk g) k 0 hC hI (by omega) (by omega)) (cwV 3 hts gL_law_X4_half rfl rfl rfl (by decide +kernel) ⟨Nat.le_of_ble_eq_true rfl, Nat.le_of_ble_eq_true rfl⟩) (z_preV hK hK1 hC.1 (ci := 4) (q0 := 0) rfl rfl rfl) rfl rfl hl.1 rfl (lv_room (Nat.le_of_ble_eq_true rfl)) dL_law_517 ⟨by show ck + 0 ≤ 830515; omega, by show sk + 0 ≤ 6609922; omega⟩) ?_
                          refine lv_aload hx hb dL_law_520 (lv_at hl 15 rfl) ?_
                          refine lv_iload hx hb dL_law_522 (lv_at hl 5 rfl) ?_
                          refine z_aald (a := qh) (n := n) (f := (zbf n (zR3 qh))) (j := k) hx hb hK4 hV3.1 0 3 rfl rfl rfl rfl (by omega) (by omega) (zbf_in (by omega)) dL_law_524 ?_
                          have hr18 : va_P D vwCl (zQr cA (zR3 qh k) 2 (zbf 2 (zR2 (zR3 qh k)))) H := (hV3.2 k (by omega)).1
                          refine lv_iconst (v := 1) hx hb dL_law_525 (by decide) ?_
                          refine lv_iload hx hb dL_law_526 (lv_at hl 1 rfl) ?_
                          refine lv_isub hx hb dL_law_528 ?_
                          refine z_toi (y := nI (1 - k % 2)) (pk_sub (a := 1) (by omega)) ?_
                          refine z_aald (a := (zR3 qh k)) (n := 2) (f := (zbf 2 (zR2 (zR3 qh k)))) (j := (1 - k % 2)) hx hb hK4 hr18 0 2 rfl rfl rfl rfl (by omega) (by omega) (zbf_in (by omega)) dL_law_529 ?_
                          have hr19 : va_P D vwCl (zAr cI (zR2 (zR3 qh k) (1 - k % 2)) 3 (G k (1 - k % 2))) H := (hV3.2 k (by omega)).2 (1 - k % 2) (by omega)
                          refine lv_iconst (v := 0) hx hb dL_law_530 (by decide) ?_
                          refine z_iald (a := (zR2 (zR3 qh k) (1 - k % 2))) (n := 3) (f := (G k (1 - k % 2))) (j := 0) hx hb hK hr19 0 0 rfl rfl rfl (by omega) (by omega) dL_law_531 ?_
                          refine lv_icmp_ne (tgt := 599) hx hb dL_law_532 (by decide) (fun c532 => ?_) (fun c532 => ?_)
                          · exact absurd (by rw [hGf k (1 - k % 2) 0 (by omega) (by omega) (by omega), show 1 - k % 2 = 0 by omega]; exact z1_oth hk (by omega) (by omega)) c532
                          · refine lv_aload_n hx hb dL_law_535 rfl (lv_at hl 11 rfl) ?_
                            refine lv_iload hx hb dL_law_536 (lv_at hl 5 rfl) ?_
                            refine lv_iload hx hb dL_law_538 (lv_at hl 1 rfl) ?_
                            refine lv_if_ne (tgt := 547) hx hb dL_law_540 (by decide) (fun c540 => ?_) (fun c540 => ?_)
                            · have c540 := z_ne (a := k % 2) (b := 0) c540 (by omega) (by omega)
                              refine lv_iconst (v := 0) hx hb dL_law_547 (by decide) ?_
                              refine lv_iconst (v := 1) hx hb dL_law_548 (by decide) ?_
                              refine z_ki (va_runV (As := [.int (nI k), .int 0, .int 1]) (rest := []) hfix (zcX4_half_k0 l D cI H b n me lo c e ((rN n me lo c e (rd, tk, g) 1).1) ((rN n me lo c e (rd, tk, g) 1).2.1) (zgP n me lo c e rd tk g) k 1 hC hI (by omega) (by omega)) (cwV 3 hts gL_law_X4_half rfl rfl rfl (by decide +kernel) ⟨Nat.le_of_ble_eq_true rfl, Nat.le_of_ble_eq_true rfl⟩) (z_preV hK hK1 hC.1 (ci := 4) (q0 := 0) rfl rfl rfl) rfl rfl hl.1 rfl (lv_room (Nat.le_of_ble_eq_true rfl)) dL_law_549 ⟨by show ck + 0 ≤ 830515; omega, by show sk + 0 ≤ 6609922; omega⟩) ?_
                              refine lv_aload hx hb dL_law_552 (lv_at hl 15 rfl) ?_
                              refine lv_iload hx hb dL_law_554 (lv_at hl 5 rfl) ?_
                              refine z_aald (a := qh) (n := n) (f := (zbf n (zR3 qh))) (j := k) hx hb hK4 hV3.1 0 3 rfl rfl rfl rfl (by omega) (by omega) (zbf_in (by omega)) dL_law_556 ?_
                              refine lv_iconst (v := 1) hx hb dL_law_557 (by decide) ?_
                              refine lv_iload hx hb dL_law_558 (lv_at hl 1 rfl) ?_
                              refine lv_isub hx hb dL_law_560 ?_
                              refine z_toi (y := nI (1 - k % 2)) (pk_sub (a := 1) (by omega)) ?_
                              refine z_aald (a := (zR3 qh k)) (n := 2) (f := (zbf 2 (zR2 (zR3 qh k)))) (j := (1 - k % 2)) hx hb hK4 hr18 0 2 rfl rfl rfl rfl (by omega) (by omega) (zbf_in (by omega)) dL_law_561 ?_
                              refine lv_iconst (v := 1) hx hb dL_law_562 (by decide) ?_
                              refine z_iald (a := (zR2 (zR3 qh k) (1 - k % 2))) (n := 3) (f := (G k (1 - k % 2))) (j := 1) hx hb hK hr19 0 0 rfl rfl rfl (by omega) (by omega) dL_law_563 ?_
                              refine lv_icmp_ne (tgt := 599) hx hb dL_law_564 (by decide) (fun c564 => ?_) (fun c564 => ?_)
                              · exact absurd (by rw [hGf k (1 - k % 2) 1 (by omega) (by omega) (by omega), show 1 - k % 2 = 0 by omega]; exact z1_oth hk (by omega) (by omega)) c564
                              · refine lv_aload_n hx hb dL_law_567 rfl (lv_at hl 11 rfl) ?_
                                refine lv_iload hx hb dL_law_568 (lv_at hl 5 rfl) ?_
                                refine lv_iload hx hb dL_law_570 (lv_at hl 1 rfl) ?_
                                refine lv_if_ne (tgt := 579) hx hb dL_law_572 (by decide) (fun c572 => ?_) (fun c572 => ?_)
                                · have c572 := z_ne (a := k % 2) (b := 0) c572 (by omega) (by omega)
                                  refine lv_iconst (v := 0) hx hb dL_law_579 (by decide) ?_
                                  refine lv_iconst (v := 2) hx hb dL_law_580 (by decide) ?_
                                  refine z_ki (va_runV (As := [.int (nI k), .int 0, .int 2]) (rest := []) hfix (zcX4_half_k0 l D cI H b n me lo c e ((rN n me lo c e (rd, tk, g) 1).1) ((rN n me lo c e (rd, tk, g) 1).2.1) (zgP n me lo c e rd tk g) k 2 hC hI (by omega) (by omega)) (cwV 3 hts gL_law_X4_half rfl rfl rfl (by decide +kernel) ⟨Nat.le_of_ble_eq_true rfl, Nat.le_of_ble_eq_true rfl⟩) (z_preV hK hK1 hC.1 (ci := 4) (q0 := 0) rfl rfl rfl) rfl rfl hl.1 rfl (lv_room (Nat.le_of_ble_eq_true rfl)) dL_law_581 ⟨by show ck + 0 ≤ 830515; omega, by show sk + 0 ≤ 6609922; omega⟩) ?_
                                  refine lv_aload hx hb dL_law_584 (lv_at hl 15 rfl) ?_
                                  refine lv_iload hx hb dL_law_586 (lv_at hl 5 rfl) ?_
                                  refine z_aald (a := qh) (n := n) (f := (zbf n (zR3 qh))) (j := k) hx hb hK4 hV3.1 0 3 rfl rfl rfl rfl (by omega) (by omega) (zbf_in (by omega)) dL_law_588 ?_
                                  refine lv_iconst (v := 1) hx hb dL_law_589 (by decide) ?_
                                  refine lv_iload hx hb dL_law_590 (lv_at hl 1 rfl) ?_
                                  refine lv_isub hx hb dL_law_592 ?_
                                  refine z_toi (y := nI (1 - k % 2)) (pk_sub (a := 1) (by omega)) ?_
                                  refine z_aald (a := (zR3 qh k)) (n := 2) (f := (zbf 2 (zR2 (zR3 qh k)))) (j := (1 - k % 2)) hx hb hK4 hr18 0 2 rfl rfl rfl rfl (by omega) (by omega) (zbf_in (by omega)) dL_law_593 ?_
                                  refine lv_iconst (v := 2) hx hb dL_law_594 (by decide) ?_
                                  refine z_iald (a := (zR2 (zR3 qh k) (1 - k % 2))) (n := 3) (f := (G k (1 - k % 2))) (j := 2) hx hb hK hr19 0 0 rfl rfl rfl (by omega) (by omega) dL_law_595 ?_
                                  refine lv_icmp_eq (tgt := 601) hx hb dL_law_596 (by decide) (fun c596 => ?_) (fun c596 => ?_)
                                  · refine lv_iload hx hb dL_law_601 (lv_at hl 2 rfl) ?_
                                    refine lv_if_eq (tgt := 701) hx hb dL_law_603 (by decide) (fun c603 => ?_) (fun c603 => ?_)
                                    · have c603 := z_eq (a := 0) (b := 0) c603 (by omega) (by omega)
                                      refine lv_aload_n hx hb dL_law_701 rfl (lv_at hl 11 rfl) ?_
                                      refine lv_iload hx hb dL_law_702 (lv_at hl 5 rfl) ?_
                                      refine lv_iload hx hb dL_law_704 (lv_at hl 1 rfl) ?_
                                      refine lv_iconst (v := 1) hx hb dL_law_706 (by decide) ?_
                                      refine lv_icmp_ne (tgt := 714) hx hb dL_law_707 (by decide) (fun c707 => ?_) (fun c707 => ?_)
                                      · have c707 := z_ne (a := k % 2) (b := 1) c707 (by omega) (by omega)
                                        omega
                                      · have c707 := z_eq (a := k % 2) (b := 1) c707 (by omega) (by omega)
                                        refine lv_iconst (v := 1) hx hb dL_law_710 (by decide) ?_
                                        refine lv_goto (tgt := 715) hx hb dL_law_711 (by decide) ?_
                                        refine lv_iconst (v := 0) hx hb dL_law_715 (by decide) ?_
                                        refine z_ki (va_runV (As := [.int (nI k), .int 1, .int 0]) (rest := []) hfix (zcX4_half_k1 l D cI H b n me lo c e ((rN n me lo c e (rd, tk, g) 1).1) ((rN n me lo c e (rd, tk, g) 1).2.1) (zgP n me lo c e rd tk g) k 0 hC hI (by omega) (by omega)) (cwV 3 hts gL_law_X4_half rfl rfl rfl (by decide +kernel) ⟨Nat.le_of_ble_eq_true rfl, Nat.le_of_ble_eq_true rfl⟩) (z_preV hK hK1 hC.1 (ci := 4) (q0 := 0) rfl rfl rfl) rfl rfl hl.1 rfl (lv_room (Nat.le_of_ble_eq_true rfl)) dL_law_716 ⟨by show ck + 0 ≤ 830515; omega, by show sk + 0 ≤ 6609922; omega⟩) ?_
                                        refine lv_aload hx hb dL_law_719 (lv_at hl 15 rfl) ?_
                                        refine lv_iload hx hb dL_law_721 (lv_at hl 5 rfl) ?_
                                        refine z_aald (a := qh) (n := n) (f := (zbf n (zR3 qh))) (j := k) hx hb hK4 hV3.1 0 3 rfl rfl rfl rfl (by omega) (by omega) (zbf_in (by omega)) dL_law_723 ?_
                                        refine lv_iload hx hb dL_law_724 (lv_at hl 1 rfl) ?_
                                        refine z_aald (a := (zR3 qh k)) (n := 2) (f := (zbf 2 (zR2 (zR3 qh k)))) (j := (k % 2)) hx hb hK4 hr18 0 2 rfl rfl rfl rfl (by omega) (by omega) (zbf_in (by omega)) dL_law_726 ?_
                                        have hr20 : va_P D vwCl (zAr cI (zR2 (zR3 qh k) (k % 2)) 3 (G k (k % 2))) H := (hV3.2 k (by omega)).2 (k % 2) (by omega)
                                        refine lv_iconst (v := 0) hx hb dL_law_727 (by decide) ?_
                                        refine z_iald (a := (zR2 (zR3 qh k) (k % 2))) (n := 3) (f := (G k (k % 2))) (j := 0) hx hb hK hr20 0 0 rfl rfl rfl (by omega) (by omega) dL_law_728 ?_
                                        refine lv_icmp_ne (tgt := 794) hx hb dL_law_729 (by decide) (fun c729 => ?_) (fun c729 => ?_)
                                        · exact absurd (by rw [hGf k (k % 2) 0 (by omega) (by omega) (by omega), show k % 2 = 1 by omega]; exact zkp_th (zkp_K hhc c423 c457) hk (by omega) (by omega)) c729
                                        · refine lv_aload_n hx hb dL_law_732 rfl (lv_at hl 11 rfl) ?_
                                          refine lv_iload hx hb dL_law_733 (lv_at hl 5 rfl) ?_
                                          refine lv_iload hx hb dL_law_735 (lv_at hl 1 rfl) ?_
                                          refine lv_iconst (v := 1) hx hb dL_law_737 (by decide) ?_
                                          refine lv_icmp_ne (tgt := 745) hx hb dL_law_738 (by decide) (fun c738 => ?_) (fun c738 => ?_)
                                          · have c738 := z_ne (a := k % 2) (b := 1) c738 (by omega) (by omega)
                                            omega
                                          · have c738 := z_eq (a := k % 2) (b := 1) c738 (by omega) (by omega)
                                            refine lv_iconst (v := 1) hx hb dL_law_741 (by decide) ?_
                                            refine lv_goto (tgt := 746) hx hb dL_law_742 (by decide) ?_
                                            refine lv_iconst (v := 1) hx hb dL_law_746 (by decide) ?_
                                            refine z_ki (va_runV (As := [.int (nI k), .int 1, .int 1]) (rest := []) hfix (zcX4_half_k1 l D cI H b n me lo c e ((rN n me lo c e (rd, tk, g) 1).1) ((rN n me lo c e (rd, tk, g) 1).2.1) (zgP n me lo c e rd tk g) k 1 hC hI (by omega) (by omega)) (cwV 3 hts gL_law_X4_half rfl rfl rfl (by decide +kernel) ⟨Nat.le_of_ble_eq_true rfl, Nat.le_of_ble_eq_true rfl⟩) (z_preV hK hK1 hC.1 (ci := 4) (q0 := 0) rfl rfl rfl) rfl rfl hl.1 rfl (lv_room (Nat.le_of_ble_eq_true rfl)) dL_law_747 ⟨by show ck + 0 ≤ 830515; omega, by show sk + 0 ≤ 6609922; omega⟩) ?_
                                            refine lv_aload hx hb dL_law_750 (lv_at hl 15 rfl) ?_
                                            refine lv_iload hx hb dL_law_752 (lv_at hl 5 rfl) ?_
                                            refine z_aald (a := qh) (n := n) (f := (zbf n (zR3 qh))) (j := k) hx hb hK4 hV3.1 0 3 rfl rfl rfl rfl (by omega) (by omega) (zbf_in (by omega)) dL_law_754 ?_
                                            refine lv_iload hx hb dL_law_755 (lv_at hl 1 rfl) ?_
                                            refine z_aald (a := (zR3 qh k)) (n := 2) (f := (zbf 2 (zR2 (zR3 qh k)))) (j := (k % 2)) hx hb hK4 hr18 0 2 rfl rfl rfl rfl (by omega) (by omega) (zbf_in (by omega)) dL_law_757 ?_
                                            refine lv_iconst (v := 1) hx hb dL_law_758 (by decide) ?_
                                            refine z_iald (a := (zR2 (zR3 qh k) (k % 2))) (n := 3) (f := (G k (k % 2))) (j := 1) hx hb hK hr20 0 0 rfl rfl rfl (by omega) (by omega) dL_law_759 ?_
                                            refine lv_icmp_ne (tgt := 794) hx hb dL_law_760 (by decide) (fun c760 => ?_) (fun c760 => ?_)
                                            · exact absurd (by rw [hGf k (k % 2) 1 (by omega) (by omega) (by omega), show k % 2 = 1 by omega]; exact zkp_th (zkp_K hhc c423 c457) hk (by omega) (by omega)) c760
                                            · refine lv_aload_n hx hb dL_law_763 rfl (lv_at hl 11 rfl) ?_
                                              refine lv_iload hx hb dL_law_764 (lv_at hl 5 rfl) ?_
                                              refine lv_iload hx hb dL_law_766 (lv_at hl 1 rfl) ?_
                                              refine lv_iconst (v := 1) hx hb dL_law_768 (by decide) ?_
                                              refine lv_icmp_ne (tgt := 776) hx hb dL_law_769 (by decide) (fun c769 => ?_) (fun c769 => ?_)
                                              · have c769 := z_ne (a := k % 2) (b := 1) c769 (by omega) (by omega)
                                                omega
                                              · have c769 := z_eq (a := k % 2) (b := 1) c769 (by omega) (by omega)
                                                refine lv_iconst (v := 1) hx hb dL_law_772 (by decide) ?_
                                                refine lv_goto (tgt := 777) hx hb dL_law_773 (by decide) ?_
                                                refine lv_iconst (v := 2) hx hb dL_law_777 (by decide) ?_
                                                refine z_ki (va_runV (As := [.int (nI k), .int 1, .int 2]) (rest := []) hfix (zcX4_half_k1 l D cI H b n me lo c e ((rN n me lo c e (rd, tk, g) 1).1) ((rN n me lo c e (rd, tk, g) 1).2.1) (zgP n me lo c e rd tk g) k 2 hC hI (by omega) (by omega)) (cwV 3 hts gL_law_X4_half rfl rfl rfl (by decide +kernel) ⟨Nat.le_of_ble_eq_true rfl, Nat.le_of_ble_eq_true rfl⟩) (z_preV hK hK1 hC.1 (ci := 4) (q0 := 0) rfl rfl rfl) rfl rfl hl.1 rfl (lv_room (Nat.le_of_ble_eq_true rfl)) dL_law_778 ⟨by show ck + 0 ≤ 830515; omega, by show sk + 0 ≤ 6609922; omega⟩) ?_
                                                refine lv_aload hx hb dL_law_781 (lv_at hl 15 rfl) ?_
                                                refine lv_iload hx hb dL_law_783 (lv_at hl 5 rfl) ?_
                                                refine z_aald (a := qh) (n := n) (f := (zbf n (zR3 qh))) (j := k) hx hb hK4 hV3.1 0 3 rfl rfl rfl rfl (by omega) (by omega) (zbf_in (by omega)) dL_law_785 ?_
                                                refine lv_iload hx hb dL_law_786 (lv_at hl 1 rfl) ?_
                                                refine z_aald (a := (zR3 qh k)) (n := 2) (f := (zbf 2 (zR2 (zR3 qh k)))) (j := (k % 2)) hx hb hK4 hr18 0 2 rfl rfl rfl rfl (by omega) (by omega) (zbf_in (by omega)) dL_law_788 ?_
                                                refine lv_iconst (v := 2) hx hb dL_law_789 (by decide) ?_
                                                refine z_iald (a := (zR2 (zR3 qh k) (k % 2))) (n := 3) (f := (G k (k % 2))) (j := 2) hx hb hK hr20 0 0 rfl rfl rfl (by omega) (by omega) dL_law_790 ?_
                                                refine lv_icmp_eq (tgt := 796) hx hb dL_law_791 (by decide) (fun c791 => ?_) (fun c791 => ?_)
                                                · refine lv_iload hx hb dL_law_796 (lv_at hl 4 rfl) ?_
                                                  refine lv_if_ge (tgt := 811) hx hb dL_law_798 (by decide) (fun c798 => ?_) (fun c798 => ?_)
                                                  · have c798 := z_le (a := 0) (b := o9) c798 (by omega) (by omega)
                                                    refine lv_iload hx hb dL_law_811 (lv_at hl 3 rfl) ?_
                                                    refine lv_if_eq (tgt := 833) hx hb dL_law_813 (by decide) (fun c813 => ?_) (fun c813 => ?_)
                                                    · have c813 := z_eq (a := 0) (b := 0) c813 (by omega) (by omega)
                                                      refine lv_iload hx hb dL_law_833 (lv_at hl 2 rfl) ?_
                                                      refine lv_if_eq (tgt := 842) hx hb dL_law_835 (by decide) (fun c835 => ?_) (fun c835 => ?_)
                                                      · have c835 := z_eq (a := 0) (b := 0) c835 (by omega) (by omega)
                                                        refine lv_aload hx hb dL_law_842 (lv_at hl 14 rfl) ?_
                                                        refine lv_iload hx hb dL_law_844 (lv_at hl 5 rfl) ?_
                                                        refine z_aald (a := qw) (n := n) (f := (zbf n (zR2 qw))) (j := k) hx hb hK4 hW.1 0 2 rfl rfl rfl rfl (by omega) (by omega) (zbf_in (by omega)) dL_law_846 ?_
                                                        refine lv_iconst (v := 1) hx hb dL_law_847 (by decide) ?_
                                                        refine z_iald (a := (zR2 qw k)) (n := 7) (f := (F k)) (j := 1) hx hb hK hr10 0 0 rfl rfl rfl (by omega) (by omega) dL_law_848 ?_
                                                        refine z_toi (y := (g 6 k)) (hFf k 1 (by omega) (by omega)) ?_
                                                        refine lv_iconst (v := 1) hx hb dL_law_849 (by decide) ?_
                                                        refine lv_isub hx hb dL_law_850 ?_
                                                        refine lv_istore (lv' := [(22, .int ((g 6 k) - 1)), (13, .int (((hA lo c e g (0, g) k).1) + 0)), (21, .int (nI (k % 2))), (20, .int 0), (19, .int 0), (18, .int (nI o9)), (17, .int (nI k)), (16, .int (nI (mo (zgP n me lo c e rd tk g) n k))), (15, .int (su (zgP n me lo c e rd tk g) k)), (14, .int (nI (ct (zgP n me lo c e rd tk g) k))), (3, .int (nI tm)), (0, .ref b0), (1, .ref b), (2, .ref o), (5, .int (nI n)), (6, .ref qw), (7, .ref qh), (8, .ref qt), (10, .int rd), (12, .int ((rN n me lo c e (rd, tk, g) 1).2.1 - tk))]) hx hb dL_law_851 hl (by decide) rfl (fun ls hl => ?_)
                                                        refine lv_iload hx hb dL_law_853 (lv_at hl 18 rfl) ?_
                                                        refine lv_aload hx hb dL_law_855 (lv_at hl 15 rfl) ?_
                                                        refine lv_iload hx hb dL_law_857 (lv_at hl 6 rfl) ?_
                                                        refine z_aald (a := qw) (n := n) (f := (zbf n (zR2 qw))) (j := k) hx hb hK4 hW.1 0 2 rfl rfl rfl rfl (by omega) (by omega) (zbf_in (by omega)) dL_law_859 ?_
                                                        refine lv_iconst (v := 2) hx hb dL_law_860 (by decide) ?_
                                                        refine z_iald (a := (zR2 qw k)) (n := 7) (f := (F k)) (j := 2) hx hb hK hr10 0 0 rfl rfl rfl (by omega) (by omega) dL_law_861 ?_
                                                        refine z_toi (y := (me k)) (hFf k 2 (by omega) (by omega)) ?_
                                                        refine lv_iconst (v := 1) hx hb dL_law_862 (by decide) ?_
                                                        refine lv_iadd hx hb dL_law_863 ?_
                                                        refine lv_irem hx hb dL_law_864 (zI_span0 hI hk) ?_
                                                        refine z_toi (y := zrem rd ((me k) + 1)) rfl ?_
                                                        refine lv_if_ne (tgt := 878) hx hb dL_law_865 (by decide) (fun c865 => ?_) (fun c865 => ?_)
                                                        · have hl : lv_has ls 25 [(22, .int ((g 6 k) - 1)), (13, .int (((hA lo c e g (0, g) k).1) + 0)), (21, .int (nI (k % 2))), (20, .int 0), (19, .int 0), (18, .int (zo (hd lo e k (c k)))), (17, .int (nI k)), (16, .int (nI (mo (zgP n me lo c e rd tk g) n k))), (15, .int (su (zgP n me lo c e rd tk g) k)), (14, .int (nI (ct (zgP n me lo c e rd tk g) k))), (3, .int (nI tm)), (0, .ref b0), (1, .ref b), (2, .ref o), (5, .int (nI n)), (6, .ref qw), (7, .ref qh), (8, .ref qt), (10, .int rd), (12, .int ((rN n me lo c e (rd, tk, g) 1).2.1 - tk))] := by rw [hhc]; exact hl
                                                          have hl : lv_has ls 25 [(3, .int (nI tm)), (0, .ref b0), (1, .ref b), (2, .ref o), (5, .int (nI n)), (6, .ref qw), (7, .ref qh), (8, .ref qt), (10, .int rd), (12, .int ((rN n me lo c e (rd, tk, g) 1).2.1 - tk)), (13, .int (((hA lo c e g (0, g) k).1) + 0)), (14, .int (nI (ct (zgP n me lo c e rd tk g) k))), (15, .int (su (zgP n me lo c e rd tk g) k)), (16, .int (nI (mo (zgP n me lo c e rd tk g) n k))), (17, .int (nI k)), (18, .int (zo (hd lo e k (c k)))), (22, .int ((g 6 k) - 1))] := lv_sub hl [10, 11, 12, 13, 14, 15, 16, 17, 18, 19, 1, 9, 8, 7, 6, 5, 0] rfl
                                                          refine zlaw_T hfix hK4 hKw hX hb0 hb9 hbs hL hov2 hov3 ck sk hck hsk tm htm n me lo c e rd tk g k (((hA lo c e g (0, g) k).1) + 0) ((g 6 k) - 1) qw qh qt F hI hZ hV hN hn0 hZ1 hV1 hk hFf (zsv_n hk (zkp_K hhc c423 c457).2.1 c865) H lo0 hS hC hW (fun ls hl => ?_) _ hl
                                                          refine lv_iinc (v := (nI (k + 1))) (lv' := [(17, .int (nI (k + 1))), (3, .int (nI tm)), (0, .ref b0), (1, .ref b), (2, .ref o), (5, .int (nI n)), (6, .ref qw), (7, .ref qh), (8, .ref qt), (10, .int rd), (12, .int ((rN n me lo c e (rd, tk, g) 1).2.1 - tk)), (13, .int (((hA lo c e g (0, g) k).1) + 0)), (14, .int (nI (ct (zgP n me lo c e rd tk g) (k + 1)))), (15, .int (su (zgP n me lo c e rd tk g) (k + 1))), (16, .int (nI (mo (zgP n me lo c e rd tk g) n (k + 1))))]) hx hb dL_law_1102 hl (k := 14) rfl (nI_1 _) (by decide) rfl (fun ls hl => ?_)
                                                          refine lv_goto (tgt := 387) hx hb dL_law_1105 (by decide) ?_
                                                          exact ih (k + 1) (by omega) (by omega) _ (rfl) _ (rfl) _ (rfl) _ (rfl) _ (hA_kp (zkp_K hhc c423 c457)) _ (lv_sub hl [0, 14, 13, 12, 11, 1, 2, 3, 4, 5, 6, 7, 8, 9, 10] rfl)
                                                        · refine lv_iconst (v := 0) hx hb dL_law_868 (by decide) ?_
                                                          refine lv_iload hx hb dL_law_869 (lv_at hl 0 rfl) ?_
                                                          refine lv_iconst (v := 1) hx hb dL_law_871 (by decide) ?_
                                                          refine lv_isub hx hb dL_law_872 ?_
                                                          refine va_mmax hx hb (by rw [hml]; exact hl.1.symm) hown hwd9 hwd10 hwd7 (hwd11) (Nat.le_of_ble_eq_true rfl) (Nat.le_of_ble_eq_true rfl) (hck) (hsk) dL_law_873 ?_
                                                          refine z_toi (y := zmax 0 (((g 6 k) - 1) - 1)) rfl ?_
                                                          refine lv_istore (lv' := [(22, .int (zmax 0 (((g 6 k) - 1) - 1))), (13, .int (((hA lo c e g (0, g) k).1) + 0)), (21, .int (nI (k % 2))), (20, .int 0), (19, .int 0), (18, .int (nI o9)), (17, .int (nI k)), (16, .int (nI (mo (zgP n me lo c e rd tk g) n k))), (15, .int (su (zgP n me lo c e rd tk g) k)), (14, .int (nI (ct (zgP n me lo c e rd tk g) k))), (3, .int (nI tm)), (0, .ref b0), (1, .ref b), (2, .ref o), (5, .int (nI n)), (6, .ref qw), (7, .ref qh), (8, .ref qt), (10, .int rd), (12, .int ((rN n me lo c e (rd, tk, g) 1).2.1 - tk))]) hx hb dL_law_876 hl (by decide) rfl (fun ls hl => ?_)
                                                          have hl : lv_has ls 25 [(22, .int (zmax 0 (((g 6 k) - 1) - 1))), (13, .int (((hA lo c e g (0, g) k).1) + 0)), (21, .int (nI (k % 2))), (20, .int 0), (19, .int 0), (18, .int (zo (hd lo e k (c k)))), (17, .int (nI k)), (16, .int (nI (mo (zgP n me lo c e rd tk g) n k))), (15, .int (su (zgP n me lo c e rd tk g) k)), (14, .int (nI (ct (zgP n me lo c e rd tk g) k))), (3, .int (nI tm)), (0, .ref b0), (1, .ref b), (2, .ref o), (5, .int (nI n)), (6, .ref qw), (7, .ref qh), (8, .ref qt), (10, .int rd), (12, .int ((rN n me lo c e (rd, tk, g) 1).2.1 - tk))] := by rw [hhc]; exact hl
                                                          have hl : lv_has ls 25 [(3, .int (nI tm)), (0, .ref b0), (1, .ref b), (2, .ref o), (5, .int (nI n)), (6, .ref qw), (7, .ref qh), (8, .ref qt), (10, .int rd), (12, .int ((rN n me lo c e (rd, tk, g) 1).2.1 - tk)), (13, .int (((hA lo c e g (0, g) k).1) + 0)), (14, .int (nI (ct (zgP n me lo c e rd tk g) k))), (15, .int (su (zgP n me lo c e rd tk g) k)), (16, .int (nI (mo (zgP n me lo c e rd tk g) n k))), (17, .int (nI k)), (18, .int (zo (hd lo e k (c k)))), (22, .int (zmax 0 (((g 6 k) - 1) - 1)))] := lv_sub hl [10, 11, 12, 13, 14, 15, 16, 17, 18, 19, 1, 9, 8, 7, 6, 5, 0] rfl
                                                          refine zlaw_T hfix hK4 hKw hX hb0 hb9 hbs hL hov2 hov3 ck sk hck hsk tm htm n me lo c e rd tk g k (((hA lo c e g (0, g) k).1) + 0) (zmax 0 (((g 6 k) - 1) - 1)) qw qh qt F hI hZ hV hN hn0 hZ1 hV1 hk hFf (zsv_y hk (zkp_K hhc c423 c457).2.1 c865) H lo0 hS hC hW (fun ls hl => ?_) _ hl
                                                          refine lv_iinc (v := (nI (k + 1))) (lv' := [(17, .int (nI (k + 1))), (3, .int (nI tm)), (0, .ref b0), (1, .ref b), (2, .ref o), (5, .int (nI n)), (6, .ref qw), (7, .ref qh), (8, .ref qt), (10, .int rd), (12, .int ((rN n me lo c e (rd, tk, g) 1).2.1 - tk)), (13, .int (((hA lo c e g (0, g) k).1) + 0)), (14, .int (nI (ct (zgP n me lo c e rd tk g) (k + 1)))), (15, .int (su (zgP n me lo c e rd tk g) (k + 1))), (16, .int (nI (mo (zgP n me lo c e rd tk g) n (k + 1))))]) hx hb dL_law_1102 hl (k := 14) rfl (nI_1 _) (by decide) rfl (fun ls hl => ?_)
                                                          refine lv_goto (tgt := 387) hx hb dL_law_1105 (by decide) ?_
                                                          exact ih (k + 1) (by omega) (by omega) _ (rfl) _ (rfl) _ (rfl) _ (rfl) _ (hA_kp (zkp_K hhc c423 c457)) _ (lv_sub hl [0, 14, 13, 12, 11, 1, 2, 3, 4, 5, 6, 7, 8, 9, 10] rfl)
                                                      · exact absurd (by decide) c835
                                                    · exact absurd (by decide) c813
                                                  · have c798 := z_nle (a := 0) (b := o9) c798 (by omega) (by omega)
                                                    omega
                                                · exact absurd (by rw [hGf k (k % 2) 2 (by omega) (by omega) (by omega), show k % 2 = 1 by omega]; exact zkp_th (zkp_K hhc c423 c457) hk (by omega) (by omega)) c791
                                    · exact absurd (by decide) c603
                                  · exact absurd (by rw [hGf k (1 - k % 2) 2 (by omega) (by omega) (by omega), show 1 - k % 2 = 0 by omega]; exact z1_oth hk (by omega) (by omega)) c596
                                · have c572 := z_eq (a := k % 2) (b := 0) c572 (by omega) (by omega)
                                  exact absurd c572 c508
                            · have c540 := z_eq (a := k % 2) (b := 0) c540 (by omega) (by omega)
                              exact absurd c540 c508
                        · have c508 := z_eq (a := k % 2) (b := 0) c508 (by omega) (by omega)
                          refine lv_iconst (v := 1) hx hb dL_law_511 (by decide) ?_
                          refine lv_goto (tgt := 516) hx hb dL_law_512 (by decide) ?_
                          refine lv_iconst (v := 0) hx hb dL_law_516 (by decide) ?_
                          refine z_ki (va_runV (As := [.int (nI k), .int 1, .int 0]) (rest := []) hfix (zcX4_half_k1 l D cI H b n me lo c e ((rN n me lo c e (rd, tk, g) 1).1) ((rN n me lo c e (rd, tk, g) 1).2.1) (zgP n me lo c e rd tk g) k 0 hC hI (by omega) (by omega)) (cwV 3 hts gL_law_X4_half rfl rfl rfl (by decide +kernel) ⟨Nat.le_of_ble_eq_true rfl, Nat.le_of_ble_eq_true rfl⟩) (z_preV hK hK1 hC.1 (ci := 4) (q0 := 0) rfl rfl rfl) rfl rfl hl.1 rfl (lv_room (Nat.le_of_ble_eq_true rfl)) dL_law_517 ⟨by show ck + 0 ≤ 830515; omega, by show sk + 0 ≤ 6609922; omega⟩) ?_
                          refine lv_aload hx hb dL_law_520 (lv_at hl 15 rfl) ?_
                          refine lv_iload hx hb dL_law_522 (lv_at hl 5 rfl) ?_
                          refine z_aald (a := qh) (n := n) (f := (zbf n (zR3 qh))) (j := k) hx hb hK4 hV3.1 0 3 rfl rfl rfl rfl (by omega) (by omega) (zbf_in (by omega)) dL_law_524 ?_
                          have hr21 : va_P D vwCl (zQr cA (zR3 qh k) 2 (zbf 2 (zR2 (zR3 qh k)))) H := (hV3.2 k (by omega)).1
                          refine lv_iconst (v := 1) hx hb dL_law_525 (by decide) ?_
                          refine lv_iload hx hb dL_law_526 (lv_at hl 1 rfl) ?_
                          refine lv_isub hx hb dL_law_528 ?_
                          refine z_toi (y := nI (1 - k % 2)) (pk_sub (a := 1) (by omega)) ?_
                          refine z_aald (a := (zR3 qh k)) (n := 2) (f := (zbf 2 (zR2 (zR3 qh k)))) (j := (1 - k % 2)) hx hb hK4 hr21 0 2 rfl rfl rfl rfl (by omega) (by omega) (zbf_in (by omega)) dL_law_529 ?_
                          have hr22 : va_P D vwCl (zAr cI (zR2 (zR3 qh k) (1 - k % 2)) 3 (G k (1 - k % 2))) H := (hV3.2 k (by omega)).2 (1 - k % 2) (by omega)
                          refine lv_iconst (v := 0) hx hb dL_law_530 (by decide) ?_
                          refine z_iald (a := (zR2 (zR3 qh k) (1 - k % 2))) (n := 3) (f := (G k (1 - k % 2))) (j := 0) hx hb hK hr22 0 0 rfl rfl rfl (by omega) (by omega) dL_law_531 ?_
                          refine lv_icmp_ne (tgt := 599) hx hb dL_law_532 (by decide) (fun c532 => ?_) (fun c532 => ?_)
                          · exact absurd (by rw [hGf k (1 - k % 2) 0 (by omega) (by omega) (by omega), show 1 - k % 2 = 1 by omega]; exact z1_oth hk (by omega) (by omega)) c532
                          · refine lv_aload_n hx hb dL_law_535 rfl (lv_at hl 11 rfl) ?_
                            refine lv_iload hx hb dL_law_536 (lv_at hl 5 rfl) ?_
                            refine lv_iload hx hb dL_law_538 (lv_at hl 1 rfl) ?_
                            refine lv_if_ne (tgt := 547) hx hb dL_law_540 (by decide) (fun c540 => ?_) (fun c540 => ?_)
                            · have c540 := z_ne (a := k % 2) (b := 0) c540 (by omega) (by omega)
                              exact absurd c508 c540
                            · have c540 := z_eq (a := k % 2) (b := 0) c540 (by omega) (by omega)
                              refine lv_iconst (v := 1) hx hb dL_law_543 (by decide) ?_
                              refine lv_goto (tgt := 548) hx hb dL_law_544 (by decide) ?_
                              refine lv_iconst (v := 1) hx hb dL_law_548 (by decide) ?_
                              refine z_ki (va_runV (As := [.int (nI k), .int 1, .int 1]) (rest := []) hfix (zcX4_half_k1 l D cI H b n me lo c e ((rN n me lo c e (rd, tk, g) 1).1) ((rN n me lo c e (rd, tk, g) 1).2.1) (zgP n me lo c e rd tk g) k 1 hC hI (by omega) (by omega)) (cwV 3 hts gL_law_X4_half rfl rfl rfl (by decide +kernel) ⟨Nat.le_of_ble_eq_true rfl, Nat.le_of_ble_eq_true rfl⟩) (z_preV hK hK1 hC.1 (ci := 4) (q0 := 0) rfl rfl rfl) rfl rfl hl.1 rfl (lv_room (Nat.le_of_ble_eq_true rfl)) dL_law_549 ⟨by show ck + 0 ≤ 830515; omega, by show sk + 0 ≤ 6609922; omega⟩) ?_
                              refine lv_aload hx hb dL_law_552 (lv_at hl 15 rfl) ?_
                              refine lv_iload hx hb dL_law_554 (lv_at hl 5 rfl) ?_
                              refine z_aald (a := qh) (n := n) (f := (zbf n (zR3 qh))) (j := k) hx hb hK4 hV3.1 0 3 rfl rfl rfl rfl (by omega) (by omega) (zbf_in (by omega)) dL_law_556 ?_
                              refine lv_iconst (v := 1) hx hb dL_law_557 (by decide) ?_
                              refine lv_iload hx hb dL_law_558 (lv_at hl 1 rfl) ?_
                              refine lv_isub hx hb dL_law_560 ?_
                              refine z_toi (y := nI (1 - k % 2)) (pk_sub (a := 1) (by omega)) ?_
                              refine z_aald (a := (zR3 qh k)) (n := 2) (f := (zbf 2 (zR2 (zR3 qh k)))) (j := (1 - k % 2)) hx hb hK4 hr21 0 2 rfl rfl rfl rfl (by omega) (by omega) (zbf_in (by omega)) dL_law_561 ?_
                              refine lv_iconst (v := 1) hx hb dL_law_562 (by decide) ?_
                              refine z_iald (a := (zR2 (zR3 qh k) (1 - k % 2))) (n := 3) (f := (G k (1 - k % 2))) (j := 1) hx hb hK hr22 0 0 rfl rfl rfl (by omega) (by omega) dL_law_563 ?_
                              refine lv_icmp_ne (tgt := 599) hx hb dL_law_564 (by decide) (fun c564 => ?_) (fun c564 => ?_)
                              · exact absurd (by rw [hGf k (1 - k % 2) 1 (by omega) (by omega) (by omega), show 1 - k % 2 = 1 by omega]; exact z1_oth hk (by omega) (by omega)) c564
                              · refine lv_aload_n hx hb dL_law_567 rfl (lv_at hl 11 rfl) ?_
                                refine lv_iload hx hb dL_law_568 (lv_at hl 5 rfl) ?_
                                refine lv_iload hx hb dL_law_570 (lv_at hl 1 rfl) ?_
                                refine lv_if_ne (tgt := 579) hx hb dL_law_572 (by decide) (fun c572 => ?_) (fun c572 => ?_)
                                · have c572 := z_ne (a := k % 2) (b := 0) c572 (by omega) (by omega)
                                  exact absurd c508 c572
                                · have c572 := z_eq (a := k % 2) (b := 0) c572 (by omega) (by omega)
                                  refine lv_iconst (v := 1) hx hb dL_law_575 (by decide) ?_
                                  refine lv_goto (tgt := 580) hx hb dL_law_576 (by decide) ?_
                                  refine lv_iconst (v := 2) hx hb dL_law_580 (by decide) ?_
                                  refine z_ki (va_runV (As := [.int (nI k), .int 1, .int 2]) (rest := []) hfix (zcX4_half_k1 l D cI H b n me lo c e ((rN n me lo c e (rd, tk, g) 1).1) ((rN n me lo c e (rd, tk, g) 1).2.1) (zgP n me lo c e rd tk g) k 2 hC hI (by omega) (by omega)) (cwV 3 hts gL_law_X4_half rfl rfl rfl (by decide +kernel) ⟨Nat.le_of_ble_eq_true rfl, Nat.le_of_ble_eq_true rfl⟩) (z_preV hK hK1 hC.1 (ci := 4) (q0 := 0) rfl rfl rfl) rfl rfl hl.1 rfl (lv_room (Nat.le_of_ble_eq_true rfl)) dL_law_581 ⟨by show ck + 0 ≤ 830515; omega, by show sk + 0 ≤ 6609922; omega⟩) ?_
                                  refine lv_aload hx hb dL_law_584 (lv_at hl 15 rfl) ?_
                                  refine lv_iload hx hb dL_law_586 (lv_at hl 5 rfl) ?_
                                  refine z_aald (a := qh) (n := n) (f := (zbf n (zR3 qh))) (j := k) hx hb hK4 hV3.1 0 3 rfl rfl rfl rfl (by omega) (by omega) (zbf_in (by omega)) dL_law_588 ?_
                                  refine lv_iconst (v := 1) hx hb dL_law_589 (by decide) ?_
                                  refine lv_iload hx hb dL_law_590 (lv_at hl 1 rfl) ?_
                                  refine lv_isub hx hb dL_law_592 ?_
                                  refine z_toi (y := nI (1 - k % 2)) (pk_sub (a := 1) (by omega)) ?_
                                  refine z_aald (a := (zR3 qh k)) (n := 2) (f := (zbf 2 (zR2 (zR3 qh k)))) (j := (1 - k % 2)) hx hb hK4 hr21 0 2 rfl rfl rfl rfl (by omega) (by omega) (zbf_in (by omega)) dL_law_593 ?_
                                  refine lv_iconst (v := 2) hx hb dL_law_594 (by decide) ?_
                                  refine z_iald (a := (zR2 (zR3 qh k) (1 - k % 2))) (n := 3) (f := (G k (1 - k % 2))) (j := 2) hx hb hK hr22 0 0 rfl rfl rfl (by omega) (by omega) dL_law_595 ?_
                                  refine lv_icmp_eq (tgt := 601) hx hb dL_law_596 (by decide) (fun c596 => ?_) (fun c596 => ?_)
                                  · refine lv_iload hx hb dL_law_601 (lv_at hl 2 rfl) ?_
                                    refine lv_if_eq (tgt := 701) hx hb dL_law_603 (by decide) (fun c603 => ?_) (fun c603 => ?_)
                                    · have c603 := z_eq (a := 0) (b := 0) c603 (by omega) (by omega)
                                      refine lv_aload_n hx hb dL_law_701 rfl (lv_at hl 11 rfl) ?_
                                      refine lv_iload hx hb dL_law_702 (lv_at hl 5 rfl) ?_
                                      refine lv_iload hx hb dL_law_704 (lv_at hl 1 rfl) ?_
                                      refine lv_iconst (v := 1) hx hb dL_law_706 (by decide) ?_
                                      refine lv_icmp_ne (tgt := 714) hx hb dL_law_707 (by decide) (fun c707 => ?_) (fun c707 => ?_)
                                      · have c707 := z_ne (a := k % 2) (b := 1) c707 (by omega) (by omega)
                                        refine lv_iconst (v := 0) hx hb dL_law_714 (by decide) ?_
                                        refine lv_iconst (v := 0) hx hb dL_law_715 (by decide) ?_
                                        refine z_ki (va_runV (As := [.int (nI k), .int 0, .int 0]) (rest := []) hfix (zcX4_half_k0 l D cI H b n me lo c e ((rN n me lo c e (rd, tk, g) 1).1) ((rN n me lo c e (rd, tk, g) 1).2.1) (zgP n me lo c e rd tk g) k 0 hC hI (by omega) (by omega)) (cwV 3 hts gL_law_X4_half rfl rfl rfl (by decide +kernel) ⟨Nat.le_of_ble_eq_true rfl, Nat.le_of_ble_eq_true rfl⟩) (z_preV hK hK1 hC.1 (ci := 4) (q0 := 0) rfl rfl rfl) rfl rfl hl.1 rfl (lv_room (Nat.le_of_ble_eq_true rfl)) dL_law_716 ⟨by show ck + 0 ≤ 830515; omega, by show sk + 0 ≤ 6609922; omega⟩) ?_
                                        refine lv_aload hx hb dL_law_719 (lv_at hl 15 rfl) ?_
                                        refine lv_iload hx hb dL_law_721 (lv_at hl 5 rfl) ?_
                                        refine z_aald (a := qh) (n := n) (f := (zbf n (zR3 qh))) (j := k) hx hb hK4 hV3.1 0 3 rfl rfl rfl rfl (by omega) (by omega) (zbf_in (by omega)) dL_law_723 ?_
                                        refine lv_iload hx hb dL_law_724 (lv_at hl 1 rfl) ?_
                                        refine z_aald (a := (zR3 qh k)) (n := 2) (f := (zbf 2 (zR2 (zR3 qh k)))) (j := (k % 2)) hx hb hK4 hr21 0 2 rfl rfl rfl rfl (by omega) (by omega) (zbf_in (by omega)) dL_law_726 ?_
                                        have hr23 : va_P D vwCl (zAr cI (zR2 (zR3 qh k) (k % 2)) 3 (G k (k % 2))) H := (hV3.2 k (by omega)).2 (k % 2) (by omega)
                                        refine lv_iconst (v := 0) hx hb dL_law_727 (by decide) ?_
                                        refine z_iald (a := (zR2 (zR3 qh k) (k % 2))) (n := 3) (f := (G k (k % 2))) (j := 0) hx hb hK hr23 0 0 rfl rfl rfl (by omega) (by omega) dL_law_728 ?_
                                        refine lv_icmp_ne (tgt := 794) hx hb dL_law_729 (by decide) (fun c729 => ?_) (fun c729 => ?_)
                                        · exact absurd (by rw [hGf k (k % 2) 0 (by omega) (by omega) (by omega), show k % 2 = 0 by omega]; exact zkp_th (zkp_K hhc c423 c457) hk (by omega) (by omega)) c729
                                        · refine lv_aload_n hx hb dL_law_732 rfl (lv_at hl 11 rfl) ?_
                                          refine lv_iload hx hb dL_law_733 (lv_at hl 5 rfl) ?_
                                          refine lv_iload hx hb dL_law_735 (lv_at hl 1 rfl) ?_
                                          refine lv_iconst (v := 1) hx hb dL_law_737 (by decide) ?_
                                          refine lv_icmp_ne (tgt := 745) hx hb dL_law_738 (by decide) (fun c738 => ?_) (fun c738 => ?_)
                                          · have c738 := z_ne (a := k % 2) (b := 1) c738 (by omega) (by omega)
                                            refine lv_iconst (v := 0) hx hb dL_law_745 (by decide) ?_
                                            refine lv_iconst (v := 1) hx hb dL_law_746 (by decide) ?_
                                            refine z_ki (va_runV (As := [.int (nI k), .int 0, .int 1]) (rest := []) hfix (zcX4_half_k0 l D cI H b n me lo c e ((rN n me lo c e (rd, tk, g) 1).1) ((rN n me lo c e (rd, tk, g) 1).2.1) (zgP n me lo c e rd tk g) k 1 hC hI (by omega) (by omega)) (cwV 3 hts gL_law_X4_half rfl rfl rfl (by decide +kernel) ⟨Nat.le_of_ble_eq_true rfl, Nat.le_of_ble_eq_true rfl⟩) (z_preV hK hK1 hC.1 (ci := 4) (q0 := 0) rfl rfl rfl) rfl rfl hl.1 rfl (lv_room (Nat.le_of_ble_eq_true rfl)) dL_law_747 ⟨by show ck + 0 ≤ 830515; omega, by show sk + 0 ≤ 6609922; omega⟩) ?_
                                            refine lv_aload hx hb dL_law_750 (lv_at hl 15 rfl) ?_
                                            refine lv_iload hx hb dL_law_752 (lv_at hl 5 rfl) ?_
                                            refine z_aald (a := qh) (n := n) (f := (zbf n (zR3 qh))) (j := k) hx hb hK4 hV3.1 0 3 rfl rfl rfl rfl (by omega) (by omega) (zbf_in (by omega)) dL_law_754 ?_
                                            refine lv_iload hx hb dL_law_755 (lv_at hl 1 rfl) ?_
                                            refine z_aald (a := (zR3 qh k)) (n := 2) (f := (zbf 2 (zR2 (zR3 qh k)))) (j := (k % 2)) hx hb hK4 hr21 0 2 rfl rfl rfl rfl (by omega) (by omega) (zbf_in (by omega)) dL_law_757 ?_
                                            refine lv_iconst (v := 1) hx hb dL_law_758 (by decide) ?_
                                            refine z_iald (a := (zR2 (zR3 qh k) (k % 2))) (n := 3) (f := (G k (k % 2))) (j := 1) hx hb hK hr23 0 0 rfl rfl rfl (by omega) (by omega) dL_law_759 ?_
                                            refine lv_icmp_ne (tgt := 794) hx hb dL_law_760 (by decide) (fun c760 => ?_) (fun c760 => ?_)
                                            · exact absurd (by rw [hGf k (k % 2) 1 (by omega) (by omega) (by omega), show k % 2 = 0 by omega]; exact zkp_th (zkp_K hhc c423 c457) hk (by omega) (by omega)) c760
                                            · refine lv_aload_n hx hb dL_law_763 rfl (lv_at hl 11 rfl) ?_
                                              refine lv_iload hx hb dL_law_764 (lv_at hl 5 rfl) ?_
                                              refine lv_iload hx hb dL_law_766 (lv_at hl 1 rfl) ?_
                                              refine lv_iconst (v := 1) hx hb dL_law_768 (by decide) ?_
                                              refine lv_icmp_ne (tgt := 776) hx hb dL_law_769 (by decide) (fun c769 => ?_) (fun c769 => ?_)
                                              · have c769 := z_ne (a := k % 2) (b := 1) c769 (by omega) (by omega)
                                                refine lv_iconst (v := 0) hx hb dL_law_776 (by decide) ?_
                                                refine lv_iconst (v := 2) hx hb dL_law_777 (by decide) ?_
                                                refine z_ki (va_runV (As := [.int (nI k), .int 0, .int 2]) (rest := []) hfix (zcX4_half_k0 l D cI H b n me lo c e ((rN n me lo c e (rd, tk, g) 1).1) ((rN n me lo c e (rd, tk, g) 1).2.1) (zgP n me lo c e rd tk g) k 2 hC hI (by omega) (by omega)) (cwV 3 hts gL_law_X4_half rfl rfl rfl (by decide +kernel) ⟨Nat.le_of_ble_eq_true rfl, Nat.le_of_ble_eq_true rfl⟩) (z_preV hK hK1 hC.1 (ci := 4) (q0 := 0) rfl rfl rfl) rfl rfl hl.1 rfl (lv_room (Nat.le_of_ble_eq_true rfl)) dL_law_778 ⟨by show ck + 0 ≤ 830515; omega, by show sk + 0 ≤ 6609922; omega⟩) ?_
                                                refine lv_aload hx hb dL_law_781 (lv_at hl 15 rfl) ?_
                                                refine lv_iload hx hb dL_law_783 (lv_at hl 5 rfl) ?_
                                                refine z_aald (a := qh) (n := n) (f := (zbf n (zR3 qh))) (j := k) hx hb hK4 hV3.1 0 3 rfl rfl rfl rfl (by omega) (by omega) (zbf_in (by omega)) dL_law_785 ?_
                                                refine lv_iload hx hb dL_law_786 (lv_at hl 1 rfl) ?_
                                                refine z_aald (a := (zR3 qh k)) (n := 2) (f := (zbf 2 (zR2 (zR3 qh k)))) (j := (k % 2)) hx hb hK4 hr21 0 2 rfl rfl rfl rfl (by omega) (by omega) (zbf_in (by omega)) dL_law_788 ?_
                                                refine lv_iconst (v := 2) hx hb dL_law_789 (by decide) ?_
                                                refine z_iald (a := (zR2 (zR3 qh k) (k % 2))) (n := 3) (f := (G k (k % 2))) (j := 2) hx hb hK hr23 0 0 rfl rfl rfl (by omega) (by omega) dL_law_790 ?_
                                                refine lv_icmp_eq (tgt := 796) hx hb dL_law_791 (by decide) (fun c791 => ?_) (fun c791 => ?_)
                                                · refine lv_iload hx hb dL_law_796 (lv_at hl 4 rfl) ?_
                                                  refine lv_if_ge (tgt := 811) hx hb dL_law_798 (by decide) (fun c798 => ?_) (fun c798 => ?_)
                                                  · have c798 := z_le (a := 0) (b := o9) c798 (by omega) (by omega)
                                                    refine lv_iload hx hb dL_law_811 (lv_at hl 3 rfl) ?_
                                                    refine lv_if_eq (tgt := 833) hx hb dL_law_813 (by decide) (fun c813 => ?_) (fun c813 => ?_)
                                                    · have c813 := z_eq (a := 0) (b := 0) c813 (by omega) (by omega)
                                                      refine lv_iload hx hb dL_law_833 (lv_at hl 2 rfl) ?_
                                                      refine lv_if_eq (tgt := 842) hx hb dL_law_835 (by decide) (fun c835 => ?_) (fun c835 => ?_)
                                                      · have c835 := z_eq (a := 0) (b := 0) c835 (by omega) (by omega)
                                                        refine lv_aload hx hb dL_law_842 (lv_at hl 14 rfl) ?_
                                                        refine lv_iload hx hb dL_law_844 (lv_at hl 5 rfl) ?_
                                                        refine z_aald (a := qw) (n := n) (f := (zbf n (zR2 qw))) (j := k) hx hb hK4 hW.1 0 2 rfl rfl rfl rfl (by omega) (by omega) (zbf_in (by omega)) dL_law_846 ?_
                                                        refine lv_iconst (v := 1) hx hb dL_law_847 (by decide) ?_
                                                        refine z_iald (a := (zR2 qw k)) (n := 7) (f := (F k)) (j := 1) hx hb hK hr10 0 0 rfl rfl rfl (by omega) (by omega) dL_law_848 ?_
                                                        refine z_toi (y := (g 6 k)) (hFf k 1 (by omega) (by omega)) ?_
                                                        refine lv_iconst (v := 1) hx hb dL_law_849 (by decide) ?_
                                                        refine lv_isub hx hb dL_law_850 ?_
                                                        refine lv_istore (lv' := [(22, .int ((g 6 k) - 1)), (13, .int (((hA lo c e g (0, g) k).1) + 0)), (21, .int (nI (k % 2))), (20, .int 0), (19, .int 0), (18, .int (nI o9)), (17, .int (nI k)), (16, .int (nI (mo (zgP n me lo c e rd tk g) n k))), (15, .int (su (zgP n me lo c e rd tk g) k)), (14, .int (nI (ct (zgP n me lo c e rd tk g) k))), (3, .int (nI tm)), (0, .ref b0), (1, .ref b), (2, .ref o), (5, .int (nI n)), (6, .ref qw), (7, .ref qh), (8, .ref qt), (10, .int rd), (12, .int ((rN n me lo c e (rd, tk, g) 1).2.1 - tk))]) hx hb dL_law_851 hl (by decide) rfl (fun ls hl => ?_)
                                                        refine lv_iload hx hb dL_law_853 (lv_at hl 18 rfl) ?_
                                                        refine lv_aload hx hb dL_law_855 (lv_at hl 15 rfl) ?_
                                                        refine lv_iload hx hb dL_law_857 (lv_at hl 6 rfl) ?_
                                                        refine z_aald (a := qw) (n := n) (f := (zbf n (zR2 qw))) (j := k) hx hb hK4 hW.1 0 2 rfl rfl rfl rfl (by omega) (by omega) (zbf_in (by omega)) dL_law_859 ?_
                                                        refine lv_iconst (v := 2) hx hb dL_law_860 (by decide) ?_
                                                        refine z_iald (a := (zR2 qw k)) (n := 7) (f := (F k)) (j := 2) hx hb hK hr10 0 0 rfl rfl rfl (by omega) (by omega) dL_law_861 ?_
                                                        refine z_toi (y := (me k)) (hFf k 2 (by omega) (by omega)) ?_
                                                        refine lv_iconst (v := 1) hx hb dL_law_862 (by decide) ?_
                                                        refine lv_iadd hx hb dL_law_863 ?_
                                                        refine lv_irem hx hb dL_law_864 (zI_span0 hI hk) ?_
                                                        refine z_toi (y := zrem rd ((me k) + 1)) rfl ?_
                                                        refine lv_if_ne (tgt := 878) hx hb dL_law_865 (by decide) (fun c865 => ?_) (fun c865 => ?_)
                                                        · have hl : lv_has ls 25 [(22, .int ((g 6 k) - 1)), (13, .int (((hA lo c e g (0, g) k).1) + 0)), (21, .int (nI (k % 2))), (20, .int 0), (19, .int 0), (18, .int (zo (hd lo e k (c k)))), (17, .int (nI k)), (16, .int (nI (mo (zgP n me lo c e rd tk g) n k))), (15, .int (su (zgP n me lo c e rd tk g) k)), (14, .int (nI (ct (zgP n me lo c e rd tk g) k))), (3, .int (nI tm)), (0, .ref b0), (1, .ref b), (2, .ref o), (5, .int (nI n)), (6, .ref qw), (7, .ref qh), (8, .ref qt), (10, .int rd), (12, .int ((rN n me lo c e (rd, tk, g) 1).2.1 - tk))] := by rw [hhc]; exact hl
                                                          have hl : lv_has ls 25 [(3, .int (nI tm)), (0, .ref b0), (1, .ref b), (2, .ref o), (5, .int (nI n)), (6, .ref qw), (7, .ref qh), (8, .ref qt), (10, .int rd), (12, .int ((rN n me lo c e (rd, tk, g) 1).2.1 - tk)), (13, .int (((hA lo c e g (0, g) k).1) + 0)), (14, .int (nI (ct (zgP n me lo c e rd tk g) k))), (15, .int (su (zgP n me lo c e rd tk g) k)), (16, .int (nI (mo (zgP n me lo c e rd tk g) n k))), (17, .int (nI k)), (18, .int (zo (hd lo e k (c k)))), (22, .int ((g 6 k) - 1))] := lv_sub hl [10, 11, 12, 13, 14, 15, 16, 17, 18, 19, 1, 9, 8, 7, 6, 5, 0] rfl
                                                          refine zlaw_T hfix hK4 hKw hX hb0 hb9 hbs hL hov2 hov3 ck sk hck hsk tm htm n me lo c e rd tk g k (((hA lo c e g (0, g) k).1) + 0) ((g 6 k) - 1) qw qh qt F hI hZ hV hN hn0 hZ1 hV1 hk hFf (zsv_n hk (zkp_K hhc c423 c457).2.1 c865) H lo0 hS hC hW (fun ls hl => ?_) _ hl
                                                          refine lv_iinc (v := (nI (k + 1))) (lv' := [(17, .int (nI (k + 1))), (3, .int (nI tm)), (0, .ref b0), (1, .ref b), (2, .ref o), (5, .int (nI n)), (6, .ref qw), (7, .ref qh), (8, .ref qt), (10, .int rd), (12, .int ((rN n me lo c e (rd, tk, g) 1).2.1 - tk)), (13, .int (((hA lo c e g (0, g) k).1) + 0)), (14, .int (nI (ct (zgP n me lo c e rd tk g) (k + 1)))), (15, .int (su (zgP n me lo c e rd tk g) (k + 1))), (16, .int (nI (mo (zgP n me lo c e rd tk g) n (k + 1))))]) hx hb dL_law_1102 hl (k := 14) rfl (nI_1 _) (by decide) rfl (fun ls hl => ?_)
                                                          refine lv_goto (tgt := 387) hx hb dL_law_1105 (by decide) ?_
                                                          exact ih (k + 1) (by omega) (by omega) _ (rfl) _ (rfl) _ (rfl) _ (rfl) _ (hA_kp (zkp_K hhc c423 c457)) _ (lv_sub hl [0, 14, 13, 12, 11, 1, 2, 3, 4, 5, 6, 7, 8, 9, 10] rfl)
                                                        · refine lv_iconst (v := 0) hx hb dL_law_868 (by decide) ?_
                                                          refine lv_iload hx hb dL_law_869 (lv_at hl 0 rfl) ?_
                                                          refine lv_iconst (v := 1) hx hb dL_law_871 (by decide) ?_
                                                          refine lv_isub hx hb dL_law_872 ?_
                                                          refine va_mmax hx hb (by rw [hml]; exact hl.1.symm) hown hwd9 hwd10 hwd7 (hwd11) (Nat.le_of_ble_eq_true rfl) (Nat.le_of_ble_eq_true rfl) (hck) (hsk) dL_law_873 ?_
                                                          refine z_toi (y := zmax 0 (((g 6 k) - 1) - 1)) rfl ?_
                                                          refine lv_istore (lv' := [(22, .int (zmax 0 (((g 6 k) - 1) - 1))), (13, .int (((hA lo c e g (0, g) k).1) + 0)), (21, .int (nI (k % 2))), (20, .int 0), (19, .int 0), (18, .int (nI o9)), (17, .int (nI k)), (16, .int (nI (mo (zgP n me lo c e rd tk g) n k))), (15, .int (su (zgP n me lo c e rd tk g) k)), (14, .int (nI (ct (zgP n me lo c e rd tk g) k))), (3, .int (nI tm)), (0, .ref b0), (1, .ref b), (2, .ref o), (5, .int (nI n)), (6, .ref qw), (7, .ref qh), (8, .ref qt), (10, .int rd), (12, .int ((rN n me lo c e (rd, tk, g) 1).2.1 - tk))]) hx hb dL_law_876 hl (by decide) rfl (fun ls hl => ?_)
                                                          have hl : lv_has ls 25 [(22, .int (zmax 0 (((g 6 k) - 1) - 1))), (13, .int (((hA lo c e g (0, g) k).1) + 0)), (21, .int (nI (k % 2))), (20, .int 0), (19, .int 0), (18, .int (zo (hd lo e k (c k)))), (17, .int (nI k)), (16, .int (nI (mo (zgP n me lo c e rd tk g) n k))), (15, .int (su (zgP n me lo c e rd tk g) k)), (14, .int (nI (ct (zgP n me lo c e rd tk g) k))), (3, .int (nI tm)), (0, .ref b0), (1, .ref b), (2, .ref o), (5, .int (nI n)), (6, .ref qw), (7, .ref qh), (8, .ref qt), (10, .int rd), (12, .int ((rN n me lo c e (rd, tk, g) 1).2.1 - tk))] := by rw [hhc]; exact hl
                                                          have hl : lv_has ls 25 [(3, .int (nI tm)), (0, .ref b0), (1, .ref b), (2, .ref o), (5, .int (nI n)), (6, .ref qw), (7, .ref qh), (8, .ref qt), (10, .int rd), (12, .int ((rN n me lo c e (rd, tk, g) 1).2.1 - tk)), (13, .int (((hA lo c e g (0, g) k).1) + 0)), (14, .int (nI (ct (zgP n me lo c e rd tk g) k))), (15, .int (su (zgP n me lo c e rd tk g) k)), (16, .int (nI (mo (zgP n me lo c e rd tk g) n k))), (17, .int (nI k)), (18, .int (zo (hd lo e k (c k)))), (22, .int (zmax 0 (((g 6 k) - 1) - 1)))] := lv_sub hl [10, 11, 12, 13, 14, 15, 16, 17, 18, 19, 1, 9, 8, 7, 6, 5, 0] rfl
                                                          refine zlaw_T hfix hK4 hKw hX hb0 hb9 hbs hL hov2 hov3 ck sk hck hsk tm htm n me lo c e rd tk g k (((hA lo c e g (0, g) k).1) + 0) (zmax 0 (((g 6 k) - 1) - 1)) qw qh qt F hI hZ hV hN hn0 hZ1 hV1 hk hFf (zsv_y hk (zkp_K hhc c423 c457).2.1 c865) H lo0 hS hC hW (fun ls hl => ?_) _ hl
                                                          refine lv_iinc (v := (nI (k + 1))) (lv' := [(17, .int (nI (k + 1))), (3, .int (nI tm)), (0, .ref b0), (1, .ref b), (2, .ref o), (5, .int (nI n)), (6, .ref qw), (7, .ref qh), (8, .ref qt), (10, .int rd), (12, .int ((rN n me lo c e (rd, tk, g) 1).2.1 - tk)), (13, .int (((hA lo c e g (0, g) k).1) + 0)), (14, .int (nI (ct (zgP n me lo c e rd tk g) (k + 1)))), (15, .int (su (zgP n me lo c e rd tk g) (k + 1))), (16, .int (nI (mo (zgP n me lo c e rd tk g) n (k + 1))))]) hx hb dL_law_1102 hl (k := 14) rfl (nI_1 _) (by decide) rfl (fun ls hl => ?_)
                                                          refine lv_goto (tgt := 387) hx hb dL_law_1105 (by decide) ?_
                                                          exact ih (k + 1) (by omega) (by omega) _ (rfl) _ (rfl) _ (rfl) _ (rfl) _ (hA_kp (zkp_K hhc c423 c457)) _ (lv_sub hl [0, 14, 13, 12, 11, 1, 2, 3, 4, 5, 6, 7, 8, 9, 10] rfl)
                                                      · exact absurd (by decide) c835
                                                    · exact absurd (by decide) c813
                                                  · have c798 := z_nle (a := 0) (b := o9) c798 (by omega) (by omega)
                                                    omega
                                                · exact absurd (by rw [hGf k (k % 2) 2 (by omega) (by omega) (by omega), show k % 2 = 0 by omega]; exact zkp_th (zkp_K hhc c423 c457) hk (by omega) (by omega)) c791
                                              · have c769 := z_eq (a := k % 2) (b := 1) c769 (by omega) (by omega)
                                                omega
                                          · have c738 := z_eq (a := k % 2) (b := 1) c738 (by omega) (by omega)
                                            omega
                                      · have c707 := z_eq (a := k % 2) (b := 1) c707 (by omega) (by omega)
                                        omega
                                    · exact absurd (by decide) c603
                                  · exact absurd (by rw [hGf k (1 - k % 2) 2 (by omega) (by omega) (by omega), show 1 - k % 2 = 1 by omega]; exact z1_oth hk (by omega) (by omega)) c596
                    · exact absurd (by decide) c477
                  · refine lv_iconst (v := 1) hx hb dL_law_460 (by decide) ?_
                    refine lv_goto (tgt := 465) hx hb dL_law_461 (by decide) ?_
                    refine lv_istore (lv' := [(20, .int 1), (19, .int 0), (18, .int (nI o9)), (17, .int (nI k)), (16, .int (nI (mo (zgP n me lo c e rd tk g) n k))), (15, .int (su (zgP n me lo c e rd tk g) k)), (14, .int (nI (ct (zgP n me lo c e rd tk g) k))), (13, .int ((hA lo c e g (0, g) k).1)), (3, .int (nI tm)), (0, .ref b0), (1, .ref b), (2, .ref o), (5, .int (nI n)), (6, .ref qw), (7, .ref qh), (8, .ref qt), (10, .int rd), (12, .int ((rN n me lo c e (rd, tk, g) 1).2.1 - tk))]) hx hb dL_law_465 hl (by decide) rfl (fun ls hl => ?_)
                    refine lv_iload hx hb dL_law_467 (lv_at hl 3 rfl) ?_
                    refine lv_iconst (v := 2) hx hb dL_law_469 (by decide) ?_
                    refine lv_irem hx hb dL_law_470 (by decide) ?_
                    refine z_toi (y := zrem (nI k) 2) rfl ?_
                    refine z_toi (y := nI (k % 2)) (zrem2 k (by omega)) ?_
                    refine lv_istore (lv' := [(21, .int (nI (k % 2))), (20, .int 1), (19, .int 0), (18, .int (nI o9)), (17, .int (nI k)), (16, .int (nI (mo (zgP n me lo c e rd tk g) n k))), (15, .int (su (zgP n me lo c e rd tk g) k)), (14, .int (nI (ct (zgP n me lo c e rd tk g) k))), (13, .int ((hA lo c e g (0, g) k).1)), (3, .int (nI tm)), (0, .ref b0), (1, .ref b), (2, .ref o), (5, .int (nI n)), (6, .ref qw), (7, .ref qh), (8, .ref qt), (10, .int rd), (12, .int ((rN n me lo c e (rd, tk, g) 1).2.1 - tk))]) hx hb dL_law_471 hl (by decide) rfl (fun ls hl => ?_)
                    refine lv_iload hx hb dL_law_473 (lv_at hl 8 rfl) ?_
                    refine lv_iload hx hb dL_law_475 (lv_at hl 1 rfl) ?_
                    refine lv_if_eq (tgt := 484) hx hb dL_law_477 (by decide) (fun c477 => ?_) (fun c477 => ?_)
                    · exact absurd c477 (by decide)
                    · have c477 := z_ne (a := 1) (b := 0) c477 (by omega) (by omega)
                      refine lv_iconst (v := 1) hx hb dL_law_480 (by decide) ?_
                      refine lv_goto (tgt := 485) hx hb dL_law_481 (by decide) ?_
                      refine lv_iadd hx hb dL_law_485 ?_
                      refine lv_istore (lv' := [(13, .int (((hA lo c e g (0, g) k).1) + 1)), (21, .int (nI (k % 2))), (20, .int 1), (19, .int 0), (18, .int (nI o9)), (17, .int (nI k)), (16, .int (nI (mo (zgP n me lo c e rd tk g) n k))), (15, .int (su (zgP n me lo c e rd tk g) k)), (14, .int (nI (ct (zgP n me lo c e rd tk g) k))), (3, .int (nI tm)), (0, .ref b0), (1, .ref b), (2, .ref o), (5, .int (nI n)), (6, .ref qw), (7, .ref qh), (8, .ref qt), (10, .int rd), (12, .int ((rN n me lo c e (rd, tk, g) 1).2.1 - tk))]) hx hb dL_law_486 hl (by decide) rfl (fun ls hl => ?_)
                      refine lv_aload_n hx hb dL_law_488 rfl (lv_at hl 11 rfl) ?_
                      refine lv_iload hx hb dL_law_489 (lv_at hl 5 rfl) ?_
                      refine lv_iconst (v := 0) hx hb dL_law_491 (by decide) ?_
                      refine z_ki (va_runV (As := [.int (nI k), .int 0]) (rest := []) hfix (zcX4_parrot_k l D cI H b n me lo c e ((rN n me lo c e (rd, tk, g) 1).1) ((rN n me lo c e (rd, tk, g) 1).2.1) (zgP n me lo c e rd tk g) k 0 hC hI (by omega) (by omega)) (cwV 2 hts gL_law_X4_parrot rfl rfl rfl (by decide +kernel) ⟨Nat.le_of_ble_eq_true rfl, Nat.le_of_ble_eq_true rfl⟩) (z_preV hK hK1 hC.1 (ci := 4) (q0 := 0) rfl rfl rfl) rfl rfl hl.1 rfl (lv_room (Nat.le_of_ble_eq_true rfl)) dL_law_492 ⟨by show ck + 0 ≤ 830515; omega, by show sk + 0 ≤ 6609922; omega⟩) ?_
                      refine lv_aload hx hb dL_law_495 (lv_at hl 16 rfl) ?_
                      refine lv_iload hx hb dL_law_497 (lv_at hl 5 rfl) ?_
                      refine z_iald (a := qt) (n := n) (f := T) (j := k) hx hb hK hT 0 0 rfl rfl rfl (by omega) (by omega) dL_law_499 ?_
                      refine lv_icmp_ne (tgt := 599) hx hb dL_law_500 (by decide) (fun c500 => ?_) (fun c500 => ?_)
                      · exact absurd (hTf k (by omega)).symm c500
                      · refine lv_aload_n hx hb dL_law_503 rfl (lv_at hl 11 rfl) ?_
                        refine lv_iload hx hb dL_law_504 (lv_at hl 5 rfl) ?_
                        refine lv_iload hx hb dL_law_506 (lv_at hl 1 rfl) ?_
                        refine lv_if_ne (tgt := 515) hx hb dL_law_508 (by decide) (fun c508 => ?_) (fun c508 => ?_)
                        · have c508 := z_ne (a := k % 2) (b := 0) c508 (by omega) (by omega)
                          refine lv_iconst (v := 0) hx hb dL_law_515 (by decide) ?_
                          refine lv_iconst (v := 0) hx hb dL_law_516 (by decide) ?_
                          refine z_ki (va_runV (As := [.int (nI k), .int 0, .int 0]) (rest := []) hfix (zcX4_half_k0 l D cI H b n me lo c e ((rN n me lo c e (rd, tk, g) 1).1) ((rN n me lo c e (rd, tk, g) 1).2.1) (zgP n me lo c e rd tk g) k 0 hC hI (by omega) (by omega)) (cwV 3 hts gL_law_X4_half rfl rfl rfl (by decide +kernel) ⟨Nat.le_of_ble_eq_true rfl, Nat.le_of_ble_eq_true rfl⟩) (z_preV hK hK1 hC.1 (ci := 4) (q0 := 0) rfl rfl rfl) rfl rfl hl.1 rfl (lv_room (Nat.le_of_ble_eq_true rfl)) dL_law_517 ⟨by show ck + 0 ≤ 830515; omega, by show sk + 0 ≤ 6609922; omega⟩) ?_
                          refine lv_aload hx hb dL_law_520 (lv_at hl 15 rfl) ?_
                          refine lv_iload hx hb dL_law_522 (lv_at hl 5 rfl) ?_
                          refine z_aald (a := qh) (n := n) (f := (zbf n (zR3 qh))) (j := k) hx hb hK4 hV3.1 0 3 rfl rfl rfl rfl (by omega) (by omega) (zbf_in (by omega)) dL_law_524 ?_
                          have hr24 : va_P D vwCl (zQr cA (zR3 qh k) 2 (zbf 2 (zR2 (zR3 qh k)))) H := (hV3.2 k (by omega)).1
                          refine lv_iconst (v := 1) hx hb dL_law_525 (by decide) ?_
                          refine lv_iload hx hb dL_law_526 (lv_at hl 1 rfl) ?_
                          refine lv_isub hx hb dL_law_528 ?_
                          refine z_toi (y := nI (1 - k % 2)) (pk_sub (a := 1) (by omega)) ?_
                          refine z_aald (a := (zR3 qh k)) (n := 2) (f := (zbf 2 (zR2 (zR3 qh k)))) (j := (1 - k % 2)) hx hb hK4 hr24 0 2 rfl rfl rfl rfl (by omega) (by omega) (zbf_in (by omega)) dL_law_529 ?_
                          have hr25 : va_P D vwCl (zAr cI (zR2 (zR3 qh k) (1 - k % 2)) 3 (G k (1 - k % 2))) H := (hV3.2 k (by omega)).2 (1 - k % 2) (by omega)
                          refine lv_iconst (v := 0) hx hb dL_law_530 (by decide) ?_
                          refine z_iald (a := (zR2 (zR3 qh k) (1 - k % 2))) (n := 3) (f := (G k (1 - k % 2))) (j := 0) hx hb hK hr25 0 0 rfl rfl rfl (by omega) (by omega) dL_law_531 ?_
                          refine lv_icmp_ne (tgt := 599) hx hb dL_law_532 (by decide) (fun c532 => ?_) (fun c532 => ?_)
                          · exact absurd (by rw [hGf k (1 - k % 2) 0 (by omega) (by omega) (by omega), show 1 - k % 2 = 0 by omega]; exact z1_oth hk (by omega) (by omega)) c532
                          · refine lv_aload_n hx hb dL_law_535 rfl (lv_at hl 11 rfl) ?_
                            refine lv_iload hx hb dL_law_536 (lv_at hl 5 rfl) ?_
                            refine lv_iload hx hb dL_law_538 (lv_at hl 1 rfl) ?_
                            refine lv_if_ne (tgt := 547) hx hb dL_law_540 (by decide) (fun c540 => ?_) (fun c540 => ?_)
                            · have c540 := z_ne (a := k % 2) (b := 0) c540 (by omega) (by omega)
                              refine lv_iconst (v := 0) hx hb dL_law_547 (by decide) ?_
                              refine lv_iconst (v := 1) hx hb dL_law_548 (by decide) ?_
                              refine z_ki (va_runV (As := [.int (nI k), .int 0, .int 1]) (rest := []) hfix (zcX4_half_k0 l D cI H b n me lo c e ((rN n me lo c e (rd, tk, g) 1).1) ((rN n me lo c e (rd, tk, g) 1).2.1) (zgP n me lo c e rd tk g) k 1 hC hI (by omega) (by omega)) (cwV 3 hts gL_law_X4_half rfl rfl rfl (by decide +kernel) ⟨Nat.le_of_ble_eq_true rfl, Nat.le_of_ble_eq_true rfl⟩) (z_preV hK hK1 hC.1 (ci := 4) (q0 := 0) rfl rfl rfl) rfl rfl hl.1 rfl (lv_room (Nat.le_of_ble_eq_true rfl)) dL_law_549 ⟨by show ck + 0 ≤ 830515; omega, by show sk + 0 ≤ 6609922; omega⟩) ?_
                              refine lv_aload hx hb dL_law_552 (lv_at hl 15 rfl) ?_
                              refine lv_iload hx hb dL_law_554 (lv_at hl 5 rfl) ?_
                              refine z_aald (a := qh) (n := n) (f := (zbf n (zR3 qh))) (j := k) hx hb hK4 hV3.1 0 3 rfl rfl rfl rfl (by omega) (by omega) (zbf_in (by omega)) dL_law_556 ?_
                              refine lv_iconst (v := 1) hx hb dL_law_557 (by decide) ?_
                              refine lv_iload hx hb dL_law_558 (lv_at hl 1 rfl) ?_
                              refine lv_isub hx hb dL_law_560 ?_
                              refine z_toi (y := nI (1 - k % 2)) (pk_sub (a := 1) (by omega)) ?_
                              refine z_aald (a := (zR3 qh k)) (n := 2) (f := (zbf 2 (zR2 (zR3 qh k)))) (j := (1 - k % 2)) hx hb hK4 hr24 0 2 rfl rfl rfl rfl (by omega) (by omega) (zbf_in (by omega)) dL_law_561 ?_
                              refine lv_iconst (v := 1) hx hb dL_law_562 (by decide) ?_
                              refine z_iald (a := (zR2 (zR3 qh k) (1 - k % 2))) (n := 3) (f := (G k (1 - k % 2))) (j := 1) hx hb hK hr25 0 0 rfl rfl rfl (by omega) (by omega) dL_law_563 ?_
                              refine lv_icmp_ne (tgt := 599) hx hb dL_law_564 (by decide) (fun c564 => ?_) (fun c564 => ?_)
                              · exact absurd (by rw [hGf k (1 - k % 2) 1 (by omega) (by omega) (by omega), show 1 - k % 2 = 0 by omega]; exact z1_oth hk (by omega) (by omega)) c564
                              · refine lv_aload_n hx hb dL_law_567 rfl (lv_at hl 11 rfl) ?_
                                refine lv_iload hx hb dL_law_568 (lv_at hl 5 rfl) ?_
                                refine lv_iload hx hb dL_law_570 (lv_at hl 1 rfl) ?_
                                refine lv_if_ne (tgt := 579) hx hb dL_law_572 (by decide) (fun c572 => ?_) (fun c572 => ?_)
                                · have c572 := z_ne (a := k % 2) (b := 0) c572 (by omega) (by omega)
                                  refine lv_iconst (v := 0) hx hb dL_law_579 (by decide) ?_
                                  refine lv_iconst (v := 2) hx hb dL_law_580 (by decide) ?_
                                  refine z_ki (va_runV (As := [.int (nI k), .int 0, .int 2]) (rest := []) hfix (zcX4_half_k0 l D cI H b n me lo c e ((rN n me lo c e (rd, tk, g) 1).1) ((rN n me lo c e (rd, tk, g) 1).2.1) (zgP n me lo c e rd tk g) k 2 hC hI (by omega) (by omega)) (cwV 3 hts gL_law_X4_half rfl rfl rfl (by decide +kernel) ⟨Nat.le_of_ble_eq_true rfl, Nat.le_of_ble_eq_true rfl⟩) (z_preV hK hK1 hC.1 (ci := 4) (q0 := 0) rfl rfl rfl) rfl rfl hl.1 rfl (lv_room (Nat.le_of_ble_eq_true rfl)) dL_law_581 ⟨by show ck + 0 ≤ 830515; omega, by show sk + 0 ≤ 6609922; omega⟩) ?_
                                  refine lv_aload hx hb dL_law_584 (lv_at hl 15 rfl) ?_
                                  refine lv_iload hx hb dL_law_586 (lv_at hl 5 rfl) ?_
                                  refine z_aald (a := qh) (n := n) (f := (zbf n (zR3 qh))) (j := k) hx hb hK4 hV3.1 0 3 rfl rfl rfl rfl (by omega) (by omega) (zbf_in (by omega)) dL_law_588 ?_
                                  refine lv_iconst (v := 1) hx hb dL_law_589 (by decide) ?_
                                  refine lv_iload hx hb dL_law_590 (lv_at hl 1 rfl) ?_
                                  refine lv_isub hx hb dL_law_592 ?_
                                  refine z_toi (y := nI (1 - k % 2)) (pk_sub (a := 1) (by omega)) ?_
                                  refine z_aald (a := (zR3 qh k)) (n := 2) (f := (zbf 2 (zR2 (zR3 qh k)))) (j := (1 - k % 2)) hx hb hK4 hr24 0 2 rfl rfl rfl rfl (by omega) (by omega) (zbf_in (by omega)) dL_law_593 ?_
                                  refine lv_iconst (v := 2) hx hb dL_law_594 (by decide) ?_
                                  refine z_iald (a := (zR2 (zR3 qh k) (1 - k % 2))) (n := 3) (f := (G k (1 - k % 2))) (j := 2) hx hb hK hr25 0 0 rfl rfl rfl (by omega) (by omega) dL_law_595 ?_
                                  refine lv_icmp_eq (tgt := 601) hx hb dL_law_596 (by decide) (fun c596 => ?_) (fun c596 => ?_)
                                  · refine lv_iload hx hb dL_law_601 (lv_at hl 2 rfl) ?_
                                    refine lv_if_eq (tgt := 701) hx hb dL_law_603 (by decide) (fun c603 => ?_) (fun c603 => ?_)
                                    · exact absurd c603 (by decide)
                                    · have c603 := z_ne (a := 1) (b := 0) c603 (by omega) (by omega)
                                      refine lv_aload_n hx hb dL_law_606 rfl (lv_at hl 11 rfl) ?_
                                      refine lv_iload hx hb dL_law_607 (lv_at hl 5 rfl) ?_
                                      refine lv_iload hx hb dL_law_609 (lv_at hl 1 rfl) ?_
                                      refine lv_iconst (v := 1) hx hb dL_law_611 (by decide) ?_
                                      refine lv_icmp_ne (tgt := 619) hx hb dL_law_612 (by decide) (fun c612 => ?_) (fun c612 => ?_)
                                      · have c612 := z_ne (a := k % 2) (b := 1) c612 (by omega) (by omega)
                                        omega
                                      · have c612 := z_eq (a := k % 2) (b := 1) c612 (by omega) (by omega)
                                        refine lv_iconst (v := 1) hx hb dL_law_615 (by decide) ?_
                                        refine lv_goto (tgt := 620) hx hb dL_law_616 (by decide) ?_
                                        refine lv_iconst (v := 0) hx hb dL_law_620 (by decide) ?_
                                        refine z_ki (va_runV (As := [.int (nI k), .int 1, .int 0]) (rest := []) hfix (zcX4_half_k1 l D cI H b n me lo c e ((rN n me lo c e (rd, tk, g) 1).1) ((rN n me lo c e (rd, tk, g) 1).2.1) (zgP n me lo c e rd tk g) k 0 hC hI (by omega) (by omega)) (cwV 3 hts gL_law_X4_half rfl rfl rfl (by decide +kernel) ⟨Nat.le_of_ble_eq_true rfl, Nat.le_of_ble_eq_true rfl⟩) (z_preV hK hK1 hC.1 (ci := 4) (q0 := 0) rfl rfl rfl) rfl rfl hl.1 rfl (lv_room (Nat.le_of_ble_eq_true rfl)) dL_law_621 ⟨by show ck + 0 ≤ 830515; omega, by show sk + 0 ≤ 6609922; omega⟩) ?_
                                        refine lv_aload hx hb dL_law_624 (lv_at hl 15 rfl) ?_
                                        refine lv_iload hx hb dL_law_626 (lv_at hl 4 rfl) ?_
                                        refine z_aald (a := qh) (n := n) (f := (zbf n (zR3 qh))) (j := o9) hx hb hK4 hV3.1 0 3 rfl rfl rfl rfl (by omega) (by omega) (zbf_in (by omega)) dL_law_628 ?_
                                        have hr26 : va_P D vwCl (zQr cA (zR3 qh o9) 2 (zbf 2 (zR2 (zR3 qh o9)))) H := (hV3.2 o9 (by omega)).1
                                        refine lv_iload hx hb dL_law_629 (lv_at hl 1 rfl) ?_
                                        refine z_aald (a := (zR3 qh o9)) (n := 2) (f := (zbf 2 (zR2 (zR3 qh o9)))) (j := (k % 2)) hx hb hK4 hr26 0 2 rfl rfl rfl rfl (by omega) (by omega) (zbf_in (by omega)) dL_law_631 ?_
                                        have hr27 : va_P D vwCl (zAr cI (zR2 (zR3 qh o9) (k % 2)) 3 (G o9 (k % 2))) H := (hV3.2 o9 (by omega)).2 (k % 2) (by omega)
                                        refine lv_iconst (v := 0) hx hb dL_law_632 (by decide) ?_
                                        refine z_iald (a := (zR2 (zR3 qh o9) (k % 2))) (n := 3) (f := (G o9 (k % 2))) (j := 0) hx hb hK hr27 0 0 rfl rfl rfl (by omega) (by omega) dL_law_633 ?_
                                        refine lv_icmp_ne (tgt := 794) hx hb dL_law_634 (by decide) (fun c634 => ?_) (fun c634 => ?_)
                                        · exact absurd (by rw [hGf o9 (k % 2) 0 ho9 (by omega) (by omega), show k % 2 = 1 by omega]; exact z1_T0 hhc c423 c457 hk (by omega)) c634
                                        · refine lv_aload_n hx hb dL_law_637 rfl (lv_at hl 11 rfl) ?_
                                          refine lv_iload hx hb dL_law_638 (lv_at hl 5 rfl) ?_
                                          refine lv_iload hx hb dL_law_640 (lv_at hl 1 rfl) ?_
                                          refine lv_iconst (v := 1) hx hb dL_law_642 (by decide) ?_
                                          refine lv_icmp_ne (tgt := 650) hx hb dL_law_643 (by decide) (fun c643 => ?_) (fun c643 => ?_)
                                          · have c643 := z_ne (a := k % 2) (b := 1) c643 (by omega) (by omega)
                                            omega
                                          · have c643 := z_eq (a := k % 2) (b := 1) c643 (by omega) (by omega)
                                            refine lv_iconst (v := 1) hx hb dL_law_646 (by decide) ?_
                                            refine lv_goto (tgt := 651) hx hb dL_law_647 (by decide) ?_
                                            refine lv_iconst (v := 1) hx hb dL_law_651 (by decide) ?_
                                            refine z_ki (va_runV (As := [.int (nI k), .int 1, .int 1]) (rest := []) hfix (zcX4_half_k1 l D cI H b n me lo c e ((rN n me lo c e (rd, tk, g) 1).1) ((rN n me lo c e (rd, tk, g) 1).2.1) (zgP n me lo c e rd tk g) k 1 hC hI (by omega) (by omega)) (cwV 3 hts gL_law_X4_half rfl rfl rfl (by decide +kernel) ⟨Nat.le_of_ble_eq_true rfl, Nat.le_of_ble_eq_true rfl⟩) (z_preV hK hK1 hC.1 (ci := 4) (q0 := 0) rfl rfl rfl) rfl rfl hl.1 rfl (lv_room (Nat.le_of_ble_eq_true rfl)) dL_law_652 ⟨by show ck + 0 ≤ 830515; omega, by show sk + 0 ≤ 6609922; omega⟩) ?_
                                            refine lv_iload hx hb dL_law_655 (lv_at hl 4 rfl) ?_
                                            refine lv_icmp_ne (tgt := 794) hx hb dL_law_657 (by decide) (fun c657 => ?_) (fun c657 => ?_)
                                            · exact absurd (z1_T1 hhc c423 c457 hk (by omega)) c657
                                            · refine lv_aload_n hx hb dL_law_660 rfl (lv_at hl 11 rfl) ?_
                                              refine lv_iload hx hb dL_law_661 (lv_at hl 5 rfl) ?_
                                              refine lv_iload hx hb dL_law_663 (lv_at hl 1 rfl) ?_
                                              refine lv_iconst (v := 1) hx hb dL_law_665 (by decide) ?_
                                              refine lv_icmp_ne (tgt := 673) hx hb dL_law_666 (by decide) (fun c666 => ?_) (fun c666 => ?_)
                                              · have c666 := z_ne (a := k % 2) (b := 1) c666 (by omega) (by omega)
                                                omega
                                              · have c666 := z_eq (a := k % 2) (b := 1) c666 (by omega) (by omega)
                                                refine lv_iconst (v := 1) hx hb dL_law_669 (by decide) ?_
                                                refine lv_goto (tgt := 674) hx hb dL_law_670 (by decide) ?_
                                                refine lv_iconst (v := 2) hx hb dL_law_674 (by decide) ?_
                                                refine z_ki (va_runV (As := [.int (nI k), .int 1, .int 2]) (rest := []) hfix (zcX4_half_k1 l D cI H b n me lo c e ((rN n me lo c e (rd, tk, g) 1).1) ((rN n me lo c e (rd, tk, g) 1).2.1) (zgP n me lo c e rd tk g) k 2 hC hI (by omega) (by omega)) (cwV 3 hts gL_law_X4_half rfl rfl rfl (by decide +kernel) ⟨Nat.le_of_ble_eq_true rfl, Nat.le_of_ble_eq_true rfl⟩) (z_preV hK hK1 hC.1 (ci := 4) (q0 := 0) rfl rfl rfl) rfl rfl hl.1 rfl (lv_room (Nat.le_of_ble_eq_true rfl)) dL_law_675 ⟨by show ck + 0 ≤ 830515; omega, by show sk + 0 ≤ 6609922; omega⟩) ?_
                                                refine lv_bipush (v := 99) hx hb dL_law_678 (by decide) ?_
                                                refine lv_aload hx hb dL_law_680 (lv_at hl 15 rfl) ?_
                                                refine lv_iload hx hb dL_law_682 (lv_at hl 4 rfl) ?_
                                                refine z_aald (a := qh) (n := n) (f := (zbf n (zR3 qh))) (j := o9) hx hb hK4 hV3.1 0 3 rfl rfl rfl rfl (by omega) (by omega) (zbf_in (by omega)) dL_law_684 ?_
                                                refine lv_iload hx hb dL_law_685 (lv_at hl 1 rfl) ?_
                                                refine z_aald (a := (zR3 qh o9)) (n := 2) (f := (zbf 2 (zR2 (zR3 qh o9)))) (j := (k % 2)) hx hb hK4 hr26 0 2 rfl rfl rfl rfl (by omega) (by omega) (zbf_in (by omega)) dL_law_687 ?_
                                                refine lv_iconst (v := 2) hx hb dL_law_688 (by decide) ?_
                                                refine z_iald (a := (zR2 (zR3 qh o9) (k % 2))) (n := 3) (f := (G o9 (k % 2))) (j := 2) hx hb hK hr27 0 0 rfl rfl rfl (by omega) (by omega) dL_law_689 ?_
                                                refine lv_iconst (v := 1) hx hb dL_law_690 (by decide) ?_
                                                refine lv_iadd hx hb dL_law_691 ?_
                                                refine va_mmin hx hb (by rw [hml]; exact hl.1.symm) hown hwd5 hwd6 hwd7 (hwd8) (Nat.le_of_ble_eq_true rfl) (Nat.le_of_ble_eq_true rfl) (hck) (hsk) dL_law_692 ?_
                                                refine z_toi (y := zmin 99 (((G o9 (k % 2)) 2) + 1)) rfl ?_
                                                refine lv_icmp_eq (tgt := 796) hx hb dL_law_695 (by decide) (fun c695 => ?_) (fun c695 => ?_)
                                                · refine lv_iload hx hb dL_law_796 (lv_at hl 4 rfl) ?_
                                                  refine lv_if_ge (tgt := 811) hx hb dL_law_798 (by decide) (fun c798 => ?_) (fun c798 => ?_)
                                                  · have c798 := z_le (a := 0) (b := o9) c798 (by omega) (by omega)
                                                    refine lv_iload hx hb dL_law_811 (lv_at hl 3 rfl) ?_
                                                    refine lv_if_eq (tgt := 833) hx hb dL_law_813 (by decide) (fun c813 => ?_) (fun c813 => ?_)
                                                    · have c813 := z_eq (a := 0) (b := 0) c813 (by omega) (by omega)
                                                      refine lv_iload hx hb dL_law_833 (lv_at hl 2 rfl) ?_
                                                      refine lv_if_eq (tgt := 842) hx hb dL_law_835 (by decide) (fun c835 => ?_) (fun c835 => ?_)
                                                      · exact absurd c835 (by decide)
                                                      · have c835 := z_ne (a := 1) (b := 0) c835 (by omega) (by omega)
                                                        refine lv_iconst (v := 1) hx hb dL_law_838 (by decide) ?_
                                                        refine lv_goto (tgt := 851) hx hb dL_law_839 (by decide) ?_
                                                        refine lv_istore (lv' := [(22, .int 1), (13, .int (((hA lo c e g (0, g) k).1) + 1)), (21, .int (nI (k % 2))), (20, .int 1), (19, .int 0), (18, .int (nI o9)), (17, .int (nI k)), (16, .int (nI (mo (zgP n me lo c e rd tk g) n k))), (15, .int (su (zgP n me lo c e rd tk g) k)), (14, .int (nI (ct (zgP n me lo c e rd tk g) k))), (3, .int (nI tm)), (0, .ref b0), (1, .ref b), (2, .ref o), (5, .int (nI n)), (6, .ref qw), (7, .ref qh), (8, .ref qt), (10, .int rd), (12, .int ((rN n me lo c e (rd, tk, g) 1).2.1 - tk))]) hx hb dL_law_851 hl (by decide) rfl (fun ls hl => ?_)
                                                        refine lv_iload hx hb dL_law_853 (lv_at hl 18 rfl) ?_
                                                        refine lv_aload hx hb dL_law_855 (lv_at hl 15 rfl) ?_
                                                        refine lv_iload hx hb dL_law_857 (lv_at hl 6 rfl) ?_
                                                        refine z_aald (a := qw) (n := n) (f := (zbf n (zR2 qw))) (j := k) hx hb hK4 hW.1 0 2 rfl rfl rfl rfl (by omega) (by omega) (zbf_in (by omega)) dL_law_859 ?_
                                                        refine lv_iconst (v := 2) hx hb dL_law_860 (by decide) ?_
                                                        refine z_iald (a := (zR2 qw k)) (n := 7) (f := (F k)) (j := 2) hx hb hK hr10 0 0 rfl rfl rfl (by omega) (by omega) dL_law_861 ?_
                                                        refine z_toi (y := (me k)) (hFf k 2 (by omega) (by omega)) ?_
                                                        refine lv_iconst (v := 1) hx hb dL_law_862 (by decide) ?_
                                                        refine lv_iadd hx hb dL_law_863 ?_
                                                        refine lv_irem hx hb dL_law_864 (zI_span0 hI hk) ?_
                                                        refine z_toi (y := zrem rd ((me k) + 1)) rfl ?_
                                                        refine lv_if_ne (tgt := 878) hx hb dL_law_865 (by decide) (fun c865 => ?_) (fun c865 => ?_)
                                                        · have hl : lv_has ls 25 [(22, .int 1), (13, .int (((hA lo c e g (0, g) k).1) + 1)), (21, .int (nI (k % 2))), (20, .int 1), (19, .int 0), (18, .int (zo (hd lo e k (c k)))), (17, .int (nI k)), (16, .int (nI (mo (zgP n me lo c e rd tk g) n k))), (15, .int (su (zgP n me lo c e rd tk g) k)), (14, .int (nI (ct (zgP n me lo c e rd tk g) k))), (3, .int (nI tm)), (0, .ref b0), (1, .ref b), (2, .ref o), (5, .int (nI n)), (6, .ref qw), (7, .ref qh), (8, .ref qt), (10, .int rd), (12, .int ((rN n me lo c e (rd, tk, g) 1).2.1 - tk))] := by rw [hhc]; exact hl
                                                          have hl : lv_has ls 25 [(3, .int (nI tm)), (0, .ref b0), (1, .ref b), (2, .ref o), (5, .int (nI n)), (6, .ref qw), (7, .ref qh), (8, .ref qt), (10, .int rd), (12, .int ((rN n me lo c e (rd, tk, g) 1).2.1 - tk)), (13, .int (((hA lo c e g (0, g) k).1) + 1)), (14, .int (nI (ct (zgP n me lo c e rd tk g) k))), (15, .int (su (zgP n me lo c e rd tk g) k)), (16, .int (nI (mo (zgP n me lo c e rd tk g) n k))), (17, .int (nI k)), (18, .int (zo (hd lo e k (c k)))), (22, .int 1)] := lv_sub hl [10, 11, 12, 13, 14, 15, 16, 17, 18, 19, 1, 9, 8, 7, 6, 5, 0] rfl
                                                          refine zlaw_T hfix hK4 hKw hX hb0 hb9 hbs hL hov2 hov3 ck sk hck hsk tm htm n me lo c e rd tk g k (((hA lo c e g (0, g) k).1) + 1) 1 qw qh qt F hI hZ hV hN hn0 hZ1 hV1 hk hFf (zsv_n hk (zst_T6 hhc c423 c457) c865) H lo0 hS hC hW (fun ls hl => ?_) _ hl
                                                          refine lv_iinc (v := (nI (k + 1))) (lv' := [(17, .int (nI (k + 1))), (3, .int (nI tm)), (0, .ref b0), (1, .ref b), (2, .ref o), (5, .int (nI n)), (6, .ref qw), (7, .ref qh), (8, .ref qt), (10, .int rd), (12, .int ((rN n me lo c e (rd, tk, g) 1).2.1 - tk)), (13, .int (((hA lo c e g (0, g) k).1) + 1)), (14, .int (nI (ct (zgP n me lo c e rd tk g) (k + 1)))), (15, .int (su (zgP n me lo c e rd tk g) (k + 1))), (16, .int (nI (mo (zgP n me lo c e rd tk g) n (k + 1))))]) hx hb dL_law_1102 hl (k := 14) rfl (nI_1 _) (by decide) rfl (fun ls hl => ?_)
                                                          refine lv_goto (tgt := 387) hx hb dL_law_1105 (by decide) ?_
                                                          exact ih (k + 1) (by omega) (by omega) _ (rfl) _ (rfl) _ (rfl) _ (rfl) _ (hA_T hhc c423 c457) _ (lv_sub hl [0, 14, 13, 12, 11, 1, 2, 3, 4, 5, 6, 7, 8, 9, 10] rfl)
                                                        · refine lv_iconst (v := 0) hx hb dL_law_868 (by decide) ?_
                                                          refine lv_iload hx hb dL_law_869 (lv_at hl 0 rfl) ?_
                                                          refine lv_iconst (v := 1) hx hb dL_law_871 (by decide) ?_
                                                          refine lv_isub hx hb dL_law_872 ?_
                                                          refine va_mmax hx hb (by rw [hml]; exact hl.1.symm) hown hwd9 hwd10 hwd7 (hwd11) (Nat.le_of_ble_eq_true rfl) (Nat.le_of_ble_eq_true rfl) (hck) (hsk) dL_law_873 ?_
                                                          refine z_toi (y := zmax 0 (1 - 1)) rfl ?_
                                                          refine lv_istore (lv' := [(22, .int (zmax 0 (1 - 1))), (13, .int (((hA lo c e g (0, g) k).1) + 1)), (21, .int (nI (k % 2))), (20, .int 1), (19, .int 0), (18, .int (nI o9)), (17, .int (nI k)), (16, .int (nI (mo (zgP n me lo c e rd tk g) n k))), (15, .int (su (zgP n me lo c e rd tk g) k)), (14, .int (nI (ct (zgP n me lo c e rd tk g) k))), (3, .int (nI tm)), (0, .ref b0), (1, .ref b), (2, .ref o), (5, .int (nI n)), (6, .ref qw), (7, .ref qh), (8, .ref qt), (10, .int rd), (12, .int ((rN n me lo c e (rd, tk, g) 1).2.1 - tk))]) hx hb dL_law_876 hl (by decide) rfl (fun ls hl => ?_)
                                                          have hl : lv_has ls 25 [(22, .int (zmax 0 (1 - 1))), (13, .int (((hA lo c e g (0, g) k).1) + 1)), (21, .int (nI (k % 2))), (20, .int 1), (19, .int 0), (18, .int (zo (hd lo e k (c k)))), (17, .int (nI k)), (16, .int (nI (mo (zgP n me lo c e rd tk g) n k))), (15, .int (su (zgP n me lo c e rd tk g) k)), (14, .int (nI (ct (zgP n me lo c e rd tk g) k))), (3, .int (nI tm)), (0, .ref b0), (1, .ref b), (2, .ref o), (5, .int (nI n)), (6, .ref qw), (7, .ref qh), (8, .ref qt), (10, .int rd), (12, .int ((rN n me lo c e (rd, tk, g) 1).2.1 - tk))] := by rw [hhc]; exact hl
                                                          have hl : lv_has ls 25 [(3, .int (nI tm)), (0, .ref b0), (1, .ref b), (2, .ref o), (5, .int (nI n)), (6, .ref qw), (7, .ref qh), (8, .ref qt), (10, .int rd), (12, .int ((rN n me lo c e (rd, tk, g) 1).2.1 - tk)), (13, .int (((hA lo c e g (0, g) k).1) + 1)), (14, .int (nI (ct (zgP n me lo c e rd tk g) k))), (15, .int (su (zgP n me lo c e rd tk g) k)), (16, .int (nI (mo (zgP n me lo c e rd tk g) n k))), (17, .int (nI k)), (18, .int (zo (hd lo e k (c k)))), (22, .int (zmax 0 (1 - 1)))] := lv_sub hl [10, 11, 12, 13, 14, 15, 16, 17, 18, 19, 1, 9, 8, 7, 6, 5, 0] rfl
                                                          refine zlaw_T hfix hK4 hKw hX hb0 hb9 hbs hL hov2 hov3 ck sk hck hsk tm htm n me lo c e rd tk g k (((hA lo c e g (0, g) k).1) + 1) (zmax 0 (1 - 1)) qw qh qt F hI hZ hV hN hn0 hZ1 hV1 hk hFf (zsv_y hk (zst_T6 hhc c423 c457) c865) H lo0 hS hC hW (fun ls hl => ?_) _ hl
                                                          refine lv_iinc (v := (nI (k + 1))) (lv' := [(17, .int (nI (k + 1))), (3, .int (nI tm)), (0, .ref b0), (1, .ref b), (2, .ref o), (5, .int (nI n)), (6, .ref qw), (7, .ref qh), (8, .ref qt), (10, .int rd), (12, .int ((rN n me lo c e (rd, tk, g) 1).2.1 - tk)), (13, .int (((hA lo c e g (0, g) k).1) + 1)), (14, .int (nI (ct (zgP n me lo c e rd tk g) (k + 1)))), (15, .int (su (zgP n me lo c e rd tk g) (k + 1))), (16, .int (nI (mo (zgP n me lo c e rd tk g) n (k + 1))))]) hx hb dL_law_1102 hl (k := 14) rfl (nI_1 _) (by decide) rfl (fun ls hl => ?_)
                                                          refine lv_goto (tgt := 387) hx hb dL_law_1105 (by decide) ?_
                                                          exact ih (k + 1) (by omega) (by omega) _ (rfl) _ (rfl) _ (rfl) _ (rfl) _ (hA_T hhc c423 c457) _ (lv_sub hl [0, 14, 13, 12, 11, 1, 2, 3, 4, 5, 6, 7, 8, 9, 10] rfl)
                                                    · exact absurd (by decide) c813
                                                  · have c798 := z_nle (a := 0) (b := o9) c798 (by omega) (by omega)
                                                    omega
                                                · exact absurd (by rw [hGf o9 (k % 2) 2 ho9 (by omega) (by omega), show k % 2 = 1 by omega]; exact z1_T2 hhc c423 c457 hk (by omega)) c695
                                  · exact absurd (by rw [hGf k (1 - k % 2) 2 (by omega) (by omega) (by omega), show 1 - k % 2 = 0 by omega]; exact z1_oth hk (by omega) (by omega)) c596
                                · have c572 := z_eq (a := k % 2) (b := 0) c572 (by omega) (by omega)
                                  exact absurd c572 c508
                            · have c540 := z_eq (a := k % 2) (b := 0) c540 (by omega) (by omega)
                              exact absurd c540 c508
                        · have c508 := z_eq (a := k % 2) (b := 0) c508 (by omega) (by omega)
                          refine lv_iconst (v := 1) hx hb dL_law_511 (by decide) ?_
                          refine lv_goto (tgt := 516) hx hb dL_law_512 (by decide) ?_
                          refine lv_iconst (v := 0) hx hb dL_law_516 (by decide) ?_
                          refine z_ki (va_runV (As := [.int (nI k), .int 1, .int 0]) (rest := []) hfix (zcX4_half_k1 l D cI H b n me lo c e ((rN n me lo c e (rd, tk, g) 1).1) ((rN n me lo c e (rd, tk, g) 1).2.1) (zgP n me lo c e rd tk g) k 0 hC hI (by omega) (by omega)) (cwV 3 hts gL_law_X4_half rfl rfl rfl (by decide +kernel) ⟨Nat.le_of_ble_eq_true rfl, Nat.le_of_ble_eq_true rfl⟩) (z_preV hK hK1 hC.1 (ci := 4) (q0 := 0) rfl rfl rfl) rfl rfl hl.1 rfl (lv_room (Nat.le_of_ble_eq_true rfl)) dL_law_517 ⟨by show ck + 0 ≤ 830515; omega, by show sk + 0 ≤ 6609922; omega⟩) ?_
                          refine lv_aload hx hb dL_law_520 (lv_at hl 15 rfl) ?_
                          refine lv_iload hx hb dL_law_522 (lv_at hl 5 rfl) ?_
                          refine z_aald (a := qh) (n := n) (f := (zbf n (zR3 qh))) (j := k) hx hb hK4 hV3.1 0 3 rfl rfl rfl rfl (by omega) (by omega) (zbf_in (by omega)) dL_law_524 ?_
                          have hr28 : va_P D vwCl (zQr cA (zR3 qh k) 2 (zbf 2 (zR2 (zR3 qh k)))) H := (hV3.2 k (by omega)).1
                          refine lv_iconst (v := 1) hx hb dL_law_525 (by decide) ?_
                          refine lv_iload hx hb dL_law_526 (lv_at hl 1 rfl) ?_
                          refine lv_isub hx hb dL_law_528 ?_
                          refine z_toi (y := nI (1 - k % 2)) (pk_sub (a := 1) (by omega)) ?_
                          refine z_aald (a := (zR3 qh k)) (n := 2) (f := (zbf 2 (zR2 (zR3 qh k)))) (j := (1 - k % 2)) hx hb hK4 hr28 0 2 rfl rfl rfl rfl (by omega) (by omega) (zbf_in (by omega)) dL_law_529 ?_
                          have hr29 : va_P D vwCl (zAr cI (zR2 (zR3 qh k) (1 - k % 2)) 3 (G k (1 - k % 2))) H := (hV3.2 k (by omega)).2 (1 - k % 2) (by omega)
                          refine lv_iconst (v := 0) hx hb dL_law_530 (by decide) ?_
                          refine z_iald (a := (zR2 (zR3 qh k) (1 - k % 2))) (n := 3) (f := (G k (1 - k % 2))) (j := 0) hx hb hK hr29 0 0 rfl rfl rfl (by omega) (by omega) dL_law_531 ?_
                          refine lv_icmp_ne (tgt := 599) hx hb dL_law_532 (by decide) (fun c532 => ?_) (fun c532 => ?_)
                          · exact absurd (by rw [hGf k (1 - k % 2) 0 (by omega) (by omega) (by omega), show 1 - k % 2 = 1 by omega]; exact z1_oth hk (by omega) (by omega)) c532
                          · refine lv_aload_n hx hb dL_law_535 rfl (lv_at hl 11 rfl) ?_
                            refine lv_iload hx hb dL_law_536 (lv_at hl 5 rfl) ?_
                            refine lv_iload hx hb dL_law_538 (lv_at hl 1 rfl) ?_
                            refine lv_if_ne (tgt := 547) hx hb dL_law_540 (by decide) (fun c540 => ?_) (fun c540 => ?_)
                            · have c540 := z_ne (a := k % 2) (b := 0) c540 (by omega) (by omega)
                              exact absurd c508 c540
                            · have c540 := z_eq (a := k % 2) (b := 0) c540 (by omega) (by omega)
                              refine lv_iconst (v := 1) hx hb dL_law_543 (by decide) ?_
                              refine lv_goto (tgt := 548) hx hb dL_law_544 (by decide) ?_
                              refine lv_iconst (v := 1) hx hb dL_law_548 (by decide) ?_
                              refine z_ki (va_runV (As := [.int (nI k), .int 1, .int 1]) (rest := []) hfix (zcX4_half_k1 l D cI H b n me lo c e ((rN n me lo c e (rd, tk, g) 1).1) ((rN n me lo c e (rd, tk, g) 1).2.1) (zgP n me lo c e rd tk g) k 1 hC hI (by omega) (by omega)) (cwV 3 hts gL_law_X4_half rfl rfl rfl (by decide +kernel) ⟨Nat.le_of_ble_eq_true rfl, Nat.le_of_ble_eq_true rfl⟩) (z_preV hK hK1 hC.1 (ci := 4) (q0 := 0) rfl rfl rfl) rfl rfl hl.1 rfl (lv_room (Nat.le_of_ble_eq_true rfl)) dL_law_549 ⟨by show ck + 0 ≤ 830515; omega, by show sk + 0 ≤ 6609922; omega⟩) ?_
                              refine lv_aload hx hb dL_law_552 (lv_at hl 15 rfl) ?_
                              refine lv_iload hx hb dL_law_554 (lv_at hl 5 rfl) ?_
                              refine z_aald (a := qh) (n := n) (f := (zbf n (zR3 qh))) (j := k) hx hb hK4 hV3.1 0 3 rfl rfl rfl rfl (by omega) (by omega) (zbf_in (by omega)) dL_law_556 ?_
                              refine lv_iconst (v := 1) hx hb dL_law_557 (by decide) ?_
                              refine lv_iload hx hb dL_law_558 (lv_at hl 1 rfl) ?_
                              refine lv_isub hx hb dL_law_560 ?_
                              refine z_toi (y := nI (1 - k % 2)) (pk_sub (a := 1) (by omega)) ?_
                              refine z_aald (a := (zR3 qh k)) (n := 2) (f := (zbf 2 (zR2 (zR3 qh k)))) (j := (1 - k % 2)) hx hb hK4 hr28 0 2 rfl rfl rfl rfl (by omega) (by omega) (zbf_in (by omega)) dL_law_561 ?_
                              refine lv_iconst (v := 1) hx hb dL_law_562 (by decide) ?_
                              refine z_iald (a := (zR2 (zR3 qh k) (1 - k % 2))) (n := 3) (f := (G k (1 - k % 2))) (j := 1) hx hb hK hr29 0 0 rfl rfl rfl (by omega) (by omega) dL_law_563 ?_
                              refine lv_icmp_ne (tgt := 599) hx hb dL_law_564 (by decide) (fun c564 => ?_) (fun c564 => ?_)
                              · exact absurd (by rw [hGf k (1 - k % 2) 1 (by omega) (by omega) (by omega), show 1 - k % 2 = 1 by omega]; exact z1_oth hk (by omega) (by omega)) c564
                              · refine lv_aload_n hx hb dL_law_567 rfl (lv_at hl 11 rfl) ?_
                                refine lv_iload hx hb dL_law_568 (lv_at hl 5 rfl) ?_
                                refine lv_iload hx hb dL_law_570 (lv_at hl 1 rfl) ?_
                                refine lv_if_ne (tgt := 579) hx hb dL_law_572 (by decide) (fun c572 => ?_) (fun c572 => ?_)
                                · have c572 := z_ne (a := k % 2) (b := 0) c572 (by omega) (by omega)
                                  exact absurd c508 c572
                                · have c572 := z_eq (a := k % 2) (b := 0) c572 (by omega) (by omega)
                                  refine lv_iconst (v := 1) hx hb dL_law_575 (by decide) ?_
                                  refine lv_goto (tgt := 580) hx hb dL_law_576 (by decide) ?_
                                  refine lv_iconst (v := 2) hx hb dL_law_580 (by decide) ?_
                                  refine z_ki (va_runV (As := [.int (nI k), .int 1, .int 2]) (rest := []) hfix (zcX4_half_k1 l D cI H b n me lo c e ((rN n me lo c e (rd, tk, g) 1).1) ((rN n me lo c e (rd, tk, g) 1).2.1) (zgP n me lo c e rd tk g) k 2 hC hI (by omega) (by omega)) (cwV 3 hts gL_law_X4_half rfl rfl rfl (by decide +kernel) ⟨Nat.le_of_ble_eq_true rfl, Nat.le_of_ble_eq_true rfl⟩) (z_preV hK hK1 hC.1 (ci := 4) (q0 := 0) rfl rfl rfl) rfl rfl hl.1 rfl (lv_room (Nat.le_of_ble_eq_true rfl)) dL_law_581 ⟨by show ck + 0 ≤ 830515; omega, by show sk + 0 ≤ 6609922; omega⟩) ?_
                                  refine lv_aload hx hb dL_law_584 (lv_at hl 15 rfl) ?_
                                  refine lv_iload hx hb dL_law_586 (lv_at hl 5 rfl) ?_
                                  refine z_aald (a := qh) (n := n) (f := (zbf n (zR3 qh))) (j := k) hx hb hK4 hV3.1 0 3 rfl rfl rfl rfl (by omega) (by omega) (zbf_in (by omega)) dL_law_588 ?_
                                  refine lv_iconst (v := 1) hx hb dL_law_589 (by decide) ?_
                                  refine lv_iload hx hb dL_law_590 (lv_at hl 1 rfl) ?_
                                  refine lv_isub hx hb dL_law_592 ?_
                                  refine z_toi (y := nI (1 - k % 2)) (pk_sub (a := 1) (by omega)) ?_
                                  refine z_aald (a := (zR3 qh k)) (n := 2) (f := (zbf 2 (zR2 (zR3 qh k)))) (j := (1 - k % 2)) hx hb hK4 hr28 0 2 rfl rfl rfl rfl (by omega) (by omega) (zbf_in (by omega)) dL_law_593 ?_
                                  refine lv_iconst (v := 2) hx hb dL_law_594 (by decide) ?_
                                  refine z_iald (a := (zR2 (zR3 qh k) (1 - k % 2))) (n := 3) (f := (G k (1 - k % 2))) (j := 2) hx hb hK hr29 0 0 rfl rfl rfl (by omega) (by omega) dL_law_595 ?_
                                  refine lv_icmp_eq (tgt := 601) hx hb dL_law_596 (by decide) (fun c596 => ?_) (fun c596 => ?_)
                                  · refine lv_iload hx hb dL_law_601 (lv_at hl 2 rfl) ?_
                                    refine lv_if_eq (tgt := 701) hx hb dL_law_603 (by decide) (fun c603 => ?_) (fun c603 => ?_)
                                    · exact absurd c603 (by decide)
                                    · have c603 := z_ne (a := 1) (b := 0) c603 (by omega) (by omega)
                                      refine lv_aload_n hx hb dL_law_606 rfl (lv_at hl 11 rfl) ?_
                                      refine lv_iload hx hb dL_law_607 (lv_at hl 5 rfl) ?_
                                      refine lv_iload hx hb dL_law_609 (lv_at hl 1 rfl) ?_
                                      refine lv_iconst (v := 1) hx hb dL_law_611 (by decide) ?_
                                      refine lv_icmp_ne (tgt := 619) hx hb dL_law_612 (by decide) (fun c612 => ?_) (fun c612 => ?_)
                                      · have c612 := z_ne (a := k % 2) (b := 1) c612 (by omega) (by omega)
                                        refine lv_iconst (v := 0) hx hb dL_law_619 (by decide) ?_
                                        refine lv_iconst (v := 0) hx hb dL_law_620 (by decide) ?_
                                        refine z_ki (va_runV (As := [.int (nI k), .int 0, .int 0]) (rest := []) hfix (zcX4_half_k0 l D cI H b n me lo c e ((rN n me lo c e (rd, tk, g) 1).1) ((rN n me lo c e (rd, tk, g) 1).2.1) (zgP n me lo c e rd tk g) k 0 hC hI (by omega) (by omega)) (cwV 3 hts gL_law_X4_half rfl rfl rfl (by decide +kernel) ⟨Nat.le_of_ble_eq_true rfl, Nat.le_of_ble_eq_true rfl⟩) (z_preV hK hK1 hC.1 (ci := 4) (q0 := 0) rfl rfl rfl) rfl rfl hl.1 rfl (lv_room (Nat.le_of_ble_eq_true rfl)) dL_law_621 ⟨by show ck + 0 ≤ 830515; omega, by show sk + 0 ≤ 6609922; omega⟩) ?_
                                        refine lv_aload hx hb dL_law_624 (lv_at hl 15 rfl) ?_
                                        refine lv_iload hx hb dL_law_626 (lv_at hl 4 rfl) ?_
                                        refine z_aald (a := qh) (n := n) (f := (zbf n (zR3 qh))) (j := o9) hx hb hK4 hV3.1 0 3 rfl rfl rfl rfl (by omega) (by omega) (zbf_in (by omega)) dL_law_628 ?_
                                        have hr30 : va_P D vwCl (zQr cA (zR3 qh o9) 2 (zbf 2 (zR2 (zR3 qh o9)))) H := (hV3.2 o9 (by omega)).1
                                        refine lv_iload hx hb dL_law_629 (lv_at hl 1 rfl) ?_
                                        refine z_aald (a := (zR3 qh o9)) (n := 2) (f := (zbf 2 (zR2 (zR3 qh o9)))) (j := (k % 2)) hx hb hK4 hr30 0 2 rfl rfl rfl rfl (by omega) (by omega) (zbf_in (by omega)) dL_law_631 ?_
                                        have hr31 : va_P D vwCl (zAr cI (zR2 (zR3 qh o9) (k % 2)) 3 (G o9 (k % 2))) H := (hV3.2 o9 (by omega)).2 (k % 2) (by omega)
                                        refine lv_iconst (v := 0) hx hb dL_law_632 (by decide) ?_
                                        refine z_iald (a := (zR2 (zR3 qh o9) (k % 2))) (n := 3) (f := (G o9 (k % 2))) (j := 0) hx hb hK hr31 0 0 rfl rfl rfl (by omega) (by omega) dL_law_633 ?_
                                        refine lv_icmp_ne (tgt := 794) hx hb dL_law_634 (by decide) (fun c634 => ?_) (fun c634 => ?_)
                                        · exact absurd (by rw [hGf o9 (k % 2) 0 ho9 (by omega) (by omega), show k % 2 = 0 by omega]; exact z1_T0 hhc c423 c457 hk (by omega)) c634
                                        · refine lv_aload_n hx hb dL_law_637 rfl (lv_at hl 11 rfl) ?_
                                          refine lv_iload hx hb dL_law_638 (lv_at hl 5 rfl) ?_
                                          refine lv_iload hx hb dL_law_640 (lv_at hl 1 rfl) ?_
                                          refine lv_iconst (v := 1) hx hb dL_law_642 (by decide) ?_
                                          refine lv_icmp_ne (tgt := 650) hx hb dL_law_643 (by decide) (fun c643 => ?_) (fun c643 => ?_)
                                          · have c643 := z_ne (a := k % 2) (b := 1) c643 (by omega) (by omega)
                                            refine lv_iconst (v := 0) hx hb dL_law_650 (by decide) ?_
                                            refine lv_iconst (v := 1) hx hb dL_law_651 (by decide) ?_
                                            refine z_ki (va_runV (As := [.int (nI k), .int 0, .int 1]) (rest := []) hfix (zcX4_half_k0 l D cI H b n me lo c e ((rN n me lo c e (rd, tk, g) 1).1) ((rN n me lo c e (rd, tk, g) 1).2.1) (zgP n me lo c e rd tk g) k 1 hC hI (by omega) (by omega)) (cwV 3 hts gL_law_X4_half rfl rfl rfl (by decide +kernel) ⟨Nat.le_of_ble_eq_true rfl, Nat.le_of_ble_eq_true rfl⟩) (z_preV hK hK1 hC.1 (ci := 4) (q0 := 0) rfl rfl rfl) rfl rfl hl.1 rfl (lv_room (Nat.le_of_ble_eq_true rfl)) dL_law_652 ⟨by show ck + 0 ≤ 830515; omega, by show sk + 0 ≤ 6609922; omega⟩) ?_
                                            refine lv_iload hx hb dL_law_655 (lv_at hl 4 rfl) ?_
                                            refine lv_icmp_ne (tgt := 794) hx hb dL_law_657 (by decide) (fun c657 => ?_) (fun c657 => ?_)
                                            · exact absurd (z1_T1 hhc c423 c457 hk (by omega)) c657
                                            · refine lv_aload_n hx hb dL_law_660 rfl (lv_at hl 11 rfl) ?_
                                              refine lv_iload hx hb dL_law_661 (lv_at hl 5 rfl) ?_
                                              refine lv_iload hx hb dL_law_663 (lv_at hl 1 rfl) ?_
                                              refine lv_iconst (v := 1) hx hb dL_law_665 (by decide) ?_
                                              refine lv_icmp_ne (tgt := 673) hx hb dL_law_666 (by decide) (fun c666 => ?_) (fun c666 => ?_)
                                              · have c666 := z_ne (a := k % 2) (b := 1) c666 (by omega) (by omega)
                                                refine lv_iconst (v := 0) hx hb dL_law_673 (by decide) ?_
                                                refine lv_iconst (v := 2) hx hb dL_law_674 (by decide) ?_
                                                refine z_ki (va_runV (As := [.int (nI k), .int 0, .int 2]) (rest := []) hfix (zcX4_half_k0 l D cI H b n me lo c e ((rN n me lo c e (rd, tk, g) 1).1) ((rN n me lo c e (rd, tk, g) 1).2.1) (zgP n me lo c e rd tk g) k 2 hC hI (by omega) (by omega)) (cwV 3 hts gL_law_X4_half rfl rfl rfl (by decide +kernel) ⟨Nat.le_of_ble_eq_true rfl, Nat.le_of_ble_eq_true rfl⟩) (z_preV hK hK1 hC.1 (ci := 4) (q0 := 0) rfl rfl rfl) rfl rfl hl.1 rfl (lv_room (Nat.le_of_ble_eq_true rfl)) dL_law_675 ⟨by show ck + 0 ≤ 830515; omega, by show sk + 0 ≤ 6609922; omega⟩) ?_
                                                refine lv_bipush (v := 99) hx hb dL_law_678 (by decide) ?_
                                                refine lv_aload hx hb dL_law_680 (lv_at hl 15 rfl) ?_
                                                refine lv_iload hx hb dL_law_682 (lv_at hl 4 rfl) ?_
                                                refine z_aald (a := qh) (n := n) (f := (zbf n (zR3 qh))) (j := o9) hx hb hK4 hV3.1 0 3 rfl rfl rfl rfl (by omega) (by omega) (zbf_in (by omega)) dL_law_684 ?_
                                                refine lv_iload hx hb dL_law_685 (lv_at hl 1 rfl) ?_
                                                refine z_aald (a := (zR3 qh o9)) (n := 2) (f := (zbf 2 (zR2 (zR3 qh o9)))) (j := (k % 2)) hx hb hK4 hr30 0 2 rfl rfl rfl rfl (by omega) (by omega) (zbf_in (by omega)) dL_law_687 ?_
                                                refine lv_iconst (v := 2) hx hb dL_law_688 (by decide) ?_
                                                refine z_iald (a := (zR2 (zR3 qh o9) (k % 2))) (n := 3) (f := (G o9 (k % 2))) (j := 2) hx hb hK hr31 0 0 rfl rfl rfl (by omega) (by omega) dL_law_689 ?_
                                                refine lv_iconst (v := 1) hx hb dL_law_690 (by decide) ?_
                                                refine lv_iadd hx hb dL_law_691 ?_
                                                refine va_mmin hx hb (by rw [hml]; exact hl.1.symm) hown hwd5 hwd6 hwd7 (hwd8) (Nat.le_of_ble_eq_true rfl) (Nat.le_of_ble_eq_true rfl) (hck) (hsk) dL_law_692 ?_
                                                refine z_toi (y := zmin 99 (((G o9 (k % 2)) 2) + 1)) rfl ?_
                                                refine lv_icmp_eq (tgt := 796) hx hb dL_law_695 (by decide) (fun c695 => ?_) (fun c695 => ?_)
                                                · refine lv_iload hx hb dL_law_796 (lv_at hl 4 rfl) ?_
                                                  refine lv_if_ge (tgt := 811) hx hb dL_law_798 (by decide) (fun c798 => ?_) (fun c798 => ?_)
                                                  · have c798 := z_le (a := 0) (b := o9) c798 (by omega) (by omega)
                                                    refine lv_iload hx hb dL_law_811 (lv_at hl 3 rfl) ?_
                                                    refine lv_if_eq (tgt := 833) hx hb dL_law_813 (by decide) (fun c813 => ?_) (fun c813 => ?_)
                                                    · have c813 := z_eq (a := 0) (b := 0) c813 (by omega) (by omega)
                                                      refine lv_iload hx hb dL_law_833 (lv_at hl 2 rfl) ?_
                                                      refine lv_if_eq (tgt := 842) hx hb dL_law_835 (by decide) (fun c835 => ?_) (fun c835 => ?_)
                                                      · exact absurd c835 (by decide)
                                                      · have c835 := z_ne (a := 1) (b := 0) c835 (by omega) (by omega)
                                                        refine lv_iconst (v := 1) hx hb dL_law_838 (by decide) ?_
                                                        refine lv_goto (tgt := 851) hx hb dL_law_839 (by decide) ?_
                                                        refine lv_istore (lv' := [(22, .int 1), (13, .int (((hA lo c e g (0, g) k).1) + 1)), (21, .int (nI (k % 2))), (20, .int 1), (19, .int 0), (18, .int (nI o9)), (17, .int (nI k)), (16, .int (nI (mo (zgP n me lo c e rd tk g) n k))), (15, .int (su (zgP n me lo c e rd tk g) k)), (14, .int (nI (ct (zgP n me lo c e rd tk g) k))), (3, .int (nI tm)), (0, .ref b0), (1, .ref b), (2, .ref o), (5, .int (nI n)), (6, .ref qw), (7, .ref qh), (8, .ref qt), (10, .int rd), (12, .int ((rN n me lo c e (rd, tk, g) 1).2.1 - tk))]) hx hb dL_law_851 hl (by decide) rfl (fun ls hl => ?_)
                                                        refine lv_iload hx hb dL_law_853 (lv_at hl 18 rfl) ?_
                                                        refine lv_aload hx hb dL_law_855 (lv_at hl 15 rfl) ?_
                                                        refine lv_iload hx hb dL_law_857 (lv_at hl 6 rfl) ?_
                                                        refine z_aald (a := qw) (n := n) (f := (zbf n (zR2 qw))) (j := k) hx hb hK4 hW.1 0 2 rfl rfl rfl rfl (by omega) (by omega) (zbf_in (by omega)) dL_law_859 ?_
                                                        refine lv_iconst (v := 2) hx hb dL_law_860 (by decide) ?_
                                                        refine z_iald (a := (zR2 qw k)) (n := 7) (f := (F k)) (j := 2) hx hb hK hr10 0 0 rfl rfl rfl (by omega) (by omega) dL_law_861 ?_
                                                        refine z_toi (y := (me k)) (hFf k 2 (by omega) (by omega)) ?_
                                                        refine lv_iconst (v := 1) hx hb dL_law_862 (by decide) ?_
                                                        refine lv_iadd hx hb dL_law_863 ?_
                                                        refine lv_irem hx hb dL_law_864 (zI_span0 hI hk) ?_
                                                        refine z_toi (y := zrem rd ((me k) + 1)) rfl ?_
                                                        refine lv_if_ne (tgt := 878) hx hb dL_law_865 (by decide) (fun c865 => ?_) (fun c865 => ?_)
                                                        · have hl : lv_has ls 25 [(22, .int 1), (13, .int (((hA lo c e g (0, g) k).1) + 1)), (21, .int (nI (k % 2))), (20, .int 1), (19, .int 0), (18, .int (zo (hd lo e k (c k)))), (17, .int (nI k)), (16, .int (nI (mo (zgP n me lo c e rd tk g) n k))), (15, .int (su (zgP n me lo c e rd tk g) k)), (14, .int (nI (ct (zgP n me lo c e rd tk g) k))), (3, .int (nI tm)), (0, .ref b0), (1, .ref b), (2, .ref o), (5, .int (nI n)), (6, .ref qw), (7, .ref qh), (8, .ref qt), (10, .int rd), (12, .int ((rN n me lo c e (rd, tk, g) 1).2.1 - tk))] := by rw [hhc]; exact hl
                                                          have hl : lv_has ls 25 [(3, .int (nI tm)), (0, .ref b0), (1, .ref b), (2, .ref o), (5, .int (nI n)), (6, .ref qw), (7, .ref qh), (8, .ref qt), (10, .int rd), (12, .int ((rN n me lo c e (rd, tk, g) 1).2.1 - tk)), (13, .int (((hA lo c e g (0, g) k).1) + 1)), (14, .int (nI (ct (zgP n me lo c e rd tk g) k))), (15, .int (su (zgP n me lo c e rd tk g) k)), (16, .int (nI (mo (zgP n me lo c e rd tk g) n k))), (17, .int (nI k)), (18, .int (zo (hd lo e k (c k)))), (22, .int 1)] := lv_sub hl [10, 11, 12, 13, 14, 15, 16, 17, 18, 19, 1, 9, 8, 7, 6, 5, 0] rfl
                                                          refine zlaw_T hfix hK4 hKw hX hb0 hb9 hbs hL hov2 hov3 ck sk hck hsk tm htm n me lo c e rd tk g k (((hA lo c e g (0, g) k).1) + 1) 1 qw qh qt F hI hZ hV hN hn0 hZ1 hV1 hk hFf (zsv_n hk (zst_T6 hhc c423 c457) c865) H lo0 hS hC hW (fun ls hl => ?_) _ hl
                                                          refine lv_iinc (v := (nI (k + 1))) (lv' := [(17, .int (nI (k + 1))), (3, .int (nI tm)), (0, .ref b0), (1, .ref b), (2, .ref o), (5, .int (nI n)), (6, .ref qw), (7, .ref qh), (8, .ref qt), (10, .int rd), (12, .int ((rN n me lo c e (rd, tk, g) 1).2.1 - tk)), (13, .int (((hA lo c e g (0, g) k).1) + 1)), (14, .int (nI (ct (zgP n me lo c e rd tk g) (k + 1)))), (15, .int (su (zgP n me lo c e rd tk g) (k + 1))), (16, .int (nI (mo (zgP n me lo c e rd tk g) n (k + 1))))]) hx hb dL_law_1102 hl (k := 14) rfl (nI_1 _) (by decide) rfl (fun ls hl => ?_)
                                                          refine lv_goto (tgt := 387) hx hb dL_law_1105 (by decide) ?_
                                                          exact ih (k + 1) (by omega) (by omega) _ (rfl) _ (rfl) _ (rfl) _ (rfl) _ (hA_T hhc c423 c457) _ (lv_sub hl [0, 14, 13, 12, 11, 1, 2, 3, 4, 5, 6, 7, 8, 9, 10] rfl)
                                                        · refine lv_iconst (v := 0) hx hb dL_law_868 (by decide) ?_
                                                          refine lv_iload hx hb dL_law_869 (lv_at hl 0 rfl) ?_
                                                          refine lv_iconst (v := 1) hx hb dL_law_871 (by decide) ?_
                                                          refine lv_isub hx hb dL_law_872 ?_
                                                          refine va_mmax hx hb (by rw [hml]; exact hl.1.symm) hown hwd9 hwd10 hwd7 (hwd11) (Nat.le_of_ble_eq_true rfl) (Nat.le_of_ble_eq_true rfl) (hck) (hsk) dL_law_873 ?_
                                                          refine z_toi (y := zmax 0 (1 - 1)) rfl ?_
                                                          refine lv_istore (lv' := [(22, .int (zmax 0 (1 - 1))), (13, .int (((hA lo c e g (0, g) k).1) + 1)), (21, .int (nI (k % 2))), (20, .int 1), (19, .int 0), (18, .int (nI o9)), (17, .int (nI k)), (16, .int (nI (mo (zgP n me lo c e rd tk g) n k))), (15, .int (su (zgP n me lo c e rd tk g) k)), (14, .int (nI (ct (zgP n me lo c e rd tk g) k))), (3, .int (nI tm)), (0, .ref b0), (1, .ref b), (2, .ref o), (5, .int (nI n)), (6, .ref qw), (7, .ref qh), (8, .ref qt), (10, .int rd), (12, .int ((rN n me lo c e (rd, tk, g) 1).2.1 - tk))]) hx hb dL_law_876 hl (by decide) rfl (fun ls hl => ?_)
                                                          have hl : lv_has ls 25 [(22, .int (zmax 0 (1 - 1))), (13, .int (((hA lo c e g (0, g) k).1) + 1)), (21, .int (nI (k % 2))), (20, .int 1), (19, .int 0), (18, .int (zo (hd lo e k (c k)))), (17, .int (nI k)), (16, .int (nI (mo (zgP n me lo c e rd tk g) n k))), (15, .int (su (zgP n me lo c e rd tk g) k)), (14, .int (nI (ct (zgP n me lo c e rd tk g) k))), (3, .int (nI tm)), (0, .ref b0), (1, .ref b), (2, .ref o), (5, .int (nI n)), (6, .ref qw), (7, .ref qh), (8, .ref qt), (10, .int rd), (12, .int ((rN n me lo c e (rd, tk, g) 1).2.1 - tk))] := by rw [hhc]; exact hl
                                                          have hl : lv_has ls 25 [(3, .int (nI tm)), (0, .ref b0), (1, .ref b), (2, .ref o), (5, .int (nI n)), (6, .ref qw), (7, .ref qh), (8, .ref qt), (10, .int rd), (12, .int ((rN n me lo c e (rd, tk, g) 1).2.1 - tk)), (13, .int (((hA lo c e g (0, g) k).1) + 1)), (14, .int (nI (ct (zgP n me lo c e rd tk g) k))), (15, .int (su (zgP n me lo c e rd tk g) k)), (16, .int (nI (mo (zgP n me lo c e rd tk g) n k))), (17, .int (nI k)), (18, .int (zo (hd lo e k (c k)))), (22, .int (zmax 0 (1 - 1)))] := lv_sub hl [10, 11, 12, 13, 14, 15, 16, 17, 18, 19, 1, 9, 8, 7, 6, 5, 0] rfl
                                                          refine zlaw_T hfix hK4 hKw hX hb0 hb9 hbs hL hov2 hov3 ck sk hck hsk tm htm n me lo c e rd tk g k (((hA lo c e g (0, g) k).1) + 1) (zmax 0 (1 - 1)) qw qh qt F hI hZ hV hN hn0 hZ1 hV1 hk hFf (zsv_y hk (zst_T6 hhc c423 c457) c865) H lo0 hS hC hW (fun ls hl => ?_) _ hl
                                                          refine lv_iinc (v := (nI (k + 1))) (lv' := [(17, .int (nI (k + 1))), (3, .int (nI tm)), (0, .ref b0), (1, .ref b), (2, .ref o), (5, .int (nI n)), (6, .ref qw), (7, .ref qh), (8, .ref qt), (10, .int rd), (12, .int ((rN n me lo c e (rd, tk, g) 1).2.1 - tk)), (13, .int (((hA lo c e g (0, g) k).1) + 1)), (14, .int (nI (ct (zgP n me lo c e rd tk g) (k + 1)))), (15, .int (su (zgP n me lo c e rd tk g) (k + 1))), (16, .int (nI (mo (zgP n me lo c e rd tk g) n (k + 1))))]) hx hb dL_law_1102 hl (k := 14) rfl (nI_1 _) (by decide) rfl (fun ls hl => ?_)
                                                          refine lv_goto (tgt := 387) hx hb dL_law_1105 (by decide) ?_
                                                          exact ih (k + 1) (by omega) (by omega) _ (rfl) _ (rfl) _ (rfl) _ (rfl) _ (hA_T hhc c423 c457) _ (lv_sub hl [0, 14, 13, 12, 11, 1, 2, 3, 4, 5, 6, 7, 8, 9, 10] rfl)
                                                    · exact absurd (by decide) c813
                                                  · have c798 := z_nle (a := 0) (b := o9) c798 (by omega) (by omega)
                                                    omega
                                                · exact absurd (by rw [hGf o9 (k % 2) 2 ho9 (by omega) (by omega), show k % 2 = 0 by omega]; exact z1_T2 hhc c423 c457 hk (by omega)) c695
                                              · have c666 := z_eq (a := k % 2) (b := 1) c666 (by omega) (by omega)
                                                omega
                                          · have c643 := z_eq (a := k % 2) (b := 1) c643 (by omega) (by omega)
                                            omega
                                      · have c612 := z_eq (a := k % 2) (b := 1) c612 (by omega) (by omega)
                                        omega
                                  · exact absurd (by rw [hGf k (1 - k % 2) 2 (by omega) (by omega) (by omega), show 1 - k % 2 = 1 by omega]; exact z1_oth hk (by omega) (by omega)) c596
            · refine lv_iconst (v := 1) hx hb dL_law_426 (by decide) ?_
              refine lv_goto (tgt := 431) hx hb dL_law_427 (by decide) ?_
              refine lv_istore (lv' := [(19, .int 1), (18, .int (nI o9)), (17, .int (nI k)), (16, .int (nI (mo (zgP n me lo c e rd tk g) n k))), (15, .int (su (zgP n me lo c e rd tk g) k)), (14, .int (nI (ct (zgP n me lo c e rd tk g) k))), (13, .int ((hA lo c e g (0, g) k).1)), (3, .int (nI tm)), (0, .ref b0), (1, .ref b), (2, .ref o), (5, .int (nI n)), (6, .ref qw), (7, .ref qh), (8, .ref qt), (10, .int rd), (12, .int ((rN n me lo c e (rd, tk, g) 1).2.1 - tk))]) hx hb dL_law_431 hl (by decide) rfl (fun ls hl => ?_)
              refine lv_iload hx hb dL_law_433 (lv_at hl 1 rfl) ?_
              refine lv_if_lt (tgt := 464) hx hb dL_law_435 (by decide) (fun c435 => ?_) (fun c435 => ?_)
              · have c435 := z_lt (a := o9) (b := 0) c435 (by omega) (by omega)
                omega
              · have c435 := z_nlt (a := o9) (b := 0) c435 (by omega) (by omega)
                refine lv_iload hx hb dL_law_438 (lv_at hl 0 rfl) ?_
                refine lv_if_ne (tgt := 464) hx hb dL_law_440 (by decide) (fun c440 => ?_) (fun c440 => ?_)
                · have c440 := z_ne (a := 1) (b := 0) c440 (by omega) (by omega)
                  refine lv_iconst (v := 0) hx hb dL_law_464 (by decide) ?_
                  refine lv_istore (lv' := [(20, .int 0), (19, .int 1), (18, .int (nI o9)), (17, .int (nI k)), (16, .int (nI (mo (zgP n me lo c e rd tk g) n k))), (15, .int (su (zgP n me lo c e rd tk g) k)), (14, .int (nI (ct (zgP n me lo c e rd tk g) k))), (13, .int ((hA lo c e g (0, g) k).1)), (3, .int (nI tm)), (0, .ref b0), (1, .ref b), (2, .ref o), (5, .int (nI n)), (6, .ref qw), (7, .ref qh), (8, .ref qt), (10, .int rd), (12, .int ((rN n me lo c e (rd, tk, g) 1).2.1 - tk))]) hx hb dL_law_465 hl (by decide) rfl (fun ls hl => ?_)
                  refine lv_iload hx hb dL_law_467 (lv_at hl 3 rfl) ?_
                  refine lv_iconst (v := 2) hx hb dL_law_469 (by decide) ?_
                  refine lv_irem hx hb dL_law_470 (by decide) ?_
                  refine z_toi (y := zrem (nI k) 2) rfl ?_
                  refine z_toi (y := nI (k % 2)) (zrem2 k (by omega)) ?_
                  refine lv_istore (lv' := [(21, .int (nI (k % 2))), (20, .int 0), (19, .int 1), (18, .int (nI o9)), (17, .int (nI k)), (16, .int (nI (mo (zgP n me lo c e rd tk g) n k))), (15, .int (su (zgP n me lo c e rd tk g) k)), (14, .int (nI (ct (zgP n me lo c e rd tk g) k))), (13, .int ((hA lo c e g (0, g) k).1)), (3, .int (nI tm)), (0, .ref b0), (1, .ref b), (2, .ref o), (5, .int (nI n)), (6, .ref qw), (7, .ref qh), (8, .ref qt), (10, .int rd), (12, .int ((rN n me lo c e (rd, tk, g) 1).2.1 - tk))]) hx hb dL_law_471 hl (by decide) rfl (fun ls hl => ?_)
                  refine lv_iload hx hb dL_law_473 (lv_at hl 8 rfl) ?_
                  refine lv_iload hx hb dL_law_475 (lv_at hl 1 rfl) ?_
                  refine lv_if_eq (tgt := 484) hx hb dL_law_477 (by decide) (fun c477 => ?_) (fun c477 => ?_)
                  · have c477 := z_eq (a := 0) (b := 0) c477 (by omega) (by omega)
                    refine lv_iconst (v := 0) hx hb dL_law_484 (by decide) ?_
                    refine lv_iadd hx hb dL_law_485 ?_
                    refine lv_istore (lv' := [(13, .int (((hA lo c e g (0, g) k).1) + 0)), (21, .int (nI (k % 2))), (20, .int 0), (19, .int 1), (18, .int (nI o9)), (17, .int (nI k)), (16, .int (nI (mo (zgP n me lo c e rd tk g) n k))), (15, .int (su (zgP n me lo c e rd tk g) k)), (14, .int (nI (ct (zgP n me lo c e rd tk g) k))), (3, .int (nI tm)), (0, .ref b0), (1, .ref b), (2, .ref o), (5, .int (nI n)), (6, .ref qw), (7, .ref qh), (8, .ref qt), (10, .int rd), (12, .int ((rN n me lo c e (rd, tk, g) 1).2.1 - tk))]) hx hb dL_law_486 hl (by decide) rfl (fun ls hl => ?_)
                    refine lv_aload_n hx hb dL_law_488 rfl (lv_at hl 11 rfl) ?_
                    refine lv_iload hx hb dL_law_489 (lv_at hl 5 rfl) ?_
                    refine lv_iconst (v := 0) hx hb dL_law_491 (by decide) ?_
                    refine z_ki (va_runV (As := [.int (nI k), .int 0]) (rest := []) hfix (zcX4_parrot_k l D cI H b n me lo c e ((rN n me lo c e (rd, tk, g) 1).1) ((rN n me lo c e (rd, tk, g) 1).2.1) (zgP n me lo c e rd tk g) k 0 hC hI (by omega) (by omega)) (cwV 2 hts gL_law_X4_parrot rfl rfl rfl (by decide +kernel) ⟨Nat.le_of_ble_eq_true rfl, Nat.le_of_ble_eq_true rfl⟩) (z_preV hK hK1 hC.1 (ci := 4) (q0 := 0) rfl rfl rfl) rfl rfl hl.1 rfl (lv_room (Nat.le_of_ble_eq_true rfl)) dL_law_492 ⟨by show ck + 0 ≤ 830515; omega, by show sk + 0 ≤ 6609922; omega⟩) ?_
                    refine lv_aload hx hb dL_law_495 (lv_at hl 16 rfl) ?_
                    refine lv_iload hx hb dL_law_497 (lv_at hl 5 rfl) ?_
                    refine z_iald (a := qt) (n := n) (f := T) (j := k) hx hb hK hT 0 0 rfl rfl rfl (by omega) (by omega) dL_law_499 ?_
                    refine lv_icmp_ne (tgt := 599) hx hb dL_law_500 (by decide) (fun c500 => ?_) (fun c500 => ?_)
                    · exact absurd (hTf k (by omega)).symm c500
                    · refine lv_aload_n hx hb dL_law_503 rfl (lv_at hl 11 rfl) ?_
                      refine lv_iload hx hb dL_law_504 (lv_at hl 5 rfl) ?_
                      refine lv_iload hx hb dL_law_506 (lv_at hl 1 rfl) ?_
                      refine lv_if_ne (tgt := 515) hx hb dL_law_508 (by decide) (fun c508 => ?_) (fun c508 => ?_)
                      · have c508 := z_ne (a := k % 2) (b := 0) c508 (by omega) (by omega)
                        refine lv_iconst (v := 0) hx hb dL_law_515 (by decide) ?_
                        refine lv_iconst (v := 0) hx hb dL_law_516 (by decide) ?_
                        refine z_ki (va_runV (As := [.int (nI k), .int 0, .int 0]) (rest := []) hfix (zcX4_half_k0 l D cI H b n me lo c e ((rN n me lo c e (rd, tk, g) 1).1) ((rN n me lo c e (rd, tk, g) 1).2.1) (zgP n me lo c e rd tk g) k 0 hC hI (by omega) (by omega)) (cwV 3 hts gL_law_X4_half rfl rfl rfl (by decide +kernel) ⟨Nat.le_of_ble_eq_true rfl, Nat.le_of_ble_eq_true rfl⟩) (z_preV hK hK1 hC.1 (ci := 4) (q0 := 0) rfl rfl rfl) rfl rfl hl.1 rfl (lv_room (Nat.le_of_ble_eq_true rfl)) dL_law_517 ⟨by show ck + 0 ≤ 830515; omega, by show sk + 0 ≤ 6609922; omega⟩) ?_
                        refine lv_aload hx hb dL_law_520 (lv_at hl 15 rfl) ?_
                        refine lv_iload hx hb dL_law_522 (lv_at hl 5 rfl) ?_
                        refine z_aald (a := qh) (n := n) (f := (zbf n (zR3 qh))) (j := k) hx hb hK4 hV3.1 0 3 rfl rfl rfl rfl (by omega) (by omega) (zbf_in (by omega)) dL_law_524 ?_
                        have hr32 : va_P D vwCl (zQr cA (zR3 qh k) 2 (zbf 2 (zR2 (zR3 qh k)))) H := (hV3.2 k (by omega)).1
                        refine lv_iconst (v := 1) hx hb dL_law_525 (by decide) ?_
                        refine lv_iload hx hb dL_law_526 (lv_at hl 1 rfl) ?_
                        refine lv_isub hx hb dL_law_528 ?_
                        refine z_toi (y := nI (1 - k % 2)) (pk_sub (a := 1) (by omega)) ?_
                        refine z_aald (a := (zR3 qh k)) (n := 2) (f := (zbf 2 (zR2 (zR3 qh k)))) (j := (1 - k % 2)) hx hb hK4 hr32 0 2 rfl rfl rfl rfl (by omega) (by omega) (zbf_in (by omega)) dL_law_529 ?_
                        have hr33 : va_P D vwCl (zAr cI (zR2 (zR3 qh k) (1 - k % 2)) 3 (G k (1 - k % 2))) H := (hV3.2 k (by omega)).2 (1 - k % 2) (by omega)
                        refine lv_iconst (v := 0) hx hb dL_law_530 (by decide) ?_
                        refine z_iald (a := (zR2 (zR3 qh k) (1 - k % 2))) (n := 3) (f := (G k (1 - k % 2))) (j := 0) hx hb hK hr33 0 0 rfl rfl rfl (by omega) (by omega) dL_law_531 ?_
                        refine lv_icmp_ne (tgt := 599) hx hb dL_law_532 (by decide) (fun c532 => ?_) (fun c532 => ?_)
                        · exact absurd (by rw [hGf k (1 - k % 2) 0 (by omega) (by omega) (by omega), show 1 - k % 2 = 0 by omega]; exact z1_oth hk (by omega) (by omega)) c532
                        · refine lv_aload_n hx hb dL_law_535 rfl (lv_at hl 11 rfl) ?_
                          refine lv_iload hx hb dL_law_536 (lv_at hl 5 rfl) ?_
                          refine lv_iload hx hb dL_law_538 (lv_at hl 1 rfl) ?_
                          refine lv_if_ne (tgt := 547) hx hb dL_law_540 (by decide) (fun c540 => ?_) (fun c540 => ?_)
                          · have c540 := z_ne (a := k % 2) (b := 0) c540 (by omega) (by omega)
                            refine lv_iconst (v := 0) hx hb dL_law_547 (by decide) ?_
                            refine lv_iconst (v := 1) hx hb dL_law_548 (by decide) ?_
                            refine z_ki (va_runV (As := [.int (nI k), .int 0, .int 1]) (rest := []) hfix (zcX4_half_k0 l D cI H b n me lo c e ((rN n me lo c e (rd, tk, g) 1).1) ((rN n me lo c e (rd, tk, g) 1).2.1) (zgP n me lo c e rd tk g) k 1 hC hI (by omega) (by omega)) (cwV 3 hts gL_law_X4_half rfl rfl rfl (by decide +kernel) ⟨Nat.le_of_ble_eq_true rfl, Nat.le_of_ble_eq_true rfl⟩) (z_preV hK hK1 hC.1 (ci := 4) (q0 := 0) rfl rfl rfl) rfl rfl hl.1 rfl (lv_room (Nat.le_of_ble_eq_true rfl)) dL_law_549 ⟨by show ck + 0 ≤ 830515; omega, by show sk + 0 ≤ 6609922; omega⟩) ?_
                            refine lv_aload hx hb dL_law_552 (lv_at hl 15 rfl) ?_
                            refine lv_iload hx hb dL_law_554 (lv_at hl 5 rfl) ?_
                            refine z_aald (a := qh) (n := n) (f := (zbf n (zR3 qh))) (j := k) hx hb hK4 hV3.1 0 3 rfl rfl rfl rfl (by omega) (by omega) (zbf_in (by omega)) dL_law_556 ?_
                            refine lv_iconst (v := 1) hx hb dL_law_557 (by decide) ?_
                            refine lv_iload hx hb dL_law_558 (lv_at hl 1 rfl) ?_
                            refine lv_isub hx hb dL_law_560 ?_
                            refine z_toi (y := nI (1 - k % 2)) (pk_sub (a := 1) (by omega)) ?_
                            refine z_aald (a := (zR3 qh k)) (n := 2) (f := (zbf 2 (zR2 (zR3 qh k)))) (j := (1 - k % 2)) hx hb hK4 hr32 0 2 rfl rfl rfl rfl (by omega) (by omega) (zbf_in (by omega)) dL_law_561 ?_
                            refine lv_iconst (v := 1) hx hb dL_law_562 (by decide) ?_
                            refine z_iald (a := (zR2 (zR3 qh k) (1 - k % 2))) (n := 3) (f := (G k (1 - k % 2))) (j := 1) hx hb hK hr33 0 0 rfl rfl rfl (by omega) (by omega) dL_law_563 ?_
                            refine lv_icmp_ne (tgt := 599) hx hb dL_law_564 (by decide) (fun c564 => ?_) (fun c564 => ?_)
                            · exact absurd (by rw [hGf k (1 - k % 2) 1 (by omega) (by omega) (by omega), show 1 - k % 2 = 0 by omega]; exact z1_oth hk (by omega) (by omega)) c564
                            · refine lv_aload_n hx hb dL_law_567 rfl (lv_at hl 11 rfl) ?_
                              refine lv_iload hx hb dL_law_568 (lv_at hl 5 rfl) ?_
                              refine lv_iload hx hb dL_law_570 (lv_at hl 1 rfl) ?_
                              refine lv_if_ne (tgt := 579) hx hb dL_law_572 (by decide) (fun c572 => ?_) (fun c572 => ?_)
                              · have c572 := z_ne (a := k % 2) (b := 0) c572 (by omega) (by omega)
                                refine lv_iconst (v := 0) hx hb dL_law_579 (by decide) ?_
                                refine lv_iconst (v := 2) hx hb dL_law_580 (by decide) ?_
                                refine z_ki (va_runV (As := [.int (nI k), .int 0, .int 2]) (rest := []) hfix (zcX4_half_k0 l D cI H b n me lo c e ((rN n me lo c e (rd, tk, g) 1).1) ((rN n me lo c e (rd, tk, g) 1).2.1) (zgP n me lo c e rd tk g) k 2 hC hI (by omega) (by omega)) (cwV 3 hts gL_law_X4_half rfl rfl rfl (by decide +kernel) ⟨Nat.le_of_ble_eq_true rfl, Nat.le_of_ble_eq_true rfl⟩) (z_preV hK hK1 hC.1 (ci := 4) (q0 := 0) rfl rfl rfl) rfl rfl hl.1 rfl (lv_room (Nat.le_of_ble_eq_true rfl)) dL_law_581 ⟨by show ck + 0 ≤ 830515; omega, by show sk + 0 ≤ 6609922; omega⟩) ?_
                                refine lv_aload hx hb dL_law_584 (lv_at hl 15 rfl) ?_
                                refine lv_iload hx hb dL_law_586 (lv_at hl 5 rfl) ?_
                                refine z_aald (a := qh) (n := n) (f := (zbf n (zR3 qh))) (j := k) hx hb hK4 hV3.1 0 3 rfl rfl rfl rfl (by omega) (by omega) (zbf_in (by omega)) dL_law_588 ?_
                                refine lv_iconst (v := 1) hx hb dL_law_589 (by decide) ?_
                                refine lv_iload hx hb dL_law_590 (lv_at hl 1 rfl) ?_
                                refine lv_isub hx hb dL_law_592 ?_
                                refine z_toi (y := nI (1 - k % 2)) (pk_sub (a := 1) (by omega)) ?_
                                refine z_aald (a := (zR3 qh k)) (n := 2) (f := (zbf 2 (zR2 (zR3 qh k)))) (j := (1 - k % 2)) hx hb hK4 hr32 0 2 rfl rfl rfl rfl (by omega) (by omega) (zbf_in (by omega)) dL_law_593 ?_
                                refine lv_iconst (v := 2) hx hb dL_law_594 (by decide) ?_
                                refine z_iald (a := (zR2 (zR3 qh k) (1 - k % 2))) (n := 3) (f := (G k (1 - k % 2))) (j := 2) hx hb hK hr33 0 0 rfl rfl rfl (by omega) (by omega) dL_law_595 ?_
                                refine lv_icmp_eq (tgt := 601) hx hb dL_law_596 (by decide) (fun c596 => ?_) (fun c596 => ?_)
                                · refine lv_iload hx hb dL_law_601 (lv_at hl 2 rfl) ?_
                                  refine lv_if_eq (tgt := 701) hx hb dL_law_603 (by decide) (fun c603 => ?_) (fun c603 => ?_)
                                  · have c603 := z_eq (a := 0) (b := 0) c603 (by omega) (by omega)
                                    refine lv_aload_n hx hb dL_law_701 rfl (lv_at hl 11 rfl) ?_
                                    refine lv_iload hx hb dL_law_702 (lv_at hl 5 rfl) ?_
                                    refine lv_iload hx hb dL_law_704 (lv_at hl 1 rfl) ?_
                                    refine lv_iconst (v := 1) hx hb dL_law_706 (by decide) ?_
                                    refine lv_icmp_ne (tgt := 714) hx hb dL_law_707 (by decide) (fun c707 => ?_) (fun c707 => ?_)
                                    · have c707 := z_ne (a := k % 2) (b := 1) c707 (by omega) (by omega)
                                      omega
                                    · have c707 := z_eq (a := k % 2) (b := 1) c707 (by omega) (by omega)
                                      refine lv_iconst (v := 1) hx hb dL_law_710 (by decide) ?_
                                      refine lv_goto (tgt := 715) hx hb dL_law_711 (by decide) ?_
                                      refine lv_iconst (v := 0) hx hb dL_law_715 (by decide) ?_
                                      refine z_ki (va_runV (As := [.int (nI k), .int 1, .int 0]) (rest := []) hfix (zcX4_half_k1 l D cI H b n me lo c e ((rN n me lo c e (rd, tk, g) 1).1) ((rN n me lo c e (rd, tk, g) 1).2.1) (zgP n me lo c e rd tk g) k 0 hC hI (by omega) (by omega)) (cwV 3 hts gL_law_X4_half rfl rfl rfl (by decide +kernel) ⟨Nat.le_of_ble_eq_true rfl, Nat.le_of_ble_eq_true rfl⟩) (z_preV hK hK1 hC.1 (ci := 4) (q0 := 0) rfl rfl rfl) rfl rfl hl.1 rfl (lv_room (Nat.le_of_ble_eq_true rfl)) dL_law_716 ⟨by show ck + 0 ≤ 830515; omega, by show sk + 0 ≤ 6609922; omega⟩) ?_
                                      refine lv_aload hx hb dL_law_719 (lv_at hl 15 rfl) ?_
                                      refine lv_iload hx hb dL_law_721 (lv_at hl 5 rfl) ?_
                                      refine z_aald (a := qh) (n := n) (f := (zbf n (zR3 qh))) (j := k) hx hb hK4 hV3.1 0 3 rfl rfl rfl rfl (by omega) (by omega) (zbf_in (by omega)) dL_law_723 ?_
                                      refine lv_iload hx hb dL_law_724 (lv_at hl 1 rfl) ?_
                                      refine z_aald (a := (zR3 qh k)) (n := 2) (f := (zbf 2 (zR2 (zR3 qh k)))) (j := (k % 2)) hx hb hK4 hr32 0 2 rfl rfl rfl rfl (by omega) (by omega) (zbf_in (by omega)) dL_law_726 ?_
                                      have hr34 : va_P D vwCl (zAr cI (zR2 (zR3 qh k) (k % 2)) 3 (G k (k % 2))) H := (hV3.2 k (by omega)).2 (k % 2) (by omega)
                                      refine lv_iconst (v := 0) hx hb dL_law_727 (by decide) ?_
                                      refine z_iald (a := (zR2 (zR3 qh k) (k % 2))) (n := 3) (f := (G k (k % 2))) (j := 0) hx hb hK hr34 0 0 rfl rfl rfl (by omega) (by omega) dL_law_728 ?_
                                      refine lv_icmp_ne (tgt := 794) hx hb dL_law_729 (by decide) (fun c729 => ?_) (fun c729 => ?_)
                                      · exact absurd (by rw [hGf k (k % 2) 0 (by omega) (by omega) (by omega), show k % 2 = 1 by omega]; exact zkp_th (zkp_A hhc c423) hk (by omega) (by omega)) c729
                                      · refine lv_aload_n hx hb dL_law_732 rfl (lv_at hl 11 rfl) ?_
                                        refine lv_iload hx hb dL_law_733 (lv_at hl 5 rfl) ?_
                                        refine lv_iload hx hb dL_law_735 (lv_at hl 1 rfl) ?_
                                        refine lv_iconst (v := 1) hx hb dL_law_737 (by decide) ?_
                                        refine lv_icmp_ne (tgt := 745) hx hb dL_law_738 (by decide) (fun c738 => ?_) (fun c738 => ?_)
                                        · have c738 := z_ne (a := k % 2) (b := 1) c738 (by omega) (by omega)
                                          omega
                                        · have c738 := z_eq (a := k % 2) (b := 1) c738 (by omega) (by omega)
                                          refine lv_iconst (v := 1) hx hb dL_law_741 (by decide) ?_
                                          refine lv_goto (tgt := 746) hx hb dL_law_742 (by decide) ?_
                                          refine lv_iconst (v := 1) hx hb dL_law_746 (by decide) ?_
                                          refine z_ki (va_runV (As := [.int (nI k), .int 1, .int 1]) (rest := []) hfix (zcX4_half_k1 l D cI H b n me lo c e ((rN n me lo c e (rd, tk, g) 1).1) ((rN n me lo c e (rd, tk, g) 1).2.1) (zgP n me lo c e rd tk g) k 1 hC hI (by omega) (by omega)) (cwV 3 hts gL_law_X4_half rfl rfl rfl (by decide +kernel) ⟨Nat.le_of_ble_eq_true rfl, Nat.le_of_ble_eq_true rfl⟩) (z_preV hK hK1 hC.1 (ci := 4) (q0 := 0) rfl rfl rfl) rfl rfl hl.1 rfl (lv_room (Nat.le_of_ble_eq_true rfl)) dL_law_747 ⟨by show ck + 0 ≤ 830515; omega, by show sk + 0 ≤ 6609922; omega⟩) ?_
                                          refine lv_aload hx hb dL_law_750 (lv_at hl 15 rfl) ?_
                                          refine lv_iload hx hb dL_law_752 (lv_at hl 5 rfl) ?_
                                          refine z_aald (a := qh) (n := n) (f := (zbf n (zR3 qh))) (j := k) hx hb hK4 hV3.1 0 3 rfl rfl rfl rfl (by omega) (by omega) (zbf_in (by omega)) dL_law_754 ?_
                                          refine lv_iload hx hb dL_law_755 (lv_at hl 1 rfl) ?_
                                          refine z_aald (a := (zR3 qh k)) (n := 2) (f := (zbf 2 (zR2 (zR3 qh k)))) (j := (k % 2)) hx hb hK4 hr32 0 2 rfl rfl rfl rfl (by omega) (by omega) (zbf_in (by omega)) dL_law_757 ?_
                                          refine lv_iconst (v := 1) hx hb dL_law_758 (by decide) ?_
                                          refine z_iald (a := (zR2 (zR3 qh k) (k % 2))) (n := 3) (f := (G k (k % 2))) (j := 1) hx hb hK hr34 0 0 rfl rfl rfl (by omega) (by omega) dL_law_759 ?_
                                          refine lv_icmp_ne (tgt := 794) hx hb dL_law_760 (by decide) (fun c760 => ?_) (fun c760 => ?_)
                                          · exact absurd (by rw [hGf k (k % 2) 1 (by omega) (by omega) (by omega), show k % 2 = 1 by omega]; exact zkp_th (zkp_A hhc c423) hk (by omega) (by omega)) c760
                                          · refine lv_aload_n hx hb dL_law_763 rfl (lv_at hl 11 rfl) ?_
                                            refine lv_iload hx hb dL_law_764 (lv_at hl 5 rfl) ?_
                                            refine lv_iload hx hb dL_law_766 (lv_at hl 1 rfl) ?_
                                            refine lv_iconst (v := 1) hx hb dL_law_768 (by decide) ?_
                                            refine lv_icmp_ne (tgt := 776) hx hb dL_law_769 (by decide) (fun c769 => ?_) (fun c769 => ?_)
                                            · have c769 := z_ne (a := k % 2) (b := 1) c769 (by omega) (by omega)
                                              omega
                                            · have c769 := z_eq (a := k % 2) (b := 1) c769 (by omega) (by omega)
                                              refine lv_iconst (v := 1) hx hb dL_law_772 (by decide) ?_
                                              refine lv_goto (tgt := 777) hx hb dL_law_773 (by decide) ?_
                                              refine lv_iconst (v := 2) hx hb dL_law_777 (by decide) ?_
                                              refine z_ki (va_runV (As := [.int (nI k), .int 1, .int 2]) (rest := []) hfix (zcX4_half_k1 l D cI H b n me lo c e ((rN n me lo c e (rd, tk, g) 1).1) ((rN n me lo c e (rd, tk, g) 1).2.1) (zgP n me lo c e rd tk g) k 2 hC hI (by omega) (by omega)) (cwV 3 hts gL_law_X4_half rfl rfl rfl (by decide +kernel) ⟨Nat.le_of_ble_eq_true rfl, Nat.le_of_ble_eq_true rfl⟩) (z_preV hK hK1 hC.1 (ci := 4) (q0 := 0) rfl rfl rfl) rfl rfl hl.1 rfl (lv_room (Nat.le_of_ble_eq_true rfl)) dL_law_778 ⟨by show ck + 0 ≤ 830515; omega, by show sk + 0 ≤ 6609922; omega⟩) ?_
                                              refine lv_aload hx hb dL_law_781 (lv_at hl 15 rfl) ?_
                                              refine lv_iload hx hb dL_law_783 (lv_at hl 5 rfl) ?_
                                              refine z_aald (a := qh) (n := n) (f := (zbf n (zR3 qh))) (j := k) hx hb hK4 hV3.1 0 3 rfl rfl rfl rfl (by omega) (by omega) (zbf_in (by omega)) dL_law_785 ?_
                                              refine lv_iload hx hb dL_law_786 (lv_at hl 1 rfl) ?_
                                              refine z_aald (a := (zR3 qh k)) (n := 2) (f := (zbf 2 (zR2 (zR3 qh k)))) (j := (k % 2)) hx hb hK4 hr32 0 2 rfl rfl rfl rfl (by omega) (by omega) (zbf_in (by omega)) dL_law_788 ?_
                                              refine lv_iconst (v := 2) hx hb dL_law_789 (by decide) ?_
                                              refine z_iald (a := (zR2 (zR3 qh k) (k % 2))) (n := 3) (f := (G k (k % 2))) (j := 2) hx hb hK hr34 0 0 rfl rfl rfl (by omega) (by omega) dL_law_790 ?_
                                              refine lv_icmp_eq (tgt := 796) hx hb dL_law_791 (by decide) (fun c791 => ?_) (fun c791 => ?_)
                                              · refine lv_iload hx hb dL_law_796 (lv_at hl 4 rfl) ?_
                                                refine lv_if_ge (tgt := 811) hx hb dL_law_798 (by decide) (fun c798 => ?_) (fun c798 => ?_)
                                                · have c798 := z_le (a := 0) (b := o9) c798 (by omega) (by omega)
                                                  refine lv_iload hx hb dL_law_811 (lv_at hl 3 rfl) ?_
                                                  refine lv_if_eq (tgt := 833) hx hb dL_law_813 (by decide) (fun c813 => ?_) (fun c813 => ?_)
                                                  · exact absurd c813 (by decide)
                                                  · have c813 := z_ne (a := 1) (b := 0) c813 (by omega) (by omega)
                                                    refine lv_bipush (v := 9) hx hb dL_law_816 (by decide) ?_
                                                    refine lv_aload hx hb dL_law_818 (lv_at hl 14 rfl) ?_
                                                    refine lv_iload hx hb dL_law_820 (lv_at hl 5 rfl) ?_
                                                    refine z_aald (a := qw) (n := n) (f := (zbf n (zR2 qw))) (j := k) hx hb hK4 hW.1 0 2 rfl rfl rfl rfl (by omega) (by omega) (zbf_in (by omega)) dL_law_822 ?_
                                                    refine lv_iconst (v := 1) hx hb dL_law_823 (by decide) ?_
                                                    refine z_iald (a := (zR2 qw k)) (n := 7) (f := (F k)) (j := 1) hx hb hK hr10 0 0 rfl rfl rfl (by omega) (by omega) dL_law_824 ?_
                                                    refine z_toi (y := (g 6 k)) (hFf k 1 (by omega) (by omega)) ?_
                                                    refine lv_iconst (v := 1) hx hb dL_law_825 (by decide) ?_
                                                    refine lv_iadd hx hb dL_law_826 ?_
                                                    refine va_mmin hx hb (by rw [hml]; exact hl.1.symm) hown hwd5 hwd6 hwd7 (hwd8) (Nat.le_of_ble_eq_true rfl) (Nat.le_of_ble_eq_true rfl) (hck) (hsk) dL_law_827 ?_
                                                    refine z_toi (y := zmin 9 ((g 6 k) + 1)) rfl ?_
                                                    refine lv_goto (tgt := 851) hx hb dL_law_830 (by decide) ?_
                                                    refine lv_istore (lv' := [(22, .int (zmin 9 ((g 6 k) + 1))), (13, .int (((hA lo c e g (0, g) k).1) + 0)), (21, .int (nI (k % 2))), (20, .int 0), (19, .int 1), (18, .int (nI o9)), (17, .int (nI k)), (16, .int (nI (mo (zgP n me lo c e rd tk g) n k))), (15, .int (su (zgP n me lo c e rd tk g) k)), (14, .int (nI (ct (zgP n me lo c e rd tk g) k))), (3, .int (nI tm)), (0, .ref b0), (1, .ref b), (2, .ref o), (5, .int (nI n)), (6, .ref qw), (7, .ref qh), (8, .ref qt), (10, .int rd), (12, .int ((rN n me lo c e (rd, tk, g) 1).2.1 - tk))]) hx hb dL_law_851 hl (by decide) rfl (fun ls hl => ?_)
                                                    refine lv_iload hx hb dL_law_853 (lv_at hl 18 rfl) ?_
                                                    refine lv_aload hx hb dL_law_855 (lv_at hl 15 rfl) ?_
                                                    refine lv_iload hx hb dL_law_857 (lv_at hl 6 rfl) ?_
                                                    refine z_aald (a := qw) (n := n) (f := (zbf n (zR2 qw))) (j := k) hx hb hK4 hW.1 0 2 rfl rfl rfl rfl (by omega) (by omega) (zbf_in (by omega)) dL_law_859 ?_
                                                    refine lv_iconst (v := 2) hx hb dL_law_860 (by decide) ?_
                                                    refine z_iald (a := (zR2 qw k)) (n := 7) (f := (F k)) (j := 2) hx hb hK hr10 0 0 rfl rfl rfl (by omega) (by omega) dL_law_861 ?_
                                                    refine z_toi (y := (me k)) (hFf k 2 (by omega) (by omega)) ?_
                                                    refine lv_iconst (v := 1) hx hb dL_law_862 (by decide) ?_
                                                    refine lv_iadd hx hb dL_law_863 ?_
                                                    refine lv_irem hx hb dL_law_864 (zI_span0 hI hk) ?_
                                                    refine z_toi (y := zrem rd ((me k) + 1)) rfl ?_
                                                    refine lv_if_ne (tgt := 878) hx hb dL_law_865 (by decide) (fun c865 => ?_) (fun c865 => ?_)
                                                    · have hl : lv_has ls 25 [(22, .int (zmin 9 ((g 6 k) + 1))), (13, .int (((hA lo c e g (0, g) k).1) + 0)), (21, .int (nI (k % 2))), (20, .int 0), (19, .int 1), (18, .int (zo (hd lo e k (c k)))), (17, .int (nI k)), (16, .int (nI (mo (zgP n me lo c e rd tk g) n k))), (15, .int (su (zgP n me lo c e rd tk g) k)), (14, .int (nI (ct (zgP n me lo c e rd tk g) k))), (3, .int (nI tm)), (0, .ref b0), (1, .ref b), (2, .ref o), (5, .int (nI n)), (6, .ref qw), (7, .ref qh), (8, .ref qt), (10, .int rd), (12, .int ((rN n me lo c e (rd, tk, g) 1).2.1 - tk))] := by rw [hhc]; exact hl
                                                      have hl : lv_has ls 25 [(3, .int (nI tm)), (0, .ref b0), (1, .ref b), (2, .ref o), (5, .int (nI n)), (6, .ref qw), (7, .ref qh), (8, .ref qt), (10, .int rd), (12, .int ((rN n me lo c e (rd, tk, g) 1).2.1 - tk)), (13, .int (((hA lo c e g (0, g) k).1) + 0)), (14, .int (nI (ct (zgP n me lo c e rd tk g) k))), (15, .int (su (zgP n me lo c e rd tk g) k)), (16, .int (nI (mo (zgP n me lo c e rd tk g) n k))), (17, .int (nI k)), (18, .int (zo (hd lo e k (c k)))), (22, .int (zmin 9 ((g 6 k) + 1)))] := lv_sub hl [10, 11, 12, 13, 14, 15, 16, 17, 18, 19, 1, 9, 8, 7, 6, 5, 0] rfl
                                                      refine zlaw_T hfix hK4 hKw hX hb0 hb9 hbs hL hov2 hov3 ck sk hck hsk tm htm n me lo c e rd tk g k (((hA lo c e g (0, g) k).1) + 0) (zmin 9 ((g 6 k) + 1)) qw qh qt F hI hZ hV hN hn0 hZ1 hV1 hk hFf (zsv_n hk ((zkp_A hhc c423).2.1.trans (zmin_comm _ _)) c865) H lo0 hS hC hW (fun ls hl => ?_) _ hl
                                                      refine lv_iinc (v := (nI (k + 1))) (lv' := [(17, .int (nI (k + 1))), (3, .int (nI tm)), (0, .ref b0), (1, .ref b), (2, .ref o), (5, .int (nI n)), (6, .ref qw), (7, .ref qh), (8, .ref qt), (10, .int rd), (12, .int ((rN n me lo c e (rd, tk, g) 1).2.1 - tk)), (13, .int (((hA lo c e g (0, g) k).1) + 0)), (14, .int (nI (ct (zgP n me lo c e rd tk g) (k + 1)))), (15, .int (su (zgP n me lo c e rd tk g) (k + 1))), (16, .int (nI (mo (zgP n me lo c e rd tk g) n (k + 1))))]) hx hb dL_law_1102 hl (k := 14) rfl (nI_1 _) (by decide) rfl (fun ls hl => ?_)
                                                      refine lv_goto (tgt := 387) hx hb dL_law_1105 (by decide) ?_
                                                      exact ih (k + 1) (by omega) (by omega) _ (rfl) _ (rfl) _ (rfl) _ (rfl) _ (hA_kp (zkp_A hhc c423)) _ (lv_sub hl [0, 14, 13, 12, 11, 1, 2, 3, 4, 5, 6, 7, 8, 9, 10] rfl)
                                                    · refine lv_iconst (v := 0) hx hb dL_law_868 (by decide) ?_
                                                      refine lv_iload hx hb dL_law_869 (lv_at hl 0 rfl) ?_
                                                      refine lv_iconst (v := 1) hx hb dL_law_871 (by decide) ?_
                                                      refine lv_isub hx hb dL_law_872 ?_
                                                      refine va_mmax hx hb (by rw [hml]; exact hl.1.symm) hown hwd9 hwd10 hwd7 (hwd11) (Nat.le_of_ble_eq_true rfl) (Nat.le_of_ble_eq_true rfl) (hck) (hsk) dL_law_873 ?_
                                                      refine z_toi (y := zmax 0 ((zmin 9 ((g 6 k) + 1)) - 1)) rfl ?_
                                                      refine lv_istore (lv' := [(22, .int (zmax 0 ((zmin 9 ((g 6 k) + 1)) - 1))), (13, .int (((hA lo c e g (0, g) k).1) + 0)), (21, .int (nI (k % 2))), (20, .int 0), (19, .int 1), (18, .int (nI o9)), (17, .int (nI k)), (16, .int (nI (mo (zgP n me lo c e rd tk g) n k))), (15, .int (su (zgP n me lo c e rd tk g) k)), (14, .int (nI (ct (zgP n me lo c e rd tk g) k))), (3, .int (nI tm)), (0, .ref b0), (1, .ref b), (2, .ref o), (5, .int (nI n)), (6, .ref qw), (7, .ref qh), (8, .ref qt), (10, .int rd), (12, .int ((rN n me lo c e (rd, tk, g) 1).2.1 - tk))]) hx hb dL_law_876 hl (by decide) rfl (fun ls hl => ?_)
                                                      have hl : lv_has ls 25 [(22, .int (zmax 0 ((zmin 9 ((g 6 k) + 1)) - 1))), (13, .int (((hA lo c e g (0, g) k).1) + 0)), (21, .int (nI (k % 2))), (20, .int 0), (19, .int 1), (18, .int (zo (hd lo e k (c k)))), (17, .int (nI k)), (16, .int (nI (mo (zgP n me lo c e rd tk g) n k))), (15, .int (su (zgP n me lo c e rd tk g) k)), (14, .int (nI (ct (zgP n me lo c e rd tk g) k))), (3, .int (nI tm)), (0, .ref b0), (1, .ref b), (2, .ref o), (5, .int (nI n)), (6, .ref qw), (7, .ref qh), (8, .ref qt), (10, .int rd), (12, .int ((rN n me lo c e (rd, tk, g) 1).2.1 - tk))] := by rw [hhc]; exact hl
                                                      have hl : lv_has ls 25 [(3, .int (nI tm)), (0, .ref b0), (1, .ref b), (2, .ref o), (5, .int (nI n)), (6, .ref qw), (7, .ref qh), (8, .ref qt), (10, .int rd), (12, .int ((rN n me lo c e (rd, tk, g) 1).2.1 - tk)), (13, .int (((hA lo c e g (0, g) k).1) + 0)), (14, .int (nI (ct (zgP n me lo c e rd tk g) k))), (15, .int (su (zgP n me lo c e rd tk g) k)), (16, .int (nI (mo (zgP n me lo c e rd tk g) n k))), (17, .int (nI k)), (18, .int (zo (hd lo e k (c k)))), (22, .int (zmax 0 ((zmin 9 ((g 6 k) + 1)) - 1)))] := lv_sub hl [10, 11, 12, 13, 14, 15, 16, 17, 18, 19, 1, 9, 8, 7, 6, 5, 0] rfl
                                                      refine zlaw_T hfix hK4 hKw hX hb0 hb9 hbs hL hov2 hov3 ck sk hck hsk tm htm n me lo c e rd tk g k (((hA lo c e g (0, g) k).1) + 0) (zmax 0 ((zmin 9 ((g 6 k) + 1)) - 1)) qw qh qt F hI hZ hV hN hn0 hZ1 hV1 hk hFf (zsv_y hk ((zkp_A hhc c423).2.1.trans (zmin_comm _ _)) c865) H lo0 hS hC hW (fun ls hl => ?_) _ hl
                                                      refine lv_iinc (v := (nI (k + 1))) (lv' := [(17, .int (nI (k + 1))), (3, .int (nI tm)), (0, .ref b0), (1, .ref b), (2, .ref o), (5, .int (nI n)), (6, .ref qw), (7, .ref qh), (8, .ref qt), (10, .int rd), (12, .int ((rN n me lo c e (rd, tk, g) 1).2.1 - tk)), (13, .int (((hA lo c e g (0, g) k).1) + 0)), (14, .int (nI (ct (zgP n me lo c e rd tk g) (k + 1)))), (15, .int (su (zgP n me lo c e rd tk g) (k + 1))), (16, .int (nI (mo (zgP n me lo c e rd tk g) n (k + 1))))]) hx hb dL_law_1102 hl (k := 14) rfl (nI_1 _) (by decide) rfl (fun ls hl => ?_)
                                                      refine lv_goto (tgt := 387) hx hb dL_law_1105 (by decide) ?_
                                                      exact ih (k + 1) (by omega) (by omega) _ (rfl) _ (rfl) _ (rfl) _ (rfl) _ (hA_kp (zkp_A hhc c423)) _ (lv_sub hl [0, 14, 13, 12, 11, 1, 2, 3, 4, 5, 6, 7, 8, 9, 10] rfl)
                                                · have c798 := z_nle (a := 0) (b := o9) c798 (by omega) (by omega)
                                                  omega
                                              · exact absurd (by rw [hGf k (k % 2) 2 (by omega) (by omega) (by omega), show k % 2 = 1 by omega]; exact zkp_th (zkp_A hhc c423) hk (by omega) (by omega)) c791
                                  · exact absurd (by decide) c603
                                · exact absurd (by rw [hGf k (1 - k % 2) 2 (by omega) (by omega) (by omega), show 1 - k % 2 = 0 by omega]; exact z1_oth hk (by omega) (by omega)) c596
                              · have c572 := z_eq (a := k % 2) (b := 0) c572 (by omega) (by omega)
                                exact absurd c572 c508
                          · have c540 := z_eq (a := k % 2) (b := 0) c540 (by omega) (by omega)
                            exact absurd c540 c508
                      · have c508 := z_eq (a := k % 2) (b := 0) c508 (by omega) (by omega)
                        refine lv_iconst (v := 1) hx hb dL_law_511 (by decide) ?_
                        refine lv_goto (tgt := 516) hx hb dL_law_512 (by decide) ?_
                        refine lv_iconst (v := 0) hx hb dL_law_516 (by decide) ?_
                        refine z_ki (va_runV (As := [.int (nI k), .int 1, .int 0]) (rest := []) hfix (zcX4_half_k1 l D cI H b n me lo c e ((rN n me lo c e (rd, tk, g) 1).1) ((rN n me lo c e (rd, tk, g) 1).2.1) (zgP n me lo c e rd tk g) k 0 hC hI (by omega) (by omega)) (cwV 3 hts gL_law_X4_half rfl rfl rfl (by decide +kernel) ⟨Nat.le_of_ble_eq_true rfl, Nat.le_of_ble_eq_true rfl⟩) (z_preV hK hK1 hC.1 (ci := 4) (q0 := 0) rfl rfl rfl) rfl rfl hl.1 rfl (lv_room (Nat.le_of_ble_eq_true rfl)) dL_law_517 ⟨by show ck + 0 ≤ 830515; omega, by show sk + 0 ≤ 6609922; omega⟩) ?_
                        refine lv_aload hx hb dL_law_520 (lv_at hl 15 rfl) ?_
                        refine lv_iload hx hb dL_law_522 (lv_at hl 5 rfl) ?_
                        refine z_aald (a := qh) (n := n) (f := (zbf n (zR3 qh))) (j := k) hx hb hK4 hV3.1 0 3 rfl rfl rfl rfl (by omega) (by omega) (zbf_in (by omega)) dL_law_524 ?_
                        have hr35 : va_P D vwCl (zQr cA (zR3 qh k) 2 (zbf 2 (zR2 (zR3 qh k)))) H := (hV3.2 k (by omega)).1
                        refine lv_iconst (v := 1) hx hb dL_law_525 (by decide) ?_
                        refine lv_iload hx hb dL_law_526 (lv_at hl 1 rfl) ?_
                        refine lv_isub hx hb dL_law_528 ?_
                        refine z_toi (y := nI (1 - k % 2)) (pk_sub (a := 1) (by omega)) ?_
                        refine z_aald (a := (zR3 qh k)) (n := 2) (f := (zbf 2 (zR2 (zR3 qh k)))) (j := (1 - k % 2)) hx hb hK4 hr35 0 2 rfl rfl rfl rfl (by omega) (by omega) (zbf_in (by omega)) dL_law_529 ?_
                        have hr36 : va_P D vwCl (zAr cI (zR2 (zR3 qh k) (1 - k % 2)) 3 (G k (1 - k % 2))) H := (hV3.2 k (by omega)).2 (1 - k % 2) (by omega)
                        refine lv_iconst (v := 0) hx hb dL_law_530 (by decide) ?_
                        refine z_iald (a := (zR2 (zR3 qh k) (1 - k % 2))) (n := 3) (f := (G k (1 - k % 2))) (j := 0) hx hb hK hr36 0 0 rfl rfl rfl (by omega) (by omega) dL_law_531 ?_
                        refine lv_icmp_ne (tgt := 599) hx hb dL_law_532 (by decide) (fun c532 => ?_) (fun c532 => ?_)
                        · exact absurd (by rw [hGf k (1 - k % 2) 0 (by omega) (by omega) (by omega), show 1 - k % 2 = 1 by omega]; exact z1_oth hk (by omega) (by omega)) c532
                        · refine lv_aload_n hx hb dL_law_535 rfl (lv_at hl 11 rfl) ?_
                          refine lv_iload hx hb dL_law_536 (lv_at hl 5 rfl) ?_
                          refine lv_iload hx hb dL_law_538 (lv_at hl 1 rfl) ?_
                          refine lv_if_ne (tgt := 547) hx hb dL_law_540 (by decide) (fun c540 => ?_) (fun c540 => ?_)
                          · have c540 := z_ne (a := k % 2) (b := 0) c540 (by omega) (by omega)
                            exact absurd c508 c540
                          · have c540 := z_eq (a := k % 2) (b := 0) c540 (by omega) (by omega)
                            refine lv_iconst (v := 1) hx hb dL_law_543 (by decide) ?_
                            refine lv_goto (tgt := 548) hx hb dL_law_544 (by decide) ?_
                            refine lv_iconst (v := 1) hx hb dL_law_548 (by decide) ?_
                            refine z_ki (va_runV (As := [.int (nI k), .int 1, .int 1]) (rest := []) hfix (zcX4_half_k1 l D cI H b n me lo c e ((rN n me lo c e (rd, tk, g) 1).1) ((rN n me lo c e (rd, tk, g) 1).2.1) (zgP n me lo c e rd tk g) k 1 hC hI (by omega) (by omega)) (cwV 3 hts gL_law_X4_half rfl rfl rfl (by decide +kernel) ⟨Nat.le_of_ble_eq_true rfl, Nat.le_of_ble_eq_true rfl⟩) (z_preV hK hK1 hC.1 (ci := 4) (q0 := 0) rfl rfl rfl) rfl rfl hl.1 rfl (lv_room (Nat.le_of_ble_eq_true rfl)) dL_law_549 ⟨by show ck + 0 ≤ 830515; omega, by show sk + 0 ≤ 6609922; omega⟩) ?_
                            refine lv_aload hx hb dL_law_552 (lv_at hl 15 rfl) ?_
                            refine lv_iload hx hb dL_law_554 (lv_at hl 5 rfl) ?_
                            refine z_aald (a := qh) (n := n) (f := (zbf n (zR3 qh))) (j := k) hx hb hK4 hV3.1 0 3 rfl rfl rfl rfl (by omega) (by omega) (zbf_in (by omega)) dL_law_556 ?_
                            refine lv_iconst (v := 1) hx hb dL_law_557 (by decide) ?_
                            refine lv_iload hx hb dL_law_558 (lv_at hl 1 rfl) ?_
                            refine lv_isub hx hb dL_law_560 ?_
                            refine z_toi (y := nI (1 - k % 2)) (pk_sub (a := 1) (by omega)) ?_
                            refine z_aald (a := (zR3 qh k)) (n := 2) (f := (zbf 2 (zR2 (zR3 qh k)))) (j := (1 - k % 2)) hx hb hK4 hr35 0 2 rfl rfl rfl rfl (by omega) (by omega) (zbf_in (by omega)) dL_law_561 ?_
                            refine lv_iconst (v := 1) hx hb dL_law_562 (by decide) ?_
                            refine z_iald (a := (zR2 (zR3 qh k) (1 - k % 2))) (n := 3) (f := (G k (1 - k % 2))) (j := 1) hx hb hK hr36 0 0 rfl rfl rfl (by omega) (by omega) dL_law_563 ?_
                            refine lv_icmp_ne (tgt := 599) hx hb dL_law_564 (by decide) (fun c564 => ?_) (fun c564 => ?_)
                            · exact absurd (by rw [hGf k (1 - k % 2) 1 (by omega) (by omega) (by omega), show 1 - k % 2 = 1 by omega]; exact z1_oth hk (by omega) (by omega)) c564
                            · refine lv_aload_n hx hb dL_law_567 rfl (lv_at hl 11 rfl) ?_
                              refine lv_iload hx hb dL_law_568 (lv_at hl 5 rfl) ?_
                              refine lv_iload hx hb dL_law_570 (lv_at hl 1 rfl) ?_
                              refine lv_if_ne (tgt := 579) hx hb dL_law_572 (by decide) (fun c572 => ?_) (fun c572 => ?_)
                              · have c572 := z_ne (a := k % 2) (b := 0) c572 (by omega) (by omega)
                                exact absurd c508 c572
                              · have c572 := z_eq (a := k % 2) (b := 0) c572 (by omega) (by omega)
                                refine lv_iconst (v := 1) hx hb dL_law_575 (by decide) ?_
                                refine lv_goto (tgt := 580) hx hb dL_law_576 (by decide) ?_
                                refine lv_iconst (v := 2) hx hb dL_law_580 (by decide) ?_
                                refine z_ki (va_runV (As := [.int (nI k), .int 1, .int 2]) (rest := []) hfix (zcX4_half_k1 l D cI H b n me lo c e ((rN n me lo c e (rd, tk, g) 1).1) ((rN n me lo c e (rd, tk, g) 1).2.1) (zgP n me lo c e rd tk g) k 2 hC hI (by omega) (by omega)) (cwV 3 hts gL_law_X4_half rfl rfl rfl (by decide +kernel) ⟨Nat.le_of_ble_eq_true rfl, Nat.le_of_ble_eq_true rfl⟩) (z_preV hK hK1 hC.1 (ci := 4) (q0 := 0) rfl rfl rfl) rfl rfl hl.1 rfl (lv_room (Nat.le_of_ble_eq_true rfl)) dL_law_581 ⟨by show ck + 0 ≤ 830515; omega, by show sk + 0 ≤ 6609922; omega⟩) ?_
                                refine lv_aload hx hb dL_law_584 (lv_at hl 15 rfl) ?_
                                refine lv_iload hx hb dL_law_586 (lv_at hl 5 rfl) ?_
                                refine z_aald (a := qh) (n := n) (f := (zbf n (zR3 qh))) (j := k) hx hb hK4 hV3.1 0 3 rfl rfl rfl rfl (by omega) (by omega) (zbf_in (by omega)) dL_law_588 ?_
                                refine lv_iconst (v := 1) hx hb dL_law_589 (by decide) ?_
                                refine lv_iload hx hb dL_law_590 (lv_at hl 1 rfl) ?_
                                refine lv_isub hx hb dL_law_592 ?_
                                refine z_toi (y := nI (1 - k % 2)) (pk_sub (a := 1) (by omega)) ?_
                                refine z_aald (a := (zR3 qh k)) (n := 2) (f := (zbf 2 (zR2 (zR3 qh k)))) (j := (1 - k % 2)) hx hb hK4 hr35 0 2 rfl rfl rfl rfl (by omega) (by omega) (zbf_in (by omega)) dL_law_593 ?_
                                refine lv_iconst (v := 2) hx hb dL_law_594 (by decide) ?_
                                refine z_iald (a := (zR2 (zR3 qh k) (1 - k % 2))) (n := 3) (f := (G k (1 - k % 2))) (j := 2) hx hb hK hr36 0 0 rfl rfl rfl (by omega) (by omega) dL_law_595 ?_
                                refine lv_icmp_eq (tgt := 601) hx hb dL_law_596 (by decide) (fun c596 => ?_) (fun c596 => ?_)
                                · refine lv_iload hx hb dL_law_601 (lv_at hl 2 rfl) ?_
                                  refine lv_if_eq (tgt := 701) hx hb dL_law_603 (by decide) (fun c603 => ?_) (fun c603 => ?_)
                                  · have c603 := z_eq (a := 0) (b := 0) c603 (by omega) (by omega)
                                    refine lv_aload_n hx hb dL_law_701 rfl (lv_at hl 11 rfl) ?_
                                    refine lv_iload hx hb dL_law_702 (lv_at hl 5 rfl) ?_
                                    refine lv_iload hx hb dL_law_704 (lv_at hl 1 rfl) ?_
                                    refine lv_iconst (v := 1) hx hb dL_law_706 (by decide) ?_
                                    refine lv_icmp_ne (tgt := 714) hx hb dL_law_707 (by decide) (fun c707 => ?_) (fun c707 => ?_)
                                    · have c707 := z_ne (a := k % 2) (b := 1) c707 (by omega) (by omega)
                                      refine lv_iconst (v := 0) hx hb dL_law_714 (by decide) ?_
                                      refine lv_iconst (v := 0) hx hb dL_law_715 (by decide) ?_
                                      refine z_ki (va_runV (As := [.int (nI k), .int 0, .int 0]) (rest := []) hfix (zcX4_half_k0 l D cI H b n me lo c e ((rN n me lo c e (rd, tk, g) 1).1) ((rN n me lo c e (rd, tk, g) 1).2.1) (zgP n me lo c e rd tk g) k 0 hC hI (by omega) (by omega)) (cwV 3 hts gL_law_X4_half rfl rfl rfl (by decide +kernel) ⟨Nat.le_of_ble_eq_true rfl, Nat.le_of_ble_eq_true rfl⟩) (z_preV hK hK1 hC.1 (ci := 4) (q0 := 0) rfl rfl rfl) rfl rfl hl.1 rfl (lv_room (Nat.le_of_ble_eq_true rfl)) dL_law_716 ⟨by show ck + 0 ≤ 830515; omega, by show sk + 0 ≤ 6609922; omega⟩) ?_
                                      refine lv_aload hx hb dL_law_719 (lv_at hl 15 rfl) ?_
                                      refine lv_iload hx hb dL_law_721 (lv_at hl 5 rfl) ?_
                                      refine z_aald (a := qh) (n := n) (f := (zbf n (zR3 qh))) (j := k) hx hb hK4 hV3.1 0 3 rfl rfl rfl rfl (by omega) (by omega) (zbf_in (by omega)) dL_law_723 ?_
                                      refine lv_iload hx hb dL_law_724 (lv_at hl 1 rfl) ?_
                                      refine z_aald (a := (zR3 qh k)) (n := 2) (f := (zbf 2 (zR2 (zR3 qh k)))) (j := (k % 2)) hx hb hK4 hr35 0 2 rfl rfl rfl rfl (by omega) (by omega) (zbf_in (by omega)) dL_law_726 ?_
                                      have hr37 : va_P D vwCl (zAr cI (zR2 (zR3 qh k) (k % 2)) 3 (G k (k % 2))) H := (hV3.2 k (by omega)).2 (k % 2) (by omega)
                                      refine lv_iconst (v := 0) hx hb dL_law_727 (by decide) ?_
                                      refine z_iald (a := (zR2 (zR3 qh k) (k % 2))) (n := 3) (f := (G k (k % 2))) (j := 0) hx hb hK hr37 0 0 rfl rfl rfl (by omega) (by omega) dL_law_728 ?_
                                      refine lv_icmp_ne (tgt := 794) hx hb dL_law_729 (by decide) (fun c729 => ?_) (fun c729 => ?_)
                                      · exact absurd (by rw [hGf k (k % 2) 0 (by omega) (by omega) (by omega), show k % 2 = 0 by omega]; exact zkp_th (zkp_A hhc c423) hk (by omega) (by omega)) c729
                                      · refine lv_aload_n hx hb dL_law_732 rfl (lv_at hl 11 rfl) ?_
                                        refine lv_iload hx hb dL_law_733 (lv_at hl 5 rfl) ?_
                                        refine lv_iload hx hb dL_law_735 (lv_at hl 1 rfl) ?_
                                        refine lv_iconst (v := 1) hx hb dL_law_737 (by decide) ?_
                                        refine lv_icmp_ne (tgt := 745) hx hb dL_law_738 (by decide) (fun c738 => ?_) (fun c738 => ?_)
                                        · have c738 := z_ne (a := k % 2) (b := 1) c738 (by omega) (by omega)
                                          refine lv_iconst (v := 0) hx hb dL_law_745 (by decide) ?_
                                          refine lv_iconst (v := 1) hx hb dL_law_746 (by decide) ?_
                                          refine z_ki (va_runV (As := [.int (nI k), .int 0, .int 1]) (rest := []) hfix (zcX4_half_k0 l D cI H b n me lo c e ((rN n me lo c e (rd, tk, g) 1).1) ((rN n me lo c e (rd, tk, g) 1).2.1) (zgP n me lo c e rd tk g) k 1 hC hI (by omega) (by omega)) (cwV 3 hts gL_law_X4_half rfl rfl rfl (by decide +kernel) ⟨Nat.le_of_ble_eq_true rfl, Nat.le_of_ble_eq_true rfl⟩) (z_preV hK hK1 hC.1 (ci := 4) (q0 := 0) rfl rfl rfl) rfl rfl hl.1 rfl (lv_room (Nat.le_of_ble_eq_true rfl)) dL_law_747 ⟨by show ck + 0 ≤ 830515; omega, by show sk + 0 ≤ 6609922; omega⟩) ?_
                                          refine lv_aload hx hb dL_law_750 (lv_at hl 15 rfl) ?_
                                          refine lv_iload hx hb dL_law_752 (lv_at hl 5 rfl) ?_
                                          refine z_aald (a := qh) (n := n) (f := (zbf n (zR3 qh))) (j := k) hx hb hK4 hV3.1 0 3 rfl rfl rfl rfl (by omega) (by omega) (zbf_in (by omega)) dL_law_754 ?_
                                          refine lv_iload hx hb dL_law_755 (lv_at hl 1 rfl) ?_
                                          refine z_aald (a := (zR3 qh k)) (n := 2) (f := (zbf 2 (zR2 (zR3 qh k)))) (j := (k % 2)) hx hb hK4 hr35 0 2 rfl rfl rfl rfl (by omega) (by omega) (zbf_in (by omega)) dL_law_757 ?_
                                          refine lv_iconst (v := 1) hx hb dL_law_758 (by decide) ?_
                                          refine z_iald (a := (zR2 (zR3 qh k) (k % 2))) (n := 3) (f := (G k (k % 2))) (j := 1) hx hb hK hr37 0 0 rfl rfl rfl (by omega) (by omega) dL_law_759 ?_
                                          refine lv_icmp_ne (tgt := 794) hx hb dL_law_760 (by decide) (fun c760 => ?_) (fun c760 => ?_)
                                          · exact absurd (by rw [hGf k (k % 2) 1 (by omega) (by omega) (by omega), show k % 2 = 0 by omega]; exact zkp_th (zkp_A hhc c423) hk (by omega) (by omega)) c760
                                          · refine lv_aload_n hx hb dL_law_763 rfl (lv_at hl 11 rfl) ?_
                                            refine lv_iload hx hb dL_law_764 (lv_at hl 5 rfl) ?_
                                            refine lv_iload hx hb dL_law_766 (lv_at hl 1 rfl) ?_
                                            refine lv_iconst (v := 1) hx hb dL_law_768 (by decide) ?_
                                            refine lv_icmp_ne (tgt := 776) hx hb dL_law_769 (by decide) (fun c769 => ?_) (fun c769 => ?_)
                                            · have c769 := z_ne (a := k % 2) (b := 1) c769 (by omega) (by omega)
                                              refine lv_iconst (v := 0) hx hb dL_law_776 (by decide) ?_
                                              refine lv_iconst (v := 2) hx hb dL_law_777 (by decide) ?_
                                              refine z_ki (va_runV (As := [.int (nI k), .int 0, .int 2]) (rest := []) hfix (zcX4_half_k0 l D cI H b n me lo c e ((rN n me lo c e (rd, tk, g) 1).1) ((rN n me lo c e (rd, tk, g) 1).2.1) (zgP n me lo c e rd tk g) k 2 hC hI (by omega) (by omega)) (cwV 3 hts gL_law_X4_half rfl rfl rfl (by decide +kernel) ⟨Nat.le_of_ble_eq_true rfl, Nat.le_of_ble_eq_true rfl⟩) (z_preV hK hK1 hC.1 (ci := 4) (q0 := 0) rfl rfl rfl) rfl rfl hl.1 rfl (lv_room (Nat.le_of_ble_eq_true rfl)) dL_law_778 ⟨by show ck + 0 ≤ 830515; omega, by show sk + 0 ≤ 6609922; omega⟩) ?_
                                              refine lv_aload hx hb dL_law_781 (lv_at hl 15 rfl) ?_
                                              refine lv_iload hx hb dL_law_783 (lv_at hl 5 rfl) ?_
                                              refine z_aald (a := qh) (n := n) (f := (zbf n (zR3 qh))) (j := k) hx hb hK4 hV3.1 0 3 rfl rfl rfl rfl (by omega) (by omega) (zbf_in (by omega)) dL_law_785 ?_
                                              refine lv_iload hx hb dL_law_786 (lv_at hl 1 rfl) ?_
                                              refine z_aald (a := (zR3 qh k)) (n := 2) (f := (zbf 2 (zR2 (zR3 qh k)))) (j := (k % 2)) hx hb hK4 hr35 0 2 rfl rfl rfl rfl (by omega) (by omega) (zbf_in (by omega)) dL_law_788 ?_
                                              refine lv_iconst (v := 2) hx hb dL_law_789 (by decide) ?_
                                              refine z_iald (a := (zR2 (zR3 qh k) (k % 2))) (n := 3) (f := (G k (k % 2))) (j := 2) hx hb hK hr37 0 0 rfl rfl rfl (by omega) (by omega) dL_law_790 ?_
                                              refine lv_icmp_eq (tgt := 796) hx hb dL_law_791 (by decide) (fun c791 => ?_) (fun c791 => ?_)
                                              · refine lv_iload hx hb dL_law_796 (lv_at hl 4 rfl) ?_
                                                refine lv_if_ge (tgt := 811) hx hb dL_law_798 (by decide) (fun c798 => ?_) (fun c798 => ?_)
                                                · have c798 := z_le (a := 0) (b := o9) c798 (by omega) (by omega)
                                                  refine lv_iload hx hb dL_law_811 (lv_at hl 3 rfl) ?_
                                                  refine lv_if_eq (tgt := 833) hx hb dL_law_813 (by decide) (fun c813 => ?_) (fun c813 => ?_)
                                                  · exact absurd c813 (by decide)
                                                  · have c813 := z_ne (a := 1) (b := 0) c813 (by omega) (by omega)
                                                    refine lv_bipush (v := 9) hx hb dL_law_816 (by decide) ?_
                                                    refine lv_aload hx hb dL_law_818 (lv_at hl 14 rfl) ?_
                                                    refine lv_iload hx hb dL_law_820 (lv_at hl 5 rfl) ?_
                                                    refine z_aald (a := qw) (n := n) (f := (zbf n (zR2 qw))) (j := k) hx hb hK4 hW.1 0 2 rfl rfl rfl rfl (by omega) (by omega) (zbf_in (by omega)) dL_law_822 ?_
                                                    refine lv_iconst (v := 1) hx hb dL_law_823 (by decide) ?_
                                                    refine z_iald (a := (zR2 qw k)) (n := 7) (f := (F k)) (j := 1) hx hb hK hr10 0 0 rfl rfl rfl (by omega) (by omega) dL_law_824 ?_
                                                    refine z_toi (y := (g 6 k)) (hFf k 1 (by omega) (by omega)) ?_
                                                    refine lv_iconst (v := 1) hx hb dL_law_825 (by decide) ?_
                                                    refine lv_iadd hx hb dL_law_826 ?_
                                                    refine va_mmin hx hb (by rw [hml]; exact hl.1.symm) hown hwd5 hwd6 hwd7 (hwd8) (Nat.le_of_ble_eq_true rfl) (Nat.le_of_ble_eq_true rfl) (hck) (hsk) dL_law_827 ?_
                                                    refine z_toi (y := zmin 9 ((g 6 k) + 1)) rfl ?_
                                                    refine lv_goto (tgt := 851) hx hb dL_law_830 (by decide) ?_
                                                    refine lv_istore (lv' := [(22, .int (zmin 9 ((g 6 k) + 1))), (13, .int (((hA lo c e g (0, g) k).1) + 0)), (21, .int (nI (k % 2))), (20, .int 0), (19, .int 1), (18, .int (nI o9)), (17, .int (nI k)), (16, .int (nI (mo (zgP n me lo c e rd tk g) n k))), (15, .int (su (zgP n me lo c e rd tk g) k)), (14, .int (nI (ct (zgP n me lo c e rd tk g) k))), (3, .int (nI tm)), (0, .ref b0), (1, .ref b), (2, .ref o), (5, .int (nI n)), (6, .ref qw), (7, .ref qh), (8, .ref qt), (10, .int rd), (12, .int ((rN n me lo c e (rd, tk, g) 1).2.1 - tk))]) hx hb dL_law_851 hl (by decide) rfl (fun ls hl => ?_)
                                                    refine lv_iload hx hb dL_law_853 (lv_at hl 18 rfl) ?_
                                                    refine lv_aload hx hb dL_law_855 (lv_at hl 15 rfl) ?_
                                                    refine lv_iload hx hb dL_law_857 (lv_at hl 6 rfl) ?_
                                                    refine z_aald (a := qw) (n := n) (f := (zbf n (zR2 qw))) (j := k) hx hb hK4 hW.1 0 2 rfl rfl rfl rfl (by omega) (by omega) (zbf_in (by omega)) dL_law_859 ?_
                                                    refine lv_iconst (v := 2) hx hb dL_law_860 (by decide) ?_
                                                    refine z_iald (a := (zR2 qw k)) (n := 7) (f := (F k)) (j := 2) hx hb hK hr10 0 0 rfl rfl rfl (by omega) (by omega) dL_law_861 ?_
                                                    refine z_toi (y := (me k)) (hFf k 2 (by omega) (by omega)) ?_
                                                    refine lv_iconst (v := 1) hx hb dL_law_862 (by decide) ?_
                                                    refine lv_iadd hx hb dL_law_863 ?_
                                                    refine lv_irem hx hb dL_law_864 (zI_span0 hI hk) ?_
                                                    refine z_toi (y := zrem rd ((me k) + 1)) rfl ?_
                                                    refine lv_if_ne (tgt := 878) hx hb dL_law_865 (by decide) (fun c865 => ?_) (fun c865 => ?_)
                                                    · have hl : lv_has ls 25 [(22, .int (zmin 9 ((g 6 k) + 1))), (13, .int (((hA lo c e g (0, g) k).1) + 0)), (21, .int (nI (k % 2))), (20, .int 0), (19, .int 1), (18, .int (zo (hd lo e k (c k)))), (17, .int (nI k)), (16, .int (nI (mo (zgP n me lo c e rd tk g) n k))), (15, .int (su (zgP n me lo c e rd tk g) k)), (14, .int (nI (ct (zgP n me lo c e rd tk g) k))), (3, .int (nI tm)), (0, .ref b0), (1, .ref b), (2, .ref o), (5, .int (nI n)), (6, .ref qw), (7, .ref qh), (8, .ref qt), (10, .int rd), (12, .int ((rN n me lo c e (rd, tk, g) 1).2.1 - tk))] := by rw [hhc]; exact hl
                                                      have hl : lv_has ls 25 [(3, .int (nI tm)), (0, .ref b0), (1, .ref b), (2, .ref o), (5, .int (nI n)), (6, .ref qw), (7, .ref qh), (8, .ref qt), (10, .int rd), (12, .int ((rN n me lo c e (rd, tk, g) 1).2.1 - tk)), (13, .int (((hA lo c e g (0, g) k).1) + 0)), (14, .int (nI (ct (zgP n me lo c e rd tk g) k))), (15, .int (su (zgP n me lo c e rd tk g) k)), (16, .int (nI (mo (zgP n me lo c e rd tk g) n k))), (17, .int (nI k)), (18, .int (zo (hd lo e k (c k)))), (22, .int (zmin 9 ((g 6 k) + 1)))] := lv_sub hl [10, 11, 12, 13, 14, 15, 16, 17, 18, 19, 1, 9, 8, 7, 6, 5, 0] rfl
                                                      refine zlaw_T hfix hK4 hKw hX hb0 hb9 hbs hL hov2 hov3 ck sk hck hsk tm htm n me lo c e rd tk g k (((hA lo c e g (0, g) k).1) + 0) (zmin 9 ((g 6 k) + 1)) qw qh qt F hI hZ hV hN hn0 hZ1 hV1 hk hFf (zsv_n hk ((zkp_A hhc c423).2.1.trans (zmin_comm _ _)) c865) H lo0 hS hC hW (fun ls hl => ?_) _ hl
                                                      refine lv_iinc (v := (nI (k + 1))) (lv' := [(17, .int (nI (k + 1))), (3, .int (nI tm)), (0, .ref b0), (1, .ref b), (2, .ref o), (5, .int (nI n)), (6, .ref qw), (7, .ref qh), (8, .ref qt), (10, .int rd), (12, .int ((rN n me lo c e (rd, tk, g) 1).2.1 - tk)), (13, .int (((hA lo c e g (0, g) k).1) + 0)), (14, .int (nI (ct (zgP n me lo c e rd tk g) (k + 1)))), (15, .int (su (zgP n me lo c e rd tk g) (k + 1))), (16, .int (nI (mo (zgP n me lo c e rd tk g) n (k + 1))))]) hx hb dL_law_1102 hl (k := 14) rfl (nI_1 _) (by decide) rfl (fun ls hl => ?_)
                                                      refine lv_goto (tgt := 387) hx hb dL_law_1105 (by decide) ?_
                                                      exact ih (k + 1) (by omega) (by omega) _ (rfl) _ (rfl) _ (rfl) _ (rfl) _ (hA_kp (zkp_A hhc c423)) _ (lv_sub hl [0, 14, 13, 12, 11, 1, 2, 3, 4, 5, 6, 7, 8, 9, 10] rfl)
                                                    · refine lv_iconst (v := 0) hx hb dL_law_868 (by decide) ?_
                                                      refine lv_iload hx hb dL_law_869 (lv_at hl 0 rfl) ?_
                                                      refine lv_iconst (v := 1) hx hb dL_law_871 (by decide) ?_
                                                      refine lv_isub hx hb dL_law_872 ?_
                                                      refine va_mmax hx hb (by rw [hml]; exact hl.1.symm) hown hwd9 hwd10 hwd7 (hwd11) (Nat.le_of_ble_eq_true rfl) (Nat.le_of_ble_eq_true rfl) (hck) (hsk) dL_law_873 ?_
                                                      refine z_toi (y := zmax 0 ((zmin 9 ((g 6 k) + 1)) - 1)) rfl ?_
                                                      refine lv_istore (lv' := [(22, .int (zmax 0 ((zmin 9 ((g 6 k) + 1)) - 1))), (13, .int (((hA lo c e g (0, g) k).1) + 0)), (21, .int (nI (k % 2))), (20, .int 0), (19, .int 1), (18, .int (nI o9)), (17, .int (nI k)), (16, .int (nI (mo (zgP n me lo c e rd tk g) n k))), (15, .int (su (zgP n me lo c e rd tk g) k)), (14, .int (nI (ct (zgP n me lo c e rd tk g) k))), (3, .int (nI tm)), (0, .ref b0), (1, .ref b), (2, .ref o), (5, .int (nI n)), (6, .ref qw), (7, .ref qh), (8, .ref qt), (10, .int rd), (12, .int ((rN n me lo c e (rd, tk, g) 1).2.1 - tk))]) hx hb dL_law_876 hl (by decide) rfl (fun ls hl => ?_)
                                                      have hl : lv_has ls 25 [(22, .int (zmax 0 ((zmin 9 ((g 6 k) + 1)) - 1))), (13, .int (((hA lo c e g (0, g) k).1) + 0)), (21, .int (nI (k % 2))), (20, .int 0), (19, .int 1), (18, .int (zo (hd lo e k (c k)))), (17, .int (nI k)), (16, .int (nI (mo (zgP n me lo c e rd tk g) n k))), (15, .int (su (zgP n me lo c e rd tk g) k)), (14, .int (nI (ct (zgP n me lo c e rd tk g) k))), (3, .int (nI tm)), (0, .ref b0), (1, .ref b), (2, .ref o), (5, .int (nI n)), (6, .ref qw), (7, .ref qh), (8, .ref qt), (10, .int rd), (12, .int ((rN n me lo c e (rd, tk, g) 1).2.1 - tk))] := by rw [hhc]; exact hl
                                                      have hl : lv_has ls 25 [(3, .int (nI tm)), (0, .ref b0), (1, .ref b), (2, .ref o), (5, .int (nI n)), (6, .ref qw), (7, .ref qh), (8, .ref qt), (10, .int rd), (12, .int ((rN n me lo c e (rd, tk, g) 1).2.1 - tk)), (13, .int (((hA lo c e g (0, g) k).1) + 0)), (14, .int (nI (ct (zgP n me lo c e rd tk g) k))), (15, .int (su (zgP n me lo c e rd tk g) k)), (16, .int (nI (mo (zgP n me lo c e rd tk g) n k))), (17, .int (nI k)), (18, .int (zo (hd lo e k (c k)))), (22, .int (zmax 0 ((zmin 9 ((g 6 k) + 1)) - 1)))] := lv_sub hl [10, 11, 12, 13, 14, 15, 16, 17, 18, 19, 1, 9, 8, 7, 6, 5, 0] rfl
                                                      refine zlaw_T hfix hK4 hKw hX hb0 hb9 hbs hL hov2 hov3 ck sk hck hsk tm htm n me lo c e rd tk g k (((hA lo c e g (0, g) k).1) + 0) (zmax 0 ((zmin 9 ((g 6 k) + 1)) - 1)) qw qh qt F hI hZ hV hN hn0 hZ1 hV1 hk hFf (zsv_y hk ((zkp_A hhc c423).2.1.trans (zmin_comm _ _)) c865) H lo0 hS hC hW (fun ls hl => ?_) _ hl
                                                      refine lv_iinc (v := (nI (k + 1))) (lv' := [(17, .int (nI (k + 1))), (3, .int (nI tm)), (0, .ref b0), (1, .ref b), (2, .ref o), (5, .int (nI n)), (6, .ref qw), (7, .ref qh), (8, .ref qt), (10, .int rd), (12, .int ((rN n me lo c e (rd, tk, g) 1).2.1 - tk)), (13, .int (((hA lo c e g (0, g) k).1) + 0)), (14, .int (nI (ct (zgP n me lo c e rd tk g) (k + 1)))), (15, .int (su (zgP n me lo c e rd tk g) (k + 1))), (16, .int (nI (mo (zgP n me lo c e rd tk g) n (k + 1))))]) hx hb dL_law_1102 hl (k := 14) rfl (nI_1 _) (by decide) rfl (fun ls hl => ?_)
                                                      refine lv_goto (tgt := 387) hx hb dL_law_1105 (by decide) ?_
                                                      exact ih (k + 1) (by omega) (by omega) _ (rfl) _ (rfl) _ (rfl) _ (rfl) _ (hA_kp (zkp_A hhc c423)) _ (lv_sub hl [0, 14, 13, 12, 11, 1, 2, 3, 4, 5, 6, 7, 8, 9, 10] rfl)
                                                · have c798 := z_nle (a := 0) (b := o9) c798 (by omega) (by omega)
                                                  omega
                                              · exact absurd (by rw [hGf k (k % 2) 2 (by omega) (by omega) (by omega), show k % 2 = 0 by omega]; exact zkp_th (zkp_A hhc c423) hk (by omega) (by omega)) c791
                                            · have c769 := z_eq (a := k % 2) (b := 1) c769 (by omega) (by omega)
                                              omega
                                        · have c738 := z_eq (a := k % 2) (b := 1) c738 (by omega) (by omega)
                                          omega
                                    · have c707 := z_eq (a := k % 2) (b := 1) c707 (by omega) (by omega)
                                      omega
                                  · exact absurd (by decide) c603
                                · exact absurd (by rw [hGf k (1 - k % 2) 2 (by omega) (by omega) (by omega), show 1 - k % 2 = 1 by omega]; exact z1_oth hk (by omega) (by omega)) c596
                  · exact absurd (by decide) c477
                · exact absurd c440 (by decide)
  exact loop387 _ 0 (Nat.lt_succ_self _) (by omega) _ (rfl) _ (rfl) _ (rfl) _ (rfl) _ (rfl) _ (lv_sub hl [0, 1, 2, 3, 4, 5, 6, 7, 8, 9, 10, 11, 12, 13, 14] rfl)
