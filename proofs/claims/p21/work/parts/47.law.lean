set_option maxHeartbeats 8000000 in
set_option maxRecDepth 100000 in
/-- the tail of the look at one parrot -/
theorem zlaw_T {pg : Program} {l : Launch} {ev : Env} {s : State} {m : MethodId} {args : Array Value} {below : List Frame} {meth : Method} {cd : Code} {Q : State → Prop} {D : va_G} {cI cR cA cT : ClassId} {b o b0 L : Nat} {xs : Nat → Int32} (hfix : CallFix pg m cd cL_law 25 s args wsL_law RL) (hK4 : va_K D vwCl [(cI, .int), (cR, .object zBC), (cA, .array .int), (cT, .array (.array .int))] s) (hKw : zKw s) (hX : va_X b0 L xs s s.heap) (hb0 : b0 < s.heap.size) (hb9 : b + 61 ≤ o) (hbs : s.heap.size ≤ b) (hL : L ≤ 260) (hov2 : (Cond.arrayOver (.array .int)).before args s = true) (hov3 : (Cond.arrayOver (.array (.array .int))).before args s = true) (hcl80 : (Cond.classLink RL 80 "[[[I").before args s = true) (ck : Nat) (sk : Nat) (hck : ck ≤ 830515) (hsk : sk ≤ 6609922) (tm : Nat) (htm : tm < 40) (n : Nat) (me : Nat → Int32) (lo : Nat → Int32) (c : Nat → Nat) (e : Nat → Nat) (rd : Int32) (tk : Int32) (g : zG) (k : Nat) (mny : Int32) (sv : Int32) (qw : Nat) (qh : Nat) (qt : Nat) (F : Nat → Nat → Int32) (hI : zI n me lo c e) (hZ : zJ n g) (hV : zV n g) (hN : zNs c e) (hn0 : 0 < n) (hZ1 : zJ n (zgP n me lo c e rd tk g)) (hV1 : zV n (zgP n me lo c e rd tk g)) (hk : k < n) (hFf : ∀ i w, i < n → w < 7 → F i w = tp n g me lo c e i w) (hsv : sv = (zgP n me lo c e rd tk g) 6 k) (H : Heap) (lo0 : List Loc) (hS : va_S (fun q => b ≤ q) s.heap H lo0) (hC : zCW D cI b n me lo c e ((rN n me lo c e (rd, tk, g) 1).1) ((rN n me lo c e (rd, tk, g) 1).2.1) (zgP n me lo c e rd tk g) H) (hW : zW2 D cI cA qw n 7 F H)  (kt : ∀ ls1 : Array Slot, lv_has ls1 25 [(3, .int (nI tm)), (0, .ref b0), (1, .ref b), (2, .ref o), (5, .int (nI n)), (6, .ref qw), (7, .ref qh), (8, .ref qt), (10, .int rd), (12, .int ((rN n me lo c e (rd, tk, g) 1).2.1 - tk)), (13, .int mny), (14, .int (nI (ct (zgP n me lo c e rd tk g) (k + 1)))), (15, .int (su (zgP n me lo c e rd tk g) (k + 1))), (16, .int (nI (mo (zgP n me lo c e rd tk g) n (k + 1)))), (17, .int (nI k))] → W pg l ev room_1 s m args below meth cd H lo0 ck sk Q (F0 m 1102 ls1 [])) (ls : Array Slot) (hl : lv_has ls 25 [(3, .int (nI tm)), (0, .ref b0), (1, .ref b), (2, .ref o), (5, .int (nI n)), (6, .ref qw), (7, .ref qh), (8, .ref qt), (10, .int rd), (12, .int ((rN n me lo c e (rd, tk, g) 1).2.1 - tk)), (13, .int mny), (14, .int (nI (ct (zgP n me lo c e rd tk g) k))), (15, .int (su (zgP n me lo c e rd tk g) k)), (16, .int (nI (mo (zgP n me lo c e rd tk g) n k))), (17, .int (nI k)), (18, .int (zo (hd lo e k (c k)))), (22, .int sv)]) : W pg l ev room_1 s m args below meth cd H lo0 (ck) (sk) Q (F0 m 878 ls []) := by
  obtain ⟨hx, hb, hml, hown, hts⟩ := id hfix
  have hK : va_K D vwCl [(cI, .int), (cR, .object zBC)] s := hK4.sub [0, 1] rfl
  have hK1 : va_K D vwCl [(cI, .int)] s := hK4.sub [0] rfl
  have hz : H.size ≤ H.size := Nat.le_refl _
  have hwd7 := hts _ (List.mem_of_getElem? (i := 7) rfl)
  have hwd9 := hts _ (List.mem_of_getElem? (i := 9) rfl)
  have hwd10 := hts _ (List.mem_of_getElem? (i := 10) rfl)
  have hwd11 := hts _ (List.mem_of_getElem? (i := 11) rfl)
  have hn := zI_n hI
  obtain ⟨wv, hwv, hwe⟩ := wd_lt hZ1 hk
  have hvb := vt_le (zgP n me lo c e rd tk g) (nI wv) n
  have hmb := mo_le (zgP n me lo c e rd tk g) n k
  have hlb := lf_le (zgP n me lo c e rd tk g) (nI wv) n
  refine lv_aload_n hx hb dL_law_878 rfl (lv_at hl 2 rfl) ?_
  refine lv_iload hx hb dL_law_879 (lv_at hl 14 rfl) ?_
  refine lv_iconst (v := 1) hx hb dL_law_881 (by decide) ?_
  refine z_ki (va_runV (As := [.int (nI k), .int 1]) (rest := []) hfix (zcX4_parrot_k l D cI H b n me lo c e ((rN n me lo c e (rd, tk, g) 1).1) ((rN n me lo c e (rd, tk, g) 1).2.1) (zgP n me lo c e rd tk g) k 1 hC hI (by omega) (by omega)) (cwV 2 hts gL_law_X4_parrot rfl rfl rfl (by decide +kernel) ⟨Nat.le_of_ble_eq_true rfl, Nat.le_of_ble_eq_true rfl⟩) (z_preV hK hK1 hC.1 (ci := 4) (q0 := 0) rfl rfl rfl) rfl rfl hl.1 rfl (lv_room (Nat.le_of_ble_eq_true rfl)) dL_law_882 ⟨by show ck + 0 ≤ 830515; omega, by show sk + 0 ≤ 6609922; omega⟩) ?_
  refine lv_iload hx hb dL_law_885 (lv_at hl 16 rfl) ?_
  refine lv_icmp_eq (tgt := 892) hx hb dL_law_887 (by decide) (fun c887 => ?_) (fun c887 => ?_)
  · refine lv_iconst (v := 2) hx hb dL_law_892 (by decide) ?_
    refine lv_istore (lv' := [(23, .int 2), (3, .int (nI tm)), (0, .ref b0), (1, .ref b), (2, .ref o), (5, .int (nI n)), (6, .ref qw), (7, .ref qh), (8, .ref qt), (10, .int rd), (12, .int ((rN n me lo c e (rd, tk, g) 1).2.1 - tk)), (13, .int mny), (14, .int (nI (ct (zgP n me lo c e rd tk g) k))), (15, .int (su (zgP n me lo c e rd tk g) k)), (16, .int (nI (mo (zgP n me lo c e rd tk g) n k))), (17, .int (nI k)), (18, .int (zo (hd lo e k (c k)))), (22, .int sv)]) hx hb dL_law_893 hl (by decide) rfl (fun ls hl => ?_)
    have loop895 : ∀ (fu : Nat) (w : Nat), 7 - w < fu → (w ≤ 7) → (2 ≤ w) → ∀ (x23 : Int32), x23 = (nI w) → ∀ ls : Array Slot, lv_has ls 25 [(23, .int x23), (3, .int (nI tm)), (0, .ref b0), (1, .ref b), (2, .ref o), (5, .int (nI n)), (6, .ref qw), (7, .ref qh), (8, .ref qt), (10, .int rd), (12, .int ((rN n me lo c e (rd, tk, g) 1).2.1 - tk)), (13, .int mny), (14, .int (nI (ct (zgP n me lo c e rd tk g) k))), (15, .int (su (zgP n me lo c e rd tk g) k)), (16, .int (nI (mo (zgP n me lo c e rd tk g) n k))), (17, .int (nI k)), (18, .int (zo (hd lo e k (c k)))), (22, .int sv)] → W pg l ev room_1 s m args below meth cd H lo0 ck sk Q (F0 m 895 ls []) := by
      intro fu
      induction fu with
      | zero => intro w hfu; exact absurd hfu (Nat.not_lt_zero _)
      | succ fu ih =>
        intro w hfu hi895_0 hi895_1 x23 ex23 ls hl
        subst ex23
        refine lv_iload hx hb dL_law_895 (lv_at hl 0 rfl) ?_
        refine lv_bipush (v := 7) hx hb dL_law_897 (by decide) ?_
        refine lv_icmp_ge (tgt := 929) hx hb dL_law_899 (by decide) (fun c899 => ?_) (fun c899 => ?_)
        · have c899 := z_le (a := 7) (b := w) c899 (by omega) (by omega)
          refine lv_iload hx hb dL_law_929 (lv_at hl 16 rfl) ?_
          refine lv_if_lt (tgt := 950) hx hb dL_law_931 (by decide) (fun c931 => ?_) (fun c931 => ?_)
          · have c931 := (zo_neg (fun q hq => by have := zI_hd hI hq; omega)).mp c931
            refine lv_iload hx hb dL_law_950 (lv_at hl 13 rfl) ?_
            refine lv_iload hx hb dL_law_952 (lv_at hl 17 rfl) ?_
            refine lv_iadd hx hb dL_law_954 ?_
            refine lv_istore (lv' := [(15, .int ((su (zgP n me lo c e rd tk g) k) + sv)), (23, .int (nI w)), (3, .int (nI tm)), (0, .ref b0), (1, .ref b), (2, .ref o), (5, .int (nI n)), (6, .ref qw), (7, .ref qh), (8, .ref qt), (10, .int rd), (12, .int ((rN n me lo c e (rd, tk, g) 1).2.1 - tk)), (13, .int mny), (14, .int (nI (ct (zgP n me lo c e rd tk g) k))), (16, .int (nI (mo (zgP n me lo c e rd tk g) n k))), (17, .int (nI k)), (18, .int (zo (hd lo e k (c k)))), (22, .int sv)]) hx hb dL_law_955 hl (by decide) rfl (fun ls hl => ?_)
            have hs9 : su (zgP n me lo c e rd tk g) k + sv = su (zgP n me lo c e rd tk g) (k + 1) := by rw [hsv]; rfl
            have hl : lv_has ls 25 [(15, .int (su (zgP n me lo c e rd tk g) (k + 1))), (23, .int (nI w)), (3, .int (nI tm)), (0, .ref b0), (1, .ref b), (2, .ref o), (5, .int (nI n)), (6, .ref qw), (7, .ref qh), (8, .ref qt), (10, .int rd), (12, .int ((rN n me lo c e (rd, tk, g) 1).2.1 - tk)), (13, .int mny), (14, .int (nI (ct (zgP n me lo c e rd tk g) k))), (16, .int (nI (mo (zgP n me lo c e rd tk g) n k))), (17, .int (nI k)), (18, .int (zo (hd lo e k (c k)))), (22, .int sv)] := by rw [hs9] at hl; exact hl
            refine lv_iconst (v := 0) hx hb dL_law_957 (by decide) ?_
            refine lv_istore (lv' := [(23, .int 0), (15, .int (su (zgP n me lo c e rd tk g) (k + 1))), (3, .int (nI tm)), (0, .ref b0), (1, .ref b), (2, .ref o), (5, .int (nI n)), (6, .ref qw), (7, .ref qh), (8, .ref qt), (10, .int rd), (12, .int ((rN n me lo c e (rd, tk, g) 1).2.1 - tk)), (13, .int mny), (14, .int (nI (ct (zgP n me lo c e rd tk g) k))), (16, .int (nI (mo (zgP n me lo c e rd tk g) n k))), (17, .int (nI k)), (18, .int (zo (hd lo e k (c k)))), (22, .int sv)]) hx hb dL_law_958 hl (by decide) rfl (fun ls hl => ?_)
            have loop960 : ∀ (fu : Nat) (w : Nat), 2 - w < fu → (w ≤ 2) → ∀ (x23 : Int32), x23 = (nI w) → ∀ (x14 : Int32), x14 = (nI (cth (zgP n me lo c e rd tk g) k w)) → ∀ ls : Array Slot, lv_has ls 25 [(23, .int x23), (15, .int (su (zgP n me lo c e rd tk g) (k + 1))), (3, .int (nI tm)), (0, .ref b0), (1, .ref b), (2, .ref o), (5, .int (nI n)), (6, .ref qw), (7, .ref qh), (8, .ref qt), (10, .int rd), (12, .int ((rN n me lo c e (rd, tk, g) 1).2.1 - tk)), (13, .int mny), (14, .int x14), (16, .int (nI (mo (zgP n me lo c e rd tk g) n k))), (17, .int (nI k)), (18, .int (zo (hd lo e k (c k)))), (22, .int sv)] → W pg l ev room_1 s m args below meth cd H lo0 ck sk Q (F0 m 960 ls []) := by
              intro fu
              induction fu with
              | zero => intro w hfu; exact absurd hfu (Nat.not_lt_zero _)
              | succ fu ih960 =>
                intro w hfu hi960_0 x23 ex23 x14 ex14 ls hl
                subst ex23
                subst ex14
                refine lv_iload hx hb dL_law_960 (lv_at hl 0 rfl) ?_
                refine lv_iconst (v := 2) hx hb dL_law_962 (by decide) ?_
                refine lv_icmp_ge (tgt := 1055) hx hb dL_law_963 (by decide) (fun c963 => ?_) (fun c963 => ?_)
                · have c963 := z_le (a := 2) (b := w) c963 (by omega) (by omega)
                  have hw9 : w = 2 := by omega
                  have ht9 : cth (zgP n me lo c e rd tk g) k w = ct (zgP n me lo c e rd tk g) (k + 1) := by rw [hw9]; rfl
                  have hl : lv_has ls 25 [(23, .int (nI w)), (15, .int (su (zgP n me lo c e rd tk g) (k + 1))), (3, .int (nI tm)), (0, .ref b0), (1, .ref b), (2, .ref o), (5, .int (nI n)), (6, .ref qw), (7, .ref qh), (8, .ref qt), (10, .int rd), (12, .int ((rN n me lo c e (rd, tk, g) 1).2.1 - tk)), (13, .int mny), (14, .int (nI (ct (zgP n me lo c e rd tk g) (k + 1)))), (16, .int (nI (mo (zgP n me lo c e rd tk g) n k))), (17, .int (nI k)), (18, .int (zo (hd lo e k (c k)))), (22, .int sv)] := by rw [ht9] at hl; exact hl
                  refine lv_iload hx hb dL_law_1055 (lv_at hl 14 rfl) ?_
                  refine lv_aload_n hx hb dL_law_1057 rfl (lv_at hl 4 rfl) ?_
                  refine lv_aload_n hx hb dL_law_1058 rfl (lv_at hl 4 rfl) ?_
                  refine lv_iload hx hb dL_law_1059 (lv_at hl 15 rfl) ?_
                  refine lv_iconst (v := 0) hx hb dL_law_1061 (by decide) ?_
                  refine z_ki (va_runV (As := [.int (nI k), .int 0]) (rest := [.ref b, .int (nI (mo (zgP n me lo c e rd tk g) n k))]) hfix (zcX4_parrot_k l D cI H b n me lo c e ((rN n me lo c e (rd, tk, g) 1).1) ((rN n me lo c e (rd, tk, g) 1).2.1) (zgP n me lo c e rd tk g) k 0 hC hI (by omega) (by omega)) (cwV 2 hts gL_law_X4_parrot rfl rfl rfl (by decide +kernel) ⟨Nat.le_of_ble_eq_true rfl, Nat.le_of_ble_eq_true rfl⟩) (z_preV hK hK1 hC.1 (ci := 4) (q0 := 0) rfl rfl rfl) rfl rfl hl.1 rfl (lv_room (Nat.le_of_ble_eq_true rfl)) dL_law_1062 ⟨by show ck + 0 ≤ 830515; omega, by show sk + 0 ≤ 6609922; omega⟩) ?_
                  refine z_toi (y := nI wv) (hwe) ?_
                  refine z_ki (va_runV (As := [.int (nI wv)]) (rest := [.int (nI (mo (zgP n me lo c e rd tk g) n k))]) hfix (zcX4_votes_k l D cI H b n me lo c e ((rN n me lo c e (rd, tk, g) 1).1) ((rN n me lo c e (rd, tk, g) 1).2.1) (zgP n me lo c e rd tk g) wv hC hI (by omega)) (cwV 1 hts gL_law_X4_votes rfl rfl rfl (by decide +kernel) ⟨Nat.le_of_ble_eq_true rfl, Nat.le_of_ble_eq_true rfl⟩) (z_preV hK hK1 hC.1 (ci := 4) (q0 := 0) rfl rfl rfl) rfl rfl hl.1 rfl (lv_room (Nat.le_of_ble_eq_true rfl)) dL_law_1065 ⟨by show ck + 0 ≤ 830515; omega, by show sk + 0 ≤ 6609922; omega⟩) ?_
                  refine va_mmax hx hb (by rw [hml]; exact hl.1.symm) hown hwd9 hwd10 hwd7 (hwd11) (Nat.le_of_ble_eq_true rfl) (Nat.le_of_ble_eq_true rfl) (hck) (hsk) dL_law_1068 ?_
                  refine z_toi (y := zmax (nI (mo (zgP n me lo c e rd tk g) n k)) (nI (vt (zgP n me lo c e rd tk g) (nI wv) n))) rfl ?_
                  refine z_toi (y := nI (mo (zgP n me lo c e rd tk g) n (k + 1))) (by rw [show mo (zgP n me lo c e rd tk g) n (k + 1) = max (mo (zgP n me lo c e rd tk g) n k) (vt (zgP n me lo c e rd tk g) (wd (zgP n me lo c e rd tk g) k) n) from rfl, hwe]; exact zmax_nat (by omega) (by omega)) ?_
                  refine lv_istore (lv' := [(16, .int (nI (mo (zgP n me lo c e rd tk g) n (k + 1)))), (23, .int (nI w)), (15, .int (su (zgP n me lo c e rd tk g) (k + 1))), (3, .int (nI tm)), (0, .ref b0), (1, .ref b), (2, .ref o), (5, .int (nI n)), (6, .ref qw), (7, .ref qh), (8, .ref qt), (10, .int rd), (12, .int ((rN n me lo c e (rd, tk, g) 1).2.1 - tk)), (13, .int mny), (14, .int (nI (ct (zgP n me lo c e rd tk g) (k + 1)))), (17, .int (nI k)), (18, .int (zo (hd lo e k (c k)))), (22, .int sv)]) hx hb dL_law_1071 hl (by decide) rfl (fun ls hl => ?_)
                  refine lv_aload_n hx hb dL_law_1073 rfl (lv_at hl 5 rfl) ?_
                  refine lv_aload_n hx hb dL_law_1074 rfl (lv_at hl 5 rfl) ?_
                  refine lv_iload hx hb dL_law_1075 (lv_at hl 15 rfl) ?_
                  refine lv_iconst (v := 0) hx hb dL_law_1077 (by decide) ?_
                  refine z_ki (va_runV (As := [.int (nI k), .int 0]) (rest := [.ref b]) hfix (zcX4_parrot_k l D cI H b n me lo c e ((rN n me lo c e (rd, tk, g) 1).1) ((rN n me lo c e (rd, tk, g) 1).2.1) (zgP n me lo c e rd tk g) k 0 hC hI (by omega) (by omega)) (cwV 2 hts gL_law_X4_parrot rfl rfl rfl (by decide +kernel) ⟨Nat.le_of_ble_eq_true rfl, Nat.le_of_ble_eq_true rfl⟩) (z_preV hK hK1 hC.1 (ci := 4) (q0 := 0) rfl rfl rfl) rfl rfl hl.1 rfl (lv_room (Nat.le_of_ble_eq_true rfl)) dL_law_1078 ⟨by show ck + 0 ≤ 830515; omega, by show sk + 0 ≤ 6609922; omega⟩) ?_
                  refine z_toi (y := nI wv) (hwe) ?_
                  refine z_ki (va_runV (As := [.int (nI wv)]) (rest := []) hfix (zcX4_left_k l D cI H b n me lo c e ((rN n me lo c e (rd, tk, g) 1).1) ((rN n me lo c e (rd, tk, g) 1).2.1) (zgP n me lo c e rd tk g) wv hC hI (by omega)) (cwV 1 hts gL_law_X4_left rfl rfl rfl (by decide +kernel) ⟨Nat.le_of_ble_eq_true rfl, Nat.le_of_ble_eq_true rfl⟩) (z_preV hK hK1 hC.1 (ci := 4) (q0 := 0) rfl rfl rfl) rfl rfl hl.1 rfl (lv_room (Nat.le_of_ble_eq_true rfl)) dL_law_1081 ⟨by show ck + 0 ≤ 830515; omega, by show sk + 0 ≤ 6609922; omega⟩) ?_
                  refine lv_iconst (v := 2) hx hb dL_law_1084 (by decide) ?_
                  refine lv_aload_n hx hb dL_law_1085 rfl (lv_at hl 5 rfl) ?_
                  refine lv_aload_n hx hb dL_law_1086 rfl (lv_at hl 5 rfl) ?_
                  refine lv_iload hx hb dL_law_1087 (lv_at hl 15 rfl) ?_
                  refine lv_iconst (v := 0) hx hb dL_law_1089 (by decide) ?_
                  refine z_ki (va_runV (As := [.int (nI k), .int 0]) (rest := [.ref b, .int 2, .int (nI (lf (zgP n me lo c e rd tk g) (nI wv) n))]) hfix (zcX4_parrot_k l D cI H b n me lo c e ((rN n me lo c e (rd, tk, g) 1).1) ((rN n me lo c e (rd, tk, g) 1).2.1) (zgP n me lo c e rd tk g) k 0 hC hI (by omega) (by omega)) (cwV 2 hts gL_law_X4_parrot rfl rfl rfl (by decide +kernel) ⟨Nat.le_of_ble_eq_true rfl, Nat.le_of_ble_eq_true rfl⟩) (z_preV hK hK1 hC.1 (ci := 4) (q0 := 0) rfl rfl rfl) rfl rfl hl.1 rfl (lv_room (Nat.le_of_ble_eq_true rfl)) dL_law_1090 ⟨by show ck + 0 ≤ 830515; omega, by show sk + 0 ≤ 6609922; omega⟩) ?_
                  refine z_toi (y := nI wv) (hwe) ?_
                  refine z_ki (va_runV (As := [.int (nI wv)]) (rest := [.int 2, .int (nI (lf (zgP n me lo c e rd tk g) (nI wv) n))]) hfix (zcX4_votes_k l D cI H b n me lo c e ((rN n me lo c e (rd, tk, g) 1).1) ((rN n me lo c e (rd, tk, g) 1).2.1) (zgP n me lo c e rd tk g) wv hC hI (by omega)) (cwV 1 hts gL_law_X4_votes rfl rfl rfl (by decide +kernel) ⟨Nat.le_of_ble_eq_true rfl, Nat.le_of_ble_eq_true rfl⟩) (z_preV hK hK1 hC.1 (ci := 4) (q0 := 0) rfl rfl rfl) rfl rfl hl.1 rfl (lv_room (Nat.le_of_ble_eq_true rfl)) dL_law_1093 ⟨by show ck + 0 ≤ 830515; omega, by show sk + 0 ≤ 6609922; omega⟩) ?_
                  refine lv_imul hx hb dL_law_1096 ?_
                  refine z_toi (y := nI ((vt (zgP n me lo c e rd tk g) (nI wv) n) * 2)) ((pk_mul 2 (vt (zgP n me lo c e rd tk g) (nI wv) n)).trans (congrArg nI (Nat.mul_comm _ _))) ?_
                  refine lv_icmp_ge (tgt := 1102) hx hb dL_law_1097 (by decide) (fun c1097 => ?_) (fun c1097 => ?_)
                  · have c1097 := z_le (a := (vt (zgP n me lo c e rd tk g) (nI wv) n) * 2) (b := lf (zgP n me lo c e rd tk g) (nI wv) n) c1097 (by omega) (by omega)
                    exact kt _ (lv_sub hl [3, 4, 5, 6, 7, 8, 9, 10, 11, 12, 13, 14, 2, 0, 15] rfl)
                  · have c1097 := z_nle (a := (vt (zgP n me lo c e rd tk g) (nI wv) n) * 2) (b := lf (zgP n me lo c e rd tk g) (nI wv) n) c1097 (by omega) (by omega)
                    exact absurd (lf_vt hZ1 hwv n (Nat.le_refl _)) (by omega)
                · have c963 := z_nle (a := 2) (b := w) c963 (by omega) (by omega)
                  refine lv_aload_n hx hb dL_law_966 rfl (lv_at hl 4 rfl) ?_
                  refine lv_iload hx hb dL_law_967 (lv_at hl 15 rfl) ?_
                  refine lv_iload hx hb dL_law_969 (lv_at hl 0 rfl) ?_
                  refine lv_iconst (v := 1) hx hb dL_law_971 (by decide) ?_
                  refine lv_icmp_ne (tgt := 979) hx hb dL_law_972 (by decide) (fun c972 => ?_) (fun c972 => ?_)
                  · have c972 := z_ne (a := w) (b := 1) c972 (by omega) (by omega)
                    refine lv_iconst (v := 0) hx hb dL_law_979 (by decide) ?_
                    refine lv_iconst (v := 1) hx hb dL_law_980 (by decide) ?_
                    refine z_ki (va_runV (As := [.int (nI k), .int 0, .int 1]) (rest := []) hfix (zcX4_half_k0 l D cI H b n me lo c e ((rN n me lo c e (rd, tk, g) 1).1) ((rN n me lo c e (rd, tk, g) 1).2.1) (zgP n me lo c e rd tk g) k 1 hC hI (by omega) (by omega)) (cwV 3 hts gL_law_X4_half rfl rfl rfl (by decide +kernel) ⟨Nat.le_of_ble_eq_true rfl, Nat.le_of_ble_eq_true rfl⟩) (z_preV hK hK1 hC.1 (ci := 4) (q0 := 0) rfl rfl rfl) rfl rfl hl.1 rfl (lv_room (Nat.le_of_ble_eq_true rfl)) dL_law_981 ⟨by show ck + 0 ≤ 830515; omega, by show sk + 0 ≤ 6609922; omega⟩) ?_
                    refine lv_istore (lv' := [(24, .int (th (zgP n me lo c e rd tk g) k 0 1)), (23, .int (nI w)), (15, .int (su (zgP n me lo c e rd tk g) (k + 1))), (3, .int (nI tm)), (0, .ref b0), (1, .ref b), (2, .ref o), (5, .int (nI n)), (6, .ref qw), (7, .ref qh), (8, .ref qt), (10, .int rd), (12, .int ((rN n me lo c e (rd, tk, g) 1).2.1 - tk)), (13, .int mny), (14, .int (nI (cth (zgP n me lo c e rd tk g) k w))), (16, .int (nI (mo (zgP n me lo c e rd tk g) n k))), (17, .int (nI k)), (18, .int (zo (hd lo e k (c k)))), (22, .int sv)]) hx hb dL_law_984 hl (by decide) rfl (fun ls hl => ?_)
                    refine lv_iload hx hb dL_law_986 (lv_at hl 14 rfl) ?_
                    refine lv_iload hx hb dL_law_988 (lv_at hl 0 rfl) ?_
                    refine lv_if_ge (tgt := 997) hx hb dL_law_990 (by decide) (fun c990 => ?_) (fun c990 => ?_)
                    · refine lv_iconst (v := 0) hx hb dL_law_997 (by decide) ?_
                      refine lv_iadd hx hb dL_law_998 ?_
                      refine z_toi (y := nI (cth (zgP n me lo c e rd tk g) k w + 0)) (nI_add (cth (zgP n me lo c e rd tk g) k w) 0) ?_
                      refine lv_istore (lv' := [(14, .int (nI (cth (zgP n me lo c e rd tk g) k w + 0))), (24, .int (th (zgP n me lo c e rd tk g) k 0 1)), (23, .int (nI w)), (15, .int (su (zgP n me lo c e rd tk g) (k + 1))), (3, .int (nI tm)), (0, .ref b0), (1, .ref b), (2, .ref o), (5, .int (nI n)), (6, .ref qw), (7, .ref qh), (8, .ref qt), (10, .int rd), (12, .int ((rN n me lo c e (rd, tk, g) 1).2.1 - tk)), (13, .int mny), (16, .int (nI (mo (zgP n me lo c e rd tk g) n k))), (17, .int (nI k)), (18, .int (zo (hd lo e k (c k)))), (22, .int sv)]) hx hb dL_law_999 hl (by decide) rfl (fun ls hl => ?_)
                      refine lv_iload hx hb dL_law_1001 (lv_at hl 1 rfl) ?_
                      refine lv_if_ge (tgt := 1010) hx hb dL_law_1003 (by decide) (fun c1003 => ?_) (fun c1003 => ?_)
                      · refine lv_iconst (v := 0) hx hb dL_law_1010 (by decide) ?_
                        refine lv_aload_n hx hb dL_law_1011 rfl (lv_at hl 6 rfl) ?_
                        refine lv_iload hx hb dL_law_1012 (lv_at hl 16 rfl) ?_
                        refine lv_iload hx hb dL_law_1014 (lv_at hl 2 rfl) ?_
                        refine lv_iconst (v := 1) hx hb dL_law_1016 (by decide) ?_
                        refine lv_icmp_ne (tgt := 1024) hx hb dL_law_1017 (by decide) (fun c1017 => ?_) (fun c1017 => ?_)
                        · have c1017 := z_ne (a := w) (b := 1) c1017 (by omega) (by omega)
                          refine lv_iconst (v := 0) hx hb dL_law_1024 (by decide) ?_
                          refine lv_iconst (v := 2) hx hb dL_law_1025 (by decide) ?_
                          refine z_ki (va_runV (As := [.int (nI k), .int 0, .int 2]) (rest := [.int 0]) hfix (zcX4_half_k0 l D cI H b n me lo c e ((rN n me lo c e (rd, tk, g) 1).1) ((rN n me lo c e (rd, tk, g) 1).2.1) (zgP n me lo c e rd tk g) k 2 hC hI (by omega) (by omega)) (cwV 3 hts gL_law_X4_half rfl rfl rfl (by decide +kernel) ⟨Nat.le_of_ble_eq_true rfl, Nat.le_of_ble_eq_true rfl⟩) (z_preV hK hK1 hC.1 (ci := 4) (q0 := 0) rfl rfl rfl) rfl rfl hl.1 rfl (lv_room (Nat.le_of_ble_eq_true rfl)) dL_law_1026 ⟨by show ck + 0 ≤ 830515; omega, by show sk + 0 ≤ 6609922; omega⟩) ?_
                          refine lv_if_ne (tgt := 1036) hx hb dL_law_1029 (by decide) (fun c1029 => ?_) (fun c1029 => ?_)
                          · refine lv_iconst (v := 0) hx hb dL_law_1036 (by decide) ?_
                            refine lv_icmp_ne (tgt := 1047) hx hb dL_law_1037 (by decide) (fun c1037 => ?_) (fun c1037 => ?_)
                            · exact absurd (by decide) c1037
                            · have c1037 := z_eq (a := 0) (b := 0) c1037 (by omega) (by omega)
                              refine lv_iload hx hb dL_law_1040 (lv_at hl 1 rfl) ?_
                              refine lv_iload hx hb dL_law_1042 (lv_at hl 16 rfl) ?_
                              refine lv_icmp_ne (tgt := 1049) hx hb dL_law_1044 (by decide) (fun c1044 => ?_) (fun c1044 => ?_)
                              · refine lv_iinc (v := (nI (w + 1))) (lv' := [(23, .int (nI (w + 1))), (14, .int (nI (cth (zgP n me lo c e rd tk g) k w + 0))), (24, .int (th (zgP n me lo c e rd tk g) k 0 1)), (15, .int (su (zgP n me lo c e rd tk g) (k + 1))), (3, .int (nI tm)), (0, .ref b0), (1, .ref b), (2, .ref o), (5, .int (nI n)), (6, .ref qw), (7, .ref qh), (8, .ref qt), (10, .int rd), (12, .int ((rN n me lo c e (rd, tk, g) 1).2.1 - tk)), (13, .int mny), (16, .int (nI (mo (zgP n me lo c e rd tk g) n k))), (17, .int (nI k)), (18, .int (zo (hd lo e k (c k)))), (22, .int sv)]) hx hb dL_law_1049 hl (k := 2) rfl (nI_1 _) (by decide) rfl (fun ls hl => ?_)
                                refine lv_goto (tgt := 960) hx hb dL_law_1052 (by decide) ?_
                                exact ih960 (w + 1) (by omega) (by omega) _ (rfl) _ (congrArg nI (cth_n ((zV_neg hV1 hk (by omega) hn).mp (by rw [show w = 0 by omega]; exact c990)))) _ (lv_sub hl [0, 3, 4, 5, 6, 7, 8, 9, 10, 11, 12, 13, 14, 1, 15, 16, 17, 18] rfl)
                              · exact absurd c1044 (zV_nk (w := 0) hV1 hk (by omega) hn)
                          · exact absurd c1029 ((zV_ov (w := 0) hV1 hk (by omega) hn).mp c990)
                        · have c1017 := z_eq (a := w) (b := 1) c1017 (by omega) (by omega)
                          exact absurd c1017 c972
                      · exact absurd c990 c1003
                    · refine lv_iconst (v := 1) hx hb dL_law_993 (by decide) ?_
                      refine lv_goto (tgt := 998) hx hb dL_law_994 (by decide) ?_
                      refine lv_iadd hx hb dL_law_998 ?_
                      refine z_toi (y := nI (cth (zgP n me lo c e rd tk g) k w + 1)) (nI_add (cth (zgP n me lo c e rd tk g) k w) 1) ?_
                      refine lv_istore (lv' := [(14, .int (nI (cth (zgP n me lo c e rd tk g) k w + 1))), (24, .int (th (zgP n me lo c e rd tk g) k 0 1)), (23, .int (nI w)), (15, .int (su (zgP n me lo c e rd tk g) (k + 1))), (3, .int (nI tm)), (0, .ref b0), (1, .ref b), (2, .ref o), (5, .int (nI n)), (6, .ref qw), (7, .ref qh), (8, .ref qt), (10, .int rd), (12, .int ((rN n me lo c e (rd, tk, g) 1).2.1 - tk)), (13, .int mny), (16, .int (nI (mo (zgP n me lo c e rd tk g) n k))), (17, .int (nI k)), (18, .int (zo (hd lo e k (c k)))), (22, .int sv)]) hx hb dL_law_999 hl (by decide) rfl (fun ls hl => ?_)
                      refine lv_iload hx hb dL_law_1001 (lv_at hl 1 rfl) ?_
                      refine lv_if_ge (tgt := 1010) hx hb dL_law_1003 (by decide) (fun c1003 => ?_) (fun c1003 => ?_)
                      · exact absurd c1003 c990
                      · refine lv_iconst (v := 1) hx hb dL_law_1006 (by decide) ?_
                        refine lv_goto (tgt := 1011) hx hb dL_law_1007 (by decide) ?_
                        refine lv_aload_n hx hb dL_law_1011 rfl (lv_at hl 6 rfl) ?_
                        refine lv_iload hx hb dL_law_1012 (lv_at hl 16 rfl) ?_
                        refine lv_iload hx hb dL_law_1014 (lv_at hl 2 rfl) ?_
                        refine lv_iconst (v := 1) hx hb dL_law_1016 (by decide) ?_
                        refine lv_icmp_ne (tgt := 1024) hx hb dL_law_1017 (by decide) (fun c1017 => ?_) (fun c1017 => ?_)
                        · have c1017 := z_ne (a := w) (b := 1) c1017 (by omega) (by omega)
                          refine lv_iconst (v := 0) hx hb dL_law_1024 (by decide) ?_
                          refine lv_iconst (v := 2) hx hb dL_law_1025 (by decide) ?_
                          refine z_ki (va_runV (As := [.int (nI k), .int 0, .int 2]) (rest := [.int 1]) hfix (zcX4_half_k0 l D cI H b n me lo c e ((rN n me lo c e (rd, tk, g) 1).1) ((rN n me lo c e (rd, tk, g) 1).2.1) (zgP n me lo c e rd tk g) k 2 hC hI (by omega) (by omega)) (cwV 3 hts gL_law_X4_half rfl rfl rfl (by decide +kernel) ⟨Nat.le_of_ble_eq_true rfl, Nat.le_of_ble_eq_true rfl⟩) (z_preV hK hK1 hC.1 (ci := 4) (q0 := 0) rfl rfl rfl) rfl rfl hl.1 rfl (lv_room (Nat.le_of_ble_eq_true rfl)) dL_law_1026 ⟨by show ck + 0 ≤ 830515; omega, by show sk + 0 ≤ 6609922; omega⟩) ?_
                          refine lv_if_ne (tgt := 1036) hx hb dL_law_1029 (by decide) (fun c1029 => ?_) (fun c1029 => ?_)
                          · exact absurd ((zV_ov (w := 0) hV1 hk (by omega) hn).mpr c1029) c990
                          · refine lv_iconst (v := 1) hx hb dL_law_1032 (by decide) ?_
                            refine lv_goto (tgt := 1037) hx hb dL_law_1033 (by decide) ?_
                            refine lv_icmp_ne (tgt := 1047) hx hb dL_law_1037 (by decide) (fun c1037 => ?_) (fun c1037 => ?_)
                            · exact absurd (by decide) c1037
                            · have c1037 := z_eq (a := 1) (b := 1) c1037 (by omega) (by omega)
                              refine lv_iload hx hb dL_law_1040 (lv_at hl 1 rfl) ?_
                              refine lv_iload hx hb dL_law_1042 (lv_at hl 16 rfl) ?_
                              refine lv_icmp_ne (tgt := 1049) hx hb dL_law_1044 (by decide) (fun c1044 => ?_) (fun c1044 => ?_)
                              · refine lv_iinc (v := (nI (w + 1))) (lv' := [(23, .int (nI (w + 1))), (14, .int (nI (cth (zgP n me lo c e rd tk g) k w + 1))), (24, .int (th (zgP n me lo c e rd tk g) k 0 1)), (15, .int (su (zgP n me lo c e rd tk g) (k + 1))), (3, .int (nI tm)), (0, .ref b0), (1, .ref b), (2, .ref o), (5, .int (nI n)), (6, .ref qw), (7, .ref qh), (8, .ref qt), (10, .int rd), (12, .int ((rN n me lo c e (rd, tk, g) 1).2.1 - tk)), (13, .int mny), (16, .int (nI (mo (zgP n me lo c e rd tk g) n k))), (17, .int (nI k)), (18, .int (zo (hd lo e k (c k)))), (22, .int sv)]) hx hb dL_law_1049 hl (k := 2) rfl (nI_1 _) (by decide) rfl (fun ls hl => ?_)
                                refine lv_goto (tgt := 960) hx hb dL_law_1052 (by decide) ?_
                                exact ih960 (w + 1) (by omega) (by omega) _ (rfl) _ (congrArg nI (cth_y (Classical.byContradiction fun h9 => c990 (by have h8 := (zV_neg hV1 hk (w := w) (by omega) hn).mpr h9; rw [show w = 0 by omega] at h8; exact h8)))) _ (lv_sub hl [0, 3, 4, 5, 6, 7, 8, 9, 10, 11, 12, 13, 14, 1, 15, 16, 17, 18] rfl)
                              · exact absurd c1044 (zV_nk (w := 0) hV1 hk (by omega) hn)
                        · have c1017 := z_eq (a := w) (b := 1) c1017 (by omega) (by omega)
                          exact absurd c1017 c972
                  · have c972 := z_eq (a := w) (b := 1) c972 (by omega) (by omega)
                    refine lv_iconst (v := 1) hx hb dL_law_975 (by decide) ?_
                    refine lv_goto (tgt := 980) hx hb dL_law_976 (by decide) ?_
                    refine lv_iconst (v := 1) hx hb dL_law_980 (by decide) ?_
                    refine z_ki (va_runV (As := [.int (nI k), .int 1, .int 1]) (rest := []) hfix (zcX4_half_k1 l D cI H b n me lo c e ((rN n me lo c e (rd, tk, g) 1).1) ((rN n me lo c e (rd, tk, g) 1).2.1) (zgP n me lo c e rd tk g) k 1 hC hI (by omega) (by omega)) (cwV 3 hts gL_law_X4_half rfl rfl rfl (by decide +kernel) ⟨Nat.le_of_ble_eq_true rfl, Nat.le_of_ble_eq_true rfl⟩) (z_preV hK hK1 hC.1 (ci := 4) (q0 := 0) rfl rfl rfl) rfl rfl hl.1 rfl (lv_room (Nat.le_of_ble_eq_true rfl)) dL_law_981 ⟨by show ck + 0 ≤ 830515; omega, by show sk + 0 ≤ 6609922; omega⟩) ?_
                    refine lv_istore (lv' := [(24, .int (th (zgP n me lo c e rd tk g) k 1 1)), (23, .int (nI w)), (15, .int (su (zgP n me lo c e rd tk g) (k + 1))), (3, .int (nI tm)), (0, .ref b0), (1, .ref b), (2, .ref o), (5, .int (nI n)), (6, .ref qw), (7, .ref qh), (8, .ref qt), (10, .int rd), (12, .int ((rN n me lo c e (rd, tk, g) 1).2.1 - tk)), (13, .int mny), (14, .int (nI (cth (zgP n me lo c e rd tk g) k w))), (16, .int (nI (mo (zgP n me lo c e rd tk g) n k))), (17, .int (nI k)), (18, .int (zo (hd lo e k (c k)))), (22, .int sv)]) hx hb dL_law_984 hl (by decide) rfl (fun ls hl => ?_)
                    refine lv_iload hx hb dL_law_986 (lv_at hl 14 rfl) ?_
                    refine lv_iload hx hb dL_law_988 (lv_at hl 0 rfl) ?_
                    refine lv_if_ge (tgt := 997) hx hb dL_law_990 (by decide) (fun c990 => ?_) (fun c990 => ?_)
                    · refine lv_iconst (v := 0) hx hb dL_law_997 (by decide) ?_
                      refine lv_iadd hx hb dL_law_998 ?_
                      refine z_toi (y := nI (cth (zgP n me lo c e rd tk g) k w + 0)) (nI_add (cth (zgP n me lo c e rd tk g) k w) 0) ?_
                      refine lv_istore (lv' := [(14, .int (nI (cth (zgP n me lo c e rd tk g) k w + 0))), (24, .int (th (zgP n me lo c e rd tk g) k 1 1)), (23, .int (nI w)), (15, .int (su (zgP n me lo c e rd tk g) (k + 1))), (3, .int (nI tm)), (0, .ref b0), (1, .ref b), (2, .ref o), (5, .int (nI n)), (6, .ref qw), (7, .ref qh), (8, .ref qt), (10, .int rd), (12, .int ((rN n me lo c e (rd, tk, g) 1).2.1 - tk)), (13, .int mny), (16, .int (nI (mo (zgP n me lo c e rd tk g) n k))), (17, .int (nI k)), (18, .int (zo (hd lo e k (c k)))), (22, .int sv)]) hx hb dL_law_999 hl (by decide) rfl (fun ls hl => ?_)
                      refine lv_iload hx hb dL_law_1001 (lv_at hl 1 rfl) ?_
                      refine lv_if_ge (tgt := 1010) hx hb dL_law_1003 (by decide) (fun c1003 => ?_) (fun c1003 => ?_)
                      · refine lv_iconst (v := 0) hx hb dL_law_1010 (by decide) ?_
                        refine lv_aload_n hx hb dL_law_1011 rfl (lv_at hl 6 rfl) ?_
                        refine lv_iload hx hb dL_law_1012 (lv_at hl 16 rfl) ?_
                        refine lv_iload hx hb dL_law_1014 (lv_at hl 2 rfl) ?_
                        refine lv_iconst (v := 1) hx hb dL_law_1016 (by decide) ?_
                        refine lv_icmp_ne (tgt := 1024) hx hb dL_law_1017 (by decide) (fun c1017 => ?_) (fun c1017 => ?_)
                        · have c1017 := z_ne (a := w) (b := 1) c1017 (by omega) (by omega)
                          exact absurd c972 c1017
                        · have c1017 := z_eq (a := w) (b := 1) c1017 (by omega) (by omega)
                          refine lv_iconst (v := 1) hx hb dL_law_1020 (by decide) ?_
                          refine lv_goto (tgt := 1025) hx hb dL_law_1021 (by decide) ?_
                          refine lv_iconst (v := 2) hx hb dL_law_1025 (by decide) ?_
                          refine z_ki (va_runV (As := [.int (nI k), .int 1, .int 2]) (rest := [.int 0]) hfix (zcX4_half_k1 l D cI H b n me lo c e ((rN n me lo c e (rd, tk, g) 1).1) ((rN n me lo c e (rd, tk, g) 1).2.1) (zgP n me lo c e rd tk g) k 2 hC hI (by omega) (by omega)) (cwV 3 hts gL_law_X4_half rfl rfl rfl (by decide +kernel) ⟨Nat.le_of_ble_eq_true rfl, Nat.le_of_ble_eq_true rfl⟩) (z_preV hK hK1 hC.1 (ci := 4) (q0 := 0) rfl rfl rfl) rfl rfl hl.1 rfl (lv_room (Nat.le_of_ble_eq_true rfl)) dL_law_1026 ⟨by show ck + 0 ≤ 830515; omega, by show sk + 0 ≤ 6609922; omega⟩) ?_
                          refine lv_if_ne (tgt := 1036) hx hb dL_law_1029 (by decide) (fun c1029 => ?_) (fun c1029 => ?_)
                          · refine lv_iconst (v := 0) hx hb dL_law_1036 (by decide) ?_
                            refine lv_icmp_ne (tgt := 1047) hx hb dL_law_1037 (by decide) (fun c1037 => ?_) (fun c1037 => ?_)
                            · exact absurd (by decide) c1037
                            · have c1037 := z_eq (a := 0) (b := 0) c1037 (by omega) (by omega)
                              refine lv_iload hx hb dL_law_1040 (lv_at hl 1 rfl) ?_
                              refine lv_iload hx hb dL_law_1042 (lv_at hl 16 rfl) ?_
                              refine lv_icmp_ne (tgt := 1049) hx hb dL_law_1044 (by decide) (fun c1044 => ?_) (fun c1044 => ?_)
                              · refine lv_iinc (v := (nI (w + 1))) (lv' := [(23, .int (nI (w + 1))), (14, .int (nI (cth (zgP n me lo c e rd tk g) k w + 0))), (24, .int (th (zgP n me lo c e rd tk g) k 1 1)), (15, .int (su (zgP n me lo c e rd tk g) (k + 1))), (3, .int (nI tm)), (0, .ref b0), (1, .ref b), (2, .ref o), (5, .int (nI n)), (6, .ref qw), (7, .ref qh), (8, .ref qt), (10, .int rd), (12, .int ((rN n me lo c e (rd, tk, g) 1).2.1 - tk)), (13, .int mny), (16, .int (nI (mo (zgP n me lo c e rd tk g) n k))), (17, .int (nI k)), (18, .int (zo (hd lo e k (c k)))), (22, .int sv)]) hx hb dL_law_1049 hl (k := 2) rfl (nI_1 _) (by decide) rfl (fun ls hl => ?_)
                                refine lv_goto (tgt := 960) hx hb dL_law_1052 (by decide) ?_
                                exact ih960 (w + 1) (by omega) (by omega) _ (rfl) _ (congrArg nI (cth_n ((zV_neg hV1 hk (by omega) hn).mp (by rw [show w = 1 by omega]; exact c990)))) _ (lv_sub hl [0, 3, 4, 5, 6, 7, 8, 9, 10, 11, 12, 13, 14, 1, 15, 16, 17, 18] rfl)
                              · exact absurd c1044 (zV_nk (w := 1) hV1 hk (by omega) hn)
                          · exact absurd c1029 ((zV_ov (w := 1) hV1 hk (by omega) hn).mp c990)
                      · exact absurd c990 c1003
                    · refine lv_iconst (v := 1) hx hb dL_law_993 (by decide) ?_
                      refine lv_goto (tgt := 998) hx hb dL_law_994 (by decide) ?_
                      refine lv_iadd hx hb dL_law_998 ?_
                      refine z_toi (y := nI (cth (zgP n me lo c e rd tk g) k w + 1)) (nI_add (cth (zgP n me lo c e rd tk g) k w) 1) ?_
                      refine lv_istore (lv' := [(14, .int (nI (cth (zgP n me lo c e rd tk g) k w + 1))), (24, .int (th (zgP n me lo c e rd tk g) k 1 1)), (23, .int (nI w)), (15, .int (su (zgP n me lo c e rd tk g) (k + 1))), (3, .int (nI tm)), (0, .ref b0), (1, .ref b), (2, .ref o), (5, .int (nI n)), (6, .ref qw), (7, .ref qh), (8, .ref qt), (10, .int rd), (12, .int ((rN n me lo c e (rd, tk, g) 1).2.1 - tk)), (13, .int mny), (16, .int (nI (mo (zgP n me lo c e rd tk g) n k))), (17, .int (nI k)), (18, .int (zo (hd lo e k (c k)))), (22, .int sv)]) hx hb dL_law_999 hl (by decide) rfl (fun ls hl => ?_)
                      refine lv_iload hx hb dL_law_1001 (lv_at hl 1 rfl) ?_
                      refine lv_if_ge (tgt := 1010) hx hb dL_law_1003 (by decide) (fun c1003 => ?_) (fun c1003 => ?_)
                      · exact absurd c1003 c990
                      · refine lv_iconst (v := 1) hx hb dL_law_1006 (by decide) ?_
                        refine lv_goto (tgt := 1011) hx hb dL_law_1007 (by decide) ?_
                        refine lv_aload_n hx hb dL_law_1011 rfl (lv_at hl 6 rfl) ?_
                        refine lv_iload hx hb dL_law_1012 (lv_at hl 16 rfl) ?_
                        refine lv_iload hx hb dL_law_1014 (lv_at hl 2 rfl) ?_
                        refine lv_iconst (v := 1) hx hb dL_law_1016 (by decide) ?_
                        refine lv_icmp_ne (tgt := 1024) hx hb dL_law_1017 (by decide) (fun c1017 => ?_) (fun c1017 => ?_)
                        · have c1017 := z_ne (a := w) (b := 1) c1017 (by omega) (by omega)
                          exact absurd c972 c1017
                        · have c1017 := z_eq (a := w) (b := 1) c1017 (by omega) (by omega)
                          refine lv_iconst (v := 1) hx hb dL_law_1020 (by decide) ?_
                          refine lv_goto (tgt := 1025) hx hb dL_law_1021 (by decide) ?_
                          refine lv_iconst (v := 2) hx hb dL_law_1025 (by decide) ?_
                          refine z_ki (va_runV (As := [.int (nI k), .int 1, .int 2]) (rest := [.int 1]) hfix (zcX4_half_k1 l D cI H b n me lo c e ((rN n me lo c e (rd, tk, g) 1).1) ((rN n me lo c e (rd, tk, g) 1).2.1) (zgP n me lo c e rd tk g) k 2 hC hI (by omega) (by omega)) (cwV 3 hts gL_law_X4_half rfl rfl rfl (by decide +kernel) ⟨Nat.le_of_ble_eq_true rfl, Nat.le_of_ble_eq_true rfl⟩) (z_preV hK hK1 hC.1 (ci := 4) (q0 := 0) rfl rfl rfl) rfl rfl hl.1 rfl (lv_room (Nat.le_of_ble_eq_true rfl)) dL_law_1026 ⟨by show ck + 0 ≤ 830515; omega, by show sk + 0 ≤ 6609922; omega⟩) ?_
                          refine lv_if_ne (tgt := 1036) hx hb dL_law_1029 (by decide) (fun c1029 => ?_) (fun c1029 => ?_)
                          · exact absurd ((zV_ov (w := 1) hV1 hk (by omega) hn).mpr c1029) c990
                          · refine lv_iconst (v := 1) hx hb dL_law_1032 (by decide) ?_
                            refine lv_goto (tgt := 1037) hx hb dL_law_1033 (by decide) ?_
                            refine lv_icmp_ne (tgt := 1047) hx hb dL_law_1037 (by decide) (fun c1037 => ?_) (fun c1037 => ?_)
                            · exact absurd (by decide) c1037
                            · have c1037 := z_eq (a := 1) (b := 1) c1037 (by omega) (by omega)
                              refine lv_iload hx hb dL_law_1040 (lv_at hl 1 rfl) ?_
                              refine lv_iload hx hb dL_law_1042 (lv_at hl 16 rfl) ?_
                              refine lv_icmp_ne (tgt := 1049) hx hb dL_law_1044 (by decide) (fun c1044 => ?_) (fun c1044 => ?_)
                              · refine lv_iinc (v := (nI (w + 1))) (lv' := [(23, .int (nI (w + 1))), (14, .int (nI (cth (zgP n me lo c e rd tk g) k w + 1))), (24, .int (th (zgP n me lo c e rd tk g) k 1 1)), (15, .int (su (zgP n me lo c e rd tk g) (k + 1))), (3, .int (nI tm)), (0, .ref b0), (1, .ref b), (2, .ref o), (5, .int (nI n)), (6, .ref qw), (7, .ref qh), (8, .ref qt), (10, .int rd), (12, .int ((rN n me lo c e (rd, tk, g) 1).2.1 - tk)), (13, .int mny), (16, .int (nI (mo (zgP n me lo c e rd tk g) n k))), (17, .int (nI k)), (18, .int (zo (hd lo e k (c k)))), (22, .int sv)]) hx hb dL_law_1049 hl (k := 2) rfl (nI_1 _) (by decide) rfl (fun ls hl => ?_)
                                refine lv_goto (tgt := 960) hx hb dL_law_1052 (by decide) ?_
                                exact ih960 (w + 1) (by omega) (by omega) _ (rfl) _ (congrArg nI (cth_y (Classical.byContradiction fun h9 => c990 (by have h8 := (zV_neg hV1 hk (w := w) (by omega) hn).mpr h9; rw [show w = 1 by omega] at h8; exact h8)))) _ (lv_sub hl [0, 3, 4, 5, 6, 7, 8, 9, 10, 11, 12, 13, 14, 1, 15, 16, 17, 18] rfl)
                              · exact absurd c1044 (zV_nk (w := 1) hV1 hk (by omega) hn)
            exact loop960 _ 0 (Nat.lt_succ_self _) (by omega) _ (rfl) _ (rfl) _ (lv_sub hl [0, 1, 2, 3, 4, 5, 6, 7, 8, 9, 10, 11, 12, 13, 14, 15, 16, 17] rfl)
          · obtain ⟨o9, hho⟩ : ∃ o9, hd lo e k (c k) = some o9 := Option.ne_none_iff_exists'.mp (fun h => c931 ((zo_neg (fun q hq => by have := zI_hd hI hq; omega)).mpr h))
            refine lv_aload_n hx hb dL_law_934 rfl (lv_at hl 3 rfl) ?_
            refine lv_iload hx hb dL_law_935 (lv_at hl 15 rfl) ?_
            refine z_ki (va_runV (As := [.int (nI k)]) (rest := []) hfix (zcX4_source_k l D cI H b n me lo c e ((rN n me lo c e (rd, tk, g) 1).1) ((rN n me lo c e (rd, tk, g) 1).2.1) (zgP n me lo c e rd tk g) k hC hI (by omega)) (cwV 1 hts gL_law_X4_source rfl rfl rfl (by decide +kernel) ⟨Nat.le_of_ble_eq_true rfl, Nat.le_of_ble_eq_true rfl⟩) (z_preV hK hK1 hC.1 (ci := 4) (q0 := 0) rfl rfl rfl) rfl rfl hl.1 rfl (lv_room (Nat.le_of_ble_eq_true rfl)) dL_law_937 ⟨by show ck + 0 ≤ 830515; omega, by show sk + 0 ≤ 6609922; omega⟩) ?_
            refine lv_iload hx hb dL_law_940 (lv_at hl 16 rfl) ?_
            refine lv_ishr hx hb dL_law_942 ?_
            refine lv_iconst (v := 1) hx hb dL_law_943 (by decide) ?_
            refine lv_iand hx hb dL_law_944 ?_
            refine lv_if_ne (tgt := 950) hx hb dL_law_945 (by decide) (fun c945 => ?_) (fun c945 => ?_)
            · refine lv_iload hx hb dL_law_950 (lv_at hl 13 rfl) ?_
              refine lv_iload hx hb dL_law_952 (lv_at hl 17 rfl) ?_
              refine lv_iadd hx hb dL_law_954 ?_
              refine lv_istore (lv' := [(15, .int ((su (zgP n me lo c e rd tk g) k) + sv)), (23, .int (nI w)), (3, .int (nI tm)), (0, .ref b0), (1, .ref b), (2, .ref o), (5, .int (nI n)), (6, .ref qw), (7, .ref qh), (8, .ref qt), (10, .int rd), (12, .int ((rN n me lo c e (rd, tk, g) 1).2.1 - tk)), (13, .int mny), (14, .int (nI (ct (zgP n me lo c e rd tk g) k))), (16, .int (nI (mo (zgP n me lo c e rd tk g) n k))), (17, .int (nI k)), (18, .int (zo (hd lo e k (c k)))), (22, .int sv)]) hx hb dL_law_955 hl (by decide) rfl (fun ls hl => ?_)
              have hs9 : su (zgP n me lo c e rd tk g) k + sv = su (zgP n me lo c e rd tk g) (k + 1) := by rw [hsv]; rfl
              have hl : lv_has ls 25 [(15, .int (su (zgP n me lo c e rd tk g) (k + 1))), (23, .int (nI w)), (3, .int (nI tm)), (0, .ref b0), (1, .ref b), (2, .ref o), (5, .int (nI n)), (6, .ref qw), (7, .ref qh), (8, .ref qt), (10, .int rd), (12, .int ((rN n me lo c e (rd, tk, g) 1).2.1 - tk)), (13, .int mny), (14, .int (nI (ct (zgP n me lo c e rd tk g) k))), (16, .int (nI (mo (zgP n me lo c e rd tk g) n k))), (17, .int (nI k)), (18, .int (zo (hd lo e k (c k)))), (22, .int sv)] := by rw [hs9] at hl; exact hl
              refine lv_iconst (v := 0) hx hb dL_law_957 (by decide) ?_
              refine lv_istore (lv' := [(23, .int 0), (15, .int (su (zgP n me lo c e rd tk g) (k + 1))), (3, .int (nI tm)), (0, .ref b0), (1, .ref b), (2, .ref o), (5, .int (nI n)), (6, .ref qw), (7, .ref qh), (8, .ref qt), (10, .int rd), (12, .int ((rN n me lo c e (rd, tk, g) 1).2.1 - tk)), (13, .int mny), (14, .int (nI (ct (zgP n me lo c e rd tk g) k))), (16, .int (nI (mo (zgP n me lo c e rd tk g) n k))), (17, .int (nI k)), (18, .int (zo (hd lo e k (c k)))), (22, .int sv)]) hx hb dL_law_958 hl (by decide) rfl (fun ls hl => ?_)
              have loop960 : ∀ (fu : Nat) (w : Nat), 2 - w < fu → (w ≤ 2) → ∀ (x23 : Int32), x23 = (nI w) → ∀ (x14 : Int32), x14 = (nI (cth (zgP n me lo c e rd tk g) k w)) → ∀ ls : Array Slot, lv_has ls 25 [(23, .int x23), (15, .int (su (zgP n me lo c e rd tk g) (k + 1))), (3, .int (nI tm)), (0, .ref b0), (1, .ref b), (2, .ref o), (5, .int (nI n)), (6, .ref qw), (7, .ref qh), (8, .ref qt), (10, .int rd), (12, .int ((rN n me lo c e (rd, tk, g) 1).2.1 - tk)), (13, .int mny), (14, .int x14), (16, .int (nI (mo (zgP n me lo c e rd tk g) n k))), (17, .int (nI k)), (18, .int (zo (hd lo e k (c k)))), (22, .int sv)] → W pg l ev room_1 s m args below meth cd H lo0 ck sk Q (F0 m 960 ls []) := by
                intro fu
                induction fu with
                | zero => intro w hfu; exact absurd hfu (Nat.not_lt_zero _)
                | succ fu ih960 =>
                  intro w hfu hi960_0 x23 ex23 x14 ex14 ls hl
                  subst ex23
                  subst ex14
                  refine lv_iload hx hb dL_law_960 (lv_at hl 0 rfl) ?_
                  refine lv_iconst (v := 2) hx hb dL_law_962 (by decide) ?_
                  refine lv_icmp_ge (tgt := 1055) hx hb dL_law_963 (by decide) (fun c963 => ?_) (fun c963 => ?_)
                  · have c963 := z_le (a := 2) (b := w) c963 (by omega) (by omega)
                    have hw9 : w = 2 := by omega
                    have ht9 : cth (zgP n me lo c e rd tk g) k w = ct (zgP n me lo c e rd tk g) (k + 1) := by rw [hw9]; rfl
                    have hl : lv_has ls 25 [(23, .int (nI w)), (15, .int (su (zgP n me lo c e rd tk g) (k + 1))), (3, .int (nI tm)), (0, .ref b0), (1, .ref b), (2, .ref o), (5, .int (nI n)), (6, .ref qw), (7, .ref qh), (8, .ref qt), (10, .int rd), (12, .int ((rN n me lo c e (rd, tk, g) 1).2.1 - tk)), (13, .int mny), (14, .int (nI (ct (zgP n me lo c e rd tk g) (k + 1)))), (16, .int (nI (mo (zgP n me lo c e rd tk g) n k))), (17, .int (nI k)), (18, .int (zo (hd lo e k (c k)))), (22, .int sv)] := by rw [ht9] at hl; exact hl
                    refine lv_iload hx hb dL_law_1055 (lv_at hl 14 rfl) ?_
                    refine lv_aload_n hx hb dL_law_1057 rfl (lv_at hl 4 rfl) ?_
                    refine lv_aload_n hx hb dL_law_1058 rfl (lv_at hl 4 rfl) ?_
                    refine lv_iload hx hb dL_law_1059 (lv_at hl 15 rfl) ?_
                    refine lv_iconst (v := 0) hx hb dL_law_1061 (by decide) ?_
                    refine z_ki (va_runV (As := [.int (nI k), .int 0]) (rest := [.ref b, .int (nI (mo (zgP n me lo c e rd tk g) n k))]) hfix (zcX4_parrot_k l D cI H b n me lo c e ((rN n me lo c e (rd, tk, g) 1).1) ((rN n me lo c e (rd, tk, g) 1).2.1) (zgP n me lo c e rd tk g) k 0 hC hI (by omega) (by omega)) (cwV 2 hts gL_law_X4_parrot rfl rfl rfl (by decide +kernel) ⟨Nat.le_of_ble_eq_true rfl, Nat.le_of_ble_eq_true rfl⟩) (z_preV hK hK1 hC.1 (ci := 4) (q0 := 0) rfl rfl rfl) rfl rfl hl.1 rfl (lv_room (Nat.le_of_ble_eq_true rfl)) dL_law_1062 ⟨by show ck + 0 ≤ 830515; omega, by show sk + 0 ≤ 6609922; omega⟩) ?_
                    refine z_toi (y := nI wv) (hwe) ?_
                    refine z_ki (va_runV (As := [.int (nI wv)]) (rest := [.int (nI (mo (zgP n me lo c e rd tk g) n k))]) hfix (zcX4_votes_k l D cI H b n me lo c e ((rN n me lo c e (rd, tk, g) 1).1) ((rN n me lo c e (rd, tk, g) 1).2.1) (zgP n me lo c e rd tk g) wv hC hI (by omega)) (cwV 1 hts gL_law_X4_votes rfl rfl rfl (by decide +kernel) ⟨Nat.le_of_ble_eq_true rfl, Nat.le_of_ble_eq_true rfl⟩) (z_preV hK hK1 hC.1 (ci := 4) (q0 := 0) rfl rfl rfl) rfl rfl hl.1 rfl (lv_room (Nat.le_of_ble_eq_true rfl)) dL_law_1065 ⟨by show ck + 0 ≤ 830515; omega, by show sk + 0 ≤ 6609922; omega⟩) ?_
                    refine va_mmax hx hb (by rw [hml]; exact hl.1.symm) hown hwd9 hwd10 hwd7 (hwd11) (Nat.le_of_ble_eq_true rfl) (Nat.le_of_ble_eq_true rfl) (hck) (hsk) dL_law_1068 ?_
                    refine z_toi (y := zmax (nI (mo (zgP n me lo c e rd tk g) n k)) (nI (vt (zgP n me lo c e rd tk g) (nI wv) n))) rfl ?_
                    refine z_toi (y := nI (mo (zgP n me lo c e rd tk g) n (k + 1))) (by rw [show mo (zgP n me lo c e rd tk g) n (k + 1) = max (mo (zgP n me lo c e rd tk g) n k) (vt (zgP n me lo c e rd tk g) (wd (zgP n me lo c e rd tk g) k) n) from rfl, hwe]; exact zmax_nat (by omega) (by omega)) ?_
                    refine lv_istore (lv' := [(16, .int (nI (mo (zgP n me lo c e rd tk g) n (k + 1)))), (23, .int (nI w)), (15, .int (su (zgP n me lo c e rd tk g) (k + 1))), (3, .int (nI tm)), (0, .ref b0), (1, .ref b), (2, .ref o), (5, .int (nI n)), (6, .ref qw), (7, .ref qh), (8, .ref qt), (10, .int rd), (12, .int ((rN n me lo c e (rd, tk, g) 1).2.1 - tk)), (13, .int mny), (14, .int (nI (ct (zgP n me lo c e rd tk g) (k + 1)))), (17, .int (nI k)), (18, .int (zo (hd lo e k (c k)))), (22, .int sv)]) hx hb dL_law_1071 hl (by decide) rfl (fun ls hl => ?_)
                    refine lv_aload_n hx hb dL_law_1073 rfl (lv_at hl 5 rfl) ?_
                    refine lv_aload_n hx hb dL_law_1074 rfl (lv_at hl 5 rfl) ?_
                    refine lv_iload hx hb dL_law_1075 (lv_at hl 15 rfl) ?_
                    refine lv_iconst (v := 0) hx hb dL_law_1077 (by decide) ?_
                    refine z_ki (va_runV (As := [.int (nI k), .int 0]) (rest := [.ref b]) hfix (zcX4_parrot_k l D cI H b n me lo c e ((rN n me lo c e (rd, tk, g) 1).1) ((rN n me lo c e (rd, tk, g) 1).2.1) (zgP n me lo c e rd tk g) k 0 hC hI (by omega) (by omega)) (cwV 2 hts gL_law_X4_parrot rfl rfl rfl (by decide +kernel) ⟨Nat.le_of_ble_eq_true rfl, Nat.le_of_ble_eq_true rfl⟩) (z_preV hK hK1 hC.1 (ci := 4) (q0 := 0) rfl rfl rfl) rfl rfl hl.1 rfl (lv_room (Nat.le_of_ble_eq_true rfl)) dL_law_1078 ⟨by show ck + 0 ≤ 830515; omega, by show sk + 0 ≤ 6609922; omega⟩) ?_
                    refine z_toi (y := nI wv) (hwe) ?_
                    refine z_ki (va_runV (As := [.int (nI wv)]) (rest := []) hfix (zcX4_left_k l D cI H b n me lo c e ((rN n me lo c e (rd, tk, g) 1).1) ((rN n me lo c e (rd, tk, g) 1).2.1) (zgP n me lo c e rd tk g) wv hC hI (by omega)) (cwV 1 hts gL_law_X4_left rfl rfl rfl (by decide +kernel) ⟨Nat.le_of_ble_eq_true rfl, Nat.le_of_ble_eq_true rfl⟩) (z_preV hK hK1 hC.1 (ci := 4) (q0 := 0) rfl rfl rfl) rfl rfl hl.1 rfl (lv_room (Nat.le_of_ble_eq_true rfl)) dL_law_1081 ⟨by show ck + 0 ≤ 830515; omega, by show sk + 0 ≤ 6609922; omega⟩) ?_
                    refine lv_iconst (v := 2) hx hb dL_law_1084 (by decide) ?_
                    refine lv_aload_n hx hb dL_law_1085 rfl (lv_at hl 5 rfl) ?_
                    refine lv_aload_n hx hb dL_law_1086 rfl (lv_at hl 5 rfl) ?_
                    refine lv_iload hx hb dL_law_1087 (lv_at hl 15 rfl) ?_
                    refine lv_iconst (v := 0) hx hb dL_law_1089 (by decide) ?_
                    refine z_ki (va_runV (As := [.int (nI k), .int 0]) (rest := [.ref b, .int 2, .int (nI (lf (zgP n me lo c e rd tk g) (nI wv) n))]) hfix (zcX4_parrot_k l D cI H b n me lo c e ((rN n me lo c e (rd, tk, g) 1).1) ((rN n me lo c e (rd, tk, g) 1).2.1) (zgP n me lo c e rd tk g) k 0 hC hI (by omega) (by omega)) (cwV 2 hts gL_law_X4_parrot rfl rfl rfl (by decide +kernel) ⟨Nat.le_of_ble_eq_true rfl, Nat.le_of_ble_eq_true rfl⟩) (z_preV hK hK1 hC.1 (ci := 4) (q0 := 0) rfl rfl rfl) rfl rfl hl.1 rfl (lv_room (Nat.le_of_ble_eq_true rfl)) dL_law_1090 ⟨by show ck + 0 ≤ 830515; omega, by show sk + 0 ≤ 6609922; omega⟩) ?_
                    refine z_toi (y := nI wv) (hwe) ?_
                    refine z_ki (va_runV (As := [.int (nI wv)]) (rest := [.int 2, .int (nI (lf (zgP n me lo c e rd tk g) (nI wv) n))]) hfix (zcX4_votes_k l D cI H b n me lo c e ((rN n me lo c e (rd, tk, g) 1).1) ((rN n me lo c e (rd, tk, g) 1).2.1) (zgP n me lo c e rd tk g) wv hC hI (by omega)) (cwV 1 hts gL_law_X4_votes rfl rfl rfl (by decide +kernel) ⟨Nat.le_of_ble_eq_true rfl, Nat.le_of_ble_eq_true rfl⟩) (z_preV hK hK1 hC.1 (ci := 4) (q0 := 0) rfl rfl rfl) rfl rfl hl.1 rfl (lv_room (Nat.le_of_ble_eq_true rfl)) dL_law_1093 ⟨by show ck + 0 ≤ 830515; omega, by show sk + 0 ≤ 6609922; omega⟩) ?_
                    refine lv_imul hx hb dL_law_1096 ?_
                    refine z_toi (y := nI ((vt (zgP n me lo c e rd tk g) (nI wv) n) * 2)) ((pk_mul 2 (vt (zgP n me lo c e rd tk g) (nI wv) n)).trans (congrArg nI (Nat.mul_comm _ _))) ?_
                    refine lv_icmp_ge (tgt := 1102) hx hb dL_law_1097 (by decide) (fun c1097 => ?_) (fun c1097 => ?_)
                    · have c1097 := z_le (a := (vt (zgP n me lo c e rd tk g) (nI wv) n) * 2) (b := lf (zgP n me lo c e rd tk g) (nI wv) n) c1097 (by omega) (by omega)
                      exact kt _ (lv_sub hl [3, 4, 5, 6, 7, 8, 9, 10, 11, 12, 13, 14, 2, 0, 15] rfl)
                    · have c1097 := z_nle (a := (vt (zgP n me lo c e rd tk g) (nI wv) n) * 2) (b := lf (zgP n me lo c e rd tk g) (nI wv) n) c1097 (by omega) (by omega)
                      exact absurd (lf_vt hZ1 hwv n (Nat.le_refl _)) (by omega)
                  · have c963 := z_nle (a := 2) (b := w) c963 (by omega) (by omega)
                    refine lv_aload_n hx hb dL_law_966 rfl (lv_at hl 4 rfl) ?_
                    refine lv_iload hx hb dL_law_967 (lv_at hl 15 rfl) ?_
                    refine lv_iload hx hb dL_law_969 (lv_at hl 0 rfl) ?_
                    refine lv_iconst (v := 1) hx hb dL_law_971 (by decide) ?_
                    refine lv_icmp_ne (tgt := 979) hx hb dL_law_972 (by decide) (fun c972 => ?_) (fun c972 => ?_)
                    · have c972 := z_ne (a := w) (b := 1) c972 (by omega) (by omega)
                      refine lv_iconst (v := 0) hx hb dL_law_979 (by decide) ?_
                      refine lv_iconst (v := 1) hx hb dL_law_980 (by decide) ?_
                      refine z_ki (va_runV (As := [.int (nI k), .int 0, .int 1]) (rest := []) hfix (zcX4_half_k0 l D cI H b n me lo c e ((rN n me lo c e (rd, tk, g) 1).1) ((rN n me lo c e (rd, tk, g) 1).2.1) (zgP n me lo c e rd tk g) k 1 hC hI (by omega) (by omega)) (cwV 3 hts gL_law_X4_half rfl rfl rfl (by decide +kernel) ⟨Nat.le_of_ble_eq_true rfl, Nat.le_of_ble_eq_true rfl⟩) (z_preV hK hK1 hC.1 (ci := 4) (q0 := 0) rfl rfl rfl) rfl rfl hl.1 rfl (lv_room (Nat.le_of_ble_eq_true rfl)) dL_law_981 ⟨by show ck + 0 ≤ 830515; omega, by show sk + 0 ≤ 6609922; omega⟩) ?_
                      refine lv_istore (lv' := [(24, .int (th (zgP n me lo c e rd tk g) k 0 1)), (23, .int (nI w)), (15, .int (su (zgP n me lo c e rd tk g) (k + 1))), (3, .int (nI tm)), (0, .ref b0), (1, .ref b), (2, .ref o), (5, .int (nI n)), (6, .ref qw), (7, .ref qh), (8, .ref qt), (10, .int rd), (12, .int ((rN n me lo c e (rd, tk, g) 1).2.1 - tk)), (13, .int mny), (14, .int (nI (cth (zgP n me lo c e rd tk g) k w))), (16, .int (nI (mo (zgP n me lo c e rd tk g) n k))), (17, .int (nI k)), (18, .int (zo (hd lo e k (c k)))), (22, .int sv)]) hx hb dL_law_984 hl (by decide) rfl (fun ls hl => ?_)
                      refine lv_iload hx hb dL_law_986 (lv_at hl 14 rfl) ?_
                      refine lv_iload hx hb dL_law_988 (lv_at hl 0 rfl) ?_
                      refine lv_if_ge (tgt := 997) hx hb dL_law_990 (by decide) (fun c990 => ?_) (fun c990 => ?_)
                      · refine lv_iconst (v := 0) hx hb dL_law_997 (by decide) ?_
                        refine lv_iadd hx hb dL_law_998 ?_
                        refine z_toi (y := nI (cth (zgP n me lo c e rd tk g) k w + 0)) (nI_add (cth (zgP n me lo c e rd tk g) k w) 0) ?_
                        refine lv_istore (lv' := [(14, .int (nI (cth (zgP n me lo c e rd tk g) k w + 0))), (24, .int (th (zgP n me lo c e rd tk g) k 0 1)), (23, .int (nI w)), (15, .int (su (zgP n me lo c e rd tk g) (k + 1))), (3, .int (nI tm)), (0, .ref b0), (1, .ref b), (2, .ref o), (5, .int (nI n)), (6, .ref qw), (7, .ref qh), (8, .ref qt), (10, .int rd), (12, .int ((rN n me lo c e (rd, tk, g) 1).2.1 - tk)), (13, .int mny), (16, .int (nI (mo (zgP n me lo c e rd tk g) n k))), (17, .int (nI k)), (18, .int (zo (hd lo e k (c k)))), (22, .int sv)]) hx hb dL_law_999 hl (by decide) rfl (fun ls hl => ?_)
                        refine lv_iload hx hb dL_law_1001 (lv_at hl 1 rfl) ?_
                        refine lv_if_ge (tgt := 1010) hx hb dL_law_1003 (by decide) (fun c1003 => ?_) (fun c1003 => ?_)
                        · refine lv_iconst (v := 0) hx hb dL_law_1010 (by decide) ?_
                          refine lv_aload_n hx hb dL_law_1011 rfl (lv_at hl 6 rfl) ?_
                          refine lv_iload hx hb dL_law_1012 (lv_at hl 16 rfl) ?_
                          refine lv_iload hx hb dL_law_1014 (lv_at hl 2 rfl) ?_
                          refine lv_iconst (v := 1) hx hb dL_law_1016 (by decide) ?_
                          refine lv_icmp_ne (tgt := 1024) hx hb dL_law_1017 (by decide) (fun c1017 => ?_) (fun c1017 => ?_)
                          · have c1017 := z_ne (a := w) (b := 1) c1017 (by omega) (by omega)
                            refine lv_iconst (v := 0) hx hb dL_law_1024 (by decide) ?_
                            refine lv_iconst (v := 2) hx hb dL_law_1025 (by decide) ?_
                            refine z_ki (va_runV (As := [.int (nI k), .int 0, .int 2]) (rest := [.int 0]) hfix (zcX4_half_k0 l D cI H b n me lo c e ((rN n me lo c e (rd, tk, g) 1).1) ((rN n me lo c e (rd, tk, g) 1).2.1) (zgP n me lo c e rd tk g) k 2 hC hI (by omega) (by omega)) (cwV 3 hts gL_law_X4_half rfl rfl rfl (by decide +kernel) ⟨Nat.le_of_ble_eq_true rfl, Nat.le_of_ble_eq_true rfl⟩) (z_preV hK hK1 hC.1 (ci := 4) (q0 := 0) rfl rfl rfl) rfl rfl hl.1 rfl (lv_room (Nat.le_of_ble_eq_true rfl)) dL_law_1026 ⟨by show ck + 0 ≤ 830515; omega, by show sk + 0 ≤ 6609922; omega⟩) ?_
                            refine lv_if_ne (tgt := 1036) hx hb dL_law_1029 (by decide) (fun c1029 => ?_) (fun c1029 => ?_)
                            · refine lv_iconst (v := 0) hx hb dL_law_1036 (by decide) ?_
                              refine lv_icmp_ne (tgt := 1047) hx hb dL_law_1037 (by decide) (fun c1037 => ?_) (fun c1037 => ?_)
                              · exact absurd (by decide) c1037
                              · have c1037 := z_eq (a := 0) (b := 0) c1037 (by omega) (by omega)
                                refine lv_iload hx hb dL_law_1040 (lv_at hl 1 rfl) ?_
                                refine lv_iload hx hb dL_law_1042 (lv_at hl 16 rfl) ?_
                                refine lv_icmp_ne (tgt := 1049) hx hb dL_law_1044 (by decide) (fun c1044 => ?_) (fun c1044 => ?_)
                                · refine lv_iinc (v := (nI (w + 1))) (lv' := [(23, .int (nI (w + 1))), (14, .int (nI (cth (zgP n me lo c e rd tk g) k w + 0))), (24, .int (th (zgP n me lo c e rd tk g) k 0 1)), (15, .int (su (zgP n me lo c e rd tk g) (k + 1))), (3, .int (nI tm)), (0, .ref b0), (1, .ref b), (2, .ref o), (5, .int (nI n)), (6, .ref qw), (7, .ref qh), (8, .ref qt), (10, .int rd), (12, .int ((rN n me lo c e (rd, tk, g) 1).2.1 - tk)), (13, .int mny), (16, .int (nI (mo (zgP n me lo c e rd tk g) n k))), (17, .int (nI k)), (18, .int (zo (hd lo e k (c k)))), (22, .int sv)]) hx hb dL_law_1049 hl (k := 2) rfl (nI_1 _) (by decide) rfl (fun ls hl => ?_)
                                  refine lv_goto (tgt := 960) hx hb dL_law_1052 (by decide) ?_
                                  exact ih960 (w + 1) (by omega) (by omega) _ (rfl) _ (congrArg nI (cth_n ((zV_neg hV1 hk (by omega) hn).mp (by rw [show w = 0 by omega]; exact c990)))) _ (lv_sub hl [0, 3, 4, 5, 6, 7, 8, 9, 10, 11, 12, 13, 14, 1, 15, 16, 17, 18] rfl)
                                · exact absurd c1044 (zV_nk (w := 0) hV1 hk (by omega) hn)
                            · exact absurd c1029 ((zV_ov (w := 0) hV1 hk (by omega) hn).mp c990)
                          · have c1017 := z_eq (a := w) (b := 1) c1017 (by omega) (by omega)
                            exact absurd c1017 c972
                        · exact absurd c990 c1003
                      · refine lv_iconst (v := 1) hx hb dL_law_993 (by decide) ?_
                        refine lv_goto (tgt := 998) hx hb dL_law_994 (by decide) ?_
                        refine lv_iadd hx hb dL_law_998 ?_
                        refine z_toi (y := nI (cth (zgP n me lo c e rd tk g) k w + 1)) (nI_add (cth (zgP n me lo c e rd tk g) k w) 1) ?_
                        refine lv_istore (lv' := [(14, .int (nI (cth (zgP n me lo c e rd tk g) k w + 1))), (24, .int (th (zgP n me lo c e rd tk g) k 0 1)), (23, .int (nI w)), (15, .int (su (zgP n me lo c e rd tk g) (k + 1))), (3, .int (nI tm)), (0, .ref b0), (1, .ref b), (2, .ref o), (5, .int (nI n)), (6, .ref qw), (7, .ref qh), (8, .ref qt), (10, .int rd), (12, .int ((rN n me lo c e (rd, tk, g) 1).2.1 - tk)), (13, .int mny), (16, .int (nI (mo (zgP n me lo c e rd tk g) n k))), (17, .int (nI k)), (18, .int (zo (hd lo e k (c k)))), (22, .int sv)]) hx hb dL_law_999 hl (by decide) rfl (fun ls hl => ?_)
                        refine lv_iload hx hb dL_law_1001 (lv_at hl 1 rfl) ?_
                        refine lv_if_ge (tgt := 1010) hx hb dL_law_1003 (by decide) (fun c1003 => ?_) (fun c1003 => ?_)
                        · exact absurd c1003 c990
                        · refine lv_iconst (v := 1) hx hb dL_law_1006 (by decide) ?_
                          refine lv_goto (tgt := 1011) hx hb dL_law_1007 (by decide) ?_
                          refine lv_aload_n hx hb dL_law_1011 rfl (lv_at hl 6 rfl) ?_
                          refine lv_iload hx hb dL_law_1012 (lv_at hl 16 rfl) ?_
                          refine lv_iload hx hb dL_law_1014 (lv_at hl 2 rfl) ?_
                          refine lv_iconst (v := 1) hx hb dL_law_1016 (by decide) ?_
                          refine lv_icmp_ne (tgt := 1024) hx hb dL_law_1017 (by decide) (fun c1017 => ?_) (fun c1017 => ?_)
                          · have c1017 := z_ne (a := w) (b := 1) c1017 (by omega) (by omega)
                            refine lv_iconst (v := 0) hx hb dL_law_1024 (by decide) ?_
                            refine lv_iconst (v := 2) hx hb dL_law_1025 (by decide) ?_
                            refine z_ki (va_runV (As := [.int (nI k), .int 0, .int 2]) (rest := [.int 1]) hfix (zcX4_half_k0 l D cI H b n me lo c e ((rN n me lo c e (rd, tk, g) 1).1) ((rN n me lo c e (rd, tk, g) 1).2.1) (zgP n me lo c e rd tk g) k 2 hC hI (by omega) (by omega)) (cwV 3 hts gL_law_X4_half rfl rfl rfl (by decide +kernel) ⟨Nat.le_of_ble_eq_true rfl, Nat.le_of_ble_eq_true rfl⟩) (z_preV hK hK1 hC.1 (ci := 4) (q0 := 0) rfl rfl rfl) rfl rfl hl.1 rfl (lv_room (Nat.le_of_ble_eq_true rfl)) dL_law_1026 ⟨by show ck + 0 ≤ 830515; omega, by show sk + 0 ≤ 6609922; omega⟩) ?_
                            refine lv_if_ne (tgt := 1036) hx hb dL_law_1029 (by decide) (fun c1029 => ?_) (fun c1029 => ?_)
                            · exact absurd ((zV_ov (w := 0) hV1 hk (by omega) hn).mpr c1029) c990
                            · refine lv_iconst (v := 1) hx hb dL_law_1032 (by decide) ?_
                              refine lv_goto (tgt := 1037) hx hb dL_law_1033 (by decide) ?_
                              refine lv_icmp_ne (tgt := 1047) hx hb dL_law_1037 (by decide) (fun c1037 => ?_) (fun c1037 => ?_)
                              · exact absurd (by decide) c1037
                              · have c1037 := z_eq (a := 1) (b := 1) c1037 (by omega) (by omega)
                                refine lv_iload hx hb dL_law_1040 (lv_at hl 1 rfl) ?_
                                refine lv_iload hx hb dL_law_1042 (lv_at hl 16 rfl) ?_
                                refine lv_icmp_ne (tgt := 1049) hx hb dL_law_1044 (by decide) (fun c1044 => ?_) (fun c1044 => ?_)
                                · refine lv_iinc (v := (nI (w + 1))) (lv' := [(23, .int (nI (w + 1))), (14, .int (nI (cth (zgP n me lo c e rd tk g) k w + 1))), (24, .int (th (zgP n me lo c e rd tk g) k 0 1)), (15, .int (su (zgP n me lo c e rd tk g) (k + 1))), (3, .int (nI tm)), (0, .ref b0), (1, .ref b), (2, .ref o), (5, .int (nI n)), (6, .ref qw), (7, .ref qh), (8, .ref qt), (10, .int rd), (12, .int ((rN n me lo c e (rd, tk, g) 1).2.1 - tk)), (13, .int mny), (16, .int (nI (mo (zgP n me lo c e rd tk g) n k))), (17, .int (nI k)), (18, .int (zo (hd lo e k (c k)))), (22, .int sv)]) hx hb dL_law_1049 hl (k := 2) rfl (nI_1 _) (by decide) rfl (fun ls hl => ?_)
                                  refine lv_goto (tgt := 960) hx hb dL_law_1052 (by decide) ?_
                                  exact ih960 (w + 1) (by omega) (by omega) _ (rfl) _ (congrArg nI (cth_y (Classical.byContradiction fun h9 => c990 (by have h8 := (zV_neg hV1 hk (w := w) (by omega) hn).mpr h9; rw [show w = 0 by omega] at h8; exact h8)))) _ (lv_sub hl [0, 3, 4, 5, 6, 7, 8, 9, 10, 11, 12, 13, 14, 1, 15, 16, 17, 18] rfl)
                                · exact absurd c1044 (zV_nk (w := 0) hV1 hk (by omega) hn)
                          · have c1017 := z_eq (a := w) (b := 1) c1017 (by omega) (by omega)
                            exact absurd c1017 c972
                    · have c972 := z_eq (a := w) (b := 1) c972 (by omega) (by omega)
                      refine lv_iconst (v := 1) hx hb dL_law_975 (by decide) ?_
                      refine lv_goto (tgt := 980) hx hb dL_law_976 (by decide) ?_
                      refine lv_iconst (v := 1) hx hb dL_law_980 (by decide) ?_
                      refine z_ki (va_runV (As := [.int (nI k), .int 1, .int 1]) (rest := []) hfix (zcX4_half_k1 l D cI H b n me lo c e ((rN n me lo c e (rd, tk, g) 1).1) ((rN n me lo c e (rd, tk, g) 1).2.1) (zgP n me lo c e rd tk g) k 1 hC hI (by omega) (by omega)) (cwV 3 hts gL_law_X4_half rfl rfl rfl (by decide +kernel) ⟨Nat.le_of_ble_eq_true rfl, Nat.le_of_ble_eq_true rfl⟩) (z_preV hK hK1 hC.1 (ci := 4) (q0 := 0) rfl rfl rfl) rfl rfl hl.1 rfl (lv_room (Nat.le_of_ble_eq_true rfl)) dL_law_981 ⟨by show ck + 0 ≤ 830515; omega, by show sk + 0 ≤ 6609922; omega⟩) ?_
                      refine lv_istore (lv' := [(24, .int (th (zgP n me lo c e rd tk g) k 1 1)), (23, .int (nI w)), (15, .int (su (zgP n me lo c e rd tk g) (k + 1))), (3, .int (nI tm)), (0, .ref b0), (1, .ref b), (2, .ref o), (5, .int (nI n)), (6, .ref qw), (7, .ref qh), (8, .ref qt), (10, .int rd), (12, .int ((rN n me lo c e (rd, tk, g) 1).2.1 - tk)), (13, .int mny), (14, .int (nI (cth (zgP n me lo c e rd tk g) k w))), (16, .int (nI (mo (zgP n me lo c e rd tk g) n k))), (17, .int (nI k)), (18, .int (zo (hd lo e k (c k)))), (22, .int sv)]) hx hb dL_law_984 hl (by decide) rfl (fun ls hl => ?_)
                      refine lv_iload hx hb dL_law_986 (lv_at hl 14 rfl) ?_
                      refine lv_iload hx hb dL_law_988 (lv_at hl 0 rfl) ?_
                      refine lv_if_ge (tgt := 997) hx hb dL_law_990 (by decide) (fun c990 => ?_) (fun c990 => ?_)
                      · refine lv_iconst (v := 0) hx hb dL_law_997 (by decide) ?_
                        refine lv_iadd hx hb dL_law_998 ?_
                        refine z_toi (y := nI (cth (zgP n me lo c e rd tk g) k w + 0)) (nI_add (cth (zgP n me lo c e rd tk g) k w) 0) ?_
                        refine lv_istore (lv' := [(14, .int (nI (cth (zgP n me lo c e rd tk g) k w + 0))), (24, .int (th (zgP n me lo c e rd tk g) k 1 1)), (23, .int (nI w)), (15, .int (su (zgP n me lo c e rd tk g) (k + 1))), (3, .int (nI tm)), (0, .ref b0), (1, .ref b), (2, .ref o), (5, .int (nI n)), (6, .ref qw), (7, .ref qh), (8, .ref qt), (10, .int rd), (12, .int ((rN n me lo c e (rd, tk, g) 1).2.1 - tk)), (13, .int mny), (16, .int (nI (mo (zgP n me lo c e rd tk g) n k))), (17, .int (nI k)), (18, .int (zo (hd lo e k (c k)))), (22, .int sv)]) hx hb dL_law_999 hl (by decide) rfl (fun ls hl => ?_)
                        refine lv_iload hx hb dL_law_1001 (lv_at hl 1 rfl) ?_
                        refine lv_if_ge (tgt := 1010) hx hb dL_law_1003 (by decide) (fun c1003 => ?_) (fun c1003 => ?_)
                        · refine lv_iconst (v := 0) hx hb dL_law_1010 (by decide) ?_
                          refine lv_aload_n hx hb dL_law_1011 rfl (lv_at hl 6 rfl) ?_
                          refine lv_iload hx hb dL_law_1012 (lv_at hl 16 rfl) ?_
                          refine lv_iload hx hb dL_law_1014 (lv_at hl 2 rfl) ?_
                          refine lv_iconst (v := 1) hx hb dL_law_1016 (by decide) ?_
                          refine lv_icmp_ne (tgt := 1024) hx hb dL_law_1017 (by decide) (fun c1017 => ?_) (fun c1017 => ?_)
                          · have c1017 := z_ne (a := w) (b := 1) c1017 (by omega) (by omega)
                            exact absurd c972 c1017
                          · have c1017 := z_eq (a := w) (b := 1) c1017 (by omega) (by omega)
                            refine lv_iconst (v := 1) hx hb dL_law_1020 (by decide) ?_
                            refine lv_goto (tgt := 1025) hx hb dL_law_1021 (by decide) ?_
                            refine lv_iconst (v := 2) hx hb dL_law_1025 (by decide) ?_
                            refine z_ki (va_runV (As := [.int (nI k), .int 1, .int 2]) (rest := [.int 0]) hfix (zcX4_half_k1 l D cI H b n me lo c e ((rN n me lo c e (rd, tk, g) 1).1) ((rN n me lo c e (rd, tk, g) 1).2.1) (zgP n me lo c e rd tk g) k 2 hC hI (by omega) (by omega)) (cwV 3 hts gL_law_X4_half rfl rfl rfl (by decide +kernel) ⟨Nat.le_of_ble_eq_true rfl, Nat.le_of_ble_eq_true rfl⟩) (z_preV hK hK1 hC.1 (ci := 4) (q0 := 0) rfl rfl rfl) rfl rfl hl.1 rfl (lv_room (Nat.le_of_ble_eq_true rfl)) dL_law_1026 ⟨by show ck + 0 ≤ 830515; omega, by show sk + 0 ≤ 6609922; omega⟩) ?_
                            refine lv_if_ne (tgt := 1036) hx hb dL_law_1029 (by decide) (fun c1029 => ?_) (fun c1029 => ?_)
                            · refine lv_iconst (v := 0) hx hb dL_law_1036 (by decide) ?_
                              refine lv_icmp_ne (tgt := 1047) hx hb dL_law_1037 (by decide) (fun c1037 => ?_) (fun c1037 => ?_)
                              · exact absurd (by decide) c1037
                              · have c1037 := z_eq (a := 0) (b := 0) c1037 (by omega) (by omega)
                                refine lv_iload hx hb dL_law_1040 (lv_at hl 1 rfl) ?_
                                refine lv_iload hx hb dL_law_1042 (lv_at hl 16 rfl) ?_
                                refine lv_icmp_ne (tgt := 1049) hx hb dL_law_1044 (by decide) (fun c1044 => ?_) (fun c1044 => ?_)
                                · refine lv_iinc (v := (nI (w + 1))) (lv' := [(23, .int (nI (w + 1))), (14, .int (nI (cth (zgP n me lo c e rd tk g) k w + 0))), (24, .int (th (zgP n me lo c e rd tk g) k 1 1)), (15, .int (su (zgP n me lo c e rd tk g) (k + 1))), (3, .int (nI tm)), (0, .ref b0), (1, .ref b), (2, .ref o), (5, .int (nI n)), (6, .ref qw), (7, .ref qh), (8, .ref qt), (10, .int rd), (12, .int ((rN n me lo c e (rd, tk, g) 1).2.1 - tk)), (13, .int mny), (16, .int (nI (mo (zgP n me lo c e rd tk g) n k))), (17, .int (nI k)), (18, .int (zo (hd lo e k (c k)))), (22, .int sv)]) hx hb dL_law_1049 hl (k := 2) rfl (nI_1 _) (by decide) rfl (fun ls hl => ?_)
                                  refine lv_goto (tgt := 960) hx hb dL_law_1052 (by decide) ?_
                                  exact ih960 (w + 1) (by omega) (by omega) _ (rfl) _ (congrArg nI (cth_n ((zV_neg hV1 hk (by omega) hn).mp (by rw [show w = 1 by omega]; exact c990)))) _ (lv_sub hl [0, 3, 4, 5, 6, 7, 8, 9, 10, 11, 12, 13, 14, 1, 15, 16, 17, 18] rfl)
                                · exact absurd c1044 (zV_nk (w := 1) hV1 hk (by omega) hn)
                            · exact absurd c1029 ((zV_ov (w := 1) hV1 hk (by omega) hn).mp c990)
                        · exact absurd c990 c1003
                      · refine lv_iconst (v := 1) hx hb dL_law_993 (by decide) ?_
                        refine lv_goto (tgt := 998) hx hb dL_law_994 (by decide) ?_
                        refine lv_iadd hx hb dL_law_998 ?_
                        refine z_toi (y := nI (cth (zgP n me lo c e rd tk g) k w + 1)) (nI_add (cth (zgP n me lo c e rd tk g) k w) 1) ?_
                        refine lv_istore (lv' := [(14, .int (nI (cth (zgP n me lo c e rd tk g) k w + 1))), (24, .int (th (zgP n me lo c e rd tk g) k 1 1)), (23, .int (nI w)), (15, .int (su (zgP n me lo c e rd tk g) (k + 1))), (3, .int (nI tm)), (0, .ref b0), (1, .ref b), (2, .ref o), (5, .int (nI n)), (6, .ref qw), (7, .ref qh), (8, .ref qt), (10, .int rd), (12, .int ((rN n me lo c e (rd, tk, g) 1).2.1 - tk)), (13, .int mny), (16, .int (nI (mo (zgP n me lo c e rd tk g) n k))), (17, .int (nI k)), (18, .int (zo (hd lo e k (c k)))), (22, .int sv)]) hx hb dL_law_999 hl (by decide) rfl (fun ls hl => ?_)
                        refine lv_iload hx hb dL_law_1001 (lv_at hl 1 rfl) ?_
                        refine lv_if_ge (tgt := 1010) hx hb dL_law_1003 (by decide) (fun c1003 => ?_) (fun c1003 => ?_)
                        · exact absurd c1003 c990
                        · refine lv_iconst (v := 1) hx hb dL_law_1006 (by decide) ?_
                          refine lv_goto (tgt := 1011) hx hb dL_law_1007 (by decide) ?_
                          refine lv_aload_n hx hb dL_law_1011 rfl (lv_at hl 6 rfl) ?_
                          refine lv_iload hx hb dL_law_1012 (lv_at hl 16 rfl) ?_
                          refine lv_iload hx hb dL_law_1014 (lv_at hl 2 rfl) ?_
                          refine lv_iconst (v := 1) hx hb dL_law_1016 (by decide) ?_
                          refine lv_icmp_ne (tgt := 1024) hx hb dL_law_1017 (by decide) (fun c1017 => ?_) (fun c1017 => ?_)
                          · have c1017 := z_ne (a := w) (b := 1) c1017 (by omega) (by omega)
                            exact absurd c972 c1017
                          · have c1017 := z_eq (a := w) (b := 1) c1017 (by omega) (by omega)
                            refine lv_iconst (v := 1) hx hb dL_law_1020 (by decide) ?_
                            refine lv_goto (tgt := 1025) hx hb dL_law_1021 (by decide) ?_
                            refine lv_iconst (v := 2) hx hb dL_law_1025 (by decide) ?_
                            refine z_ki (va_runV (As := [.int (nI k), .int 1, .int 2]) (rest := [.int 1]) hfix (zcX4_half_k1 l D cI H b n me lo c e ((rN n me lo c e (rd, tk, g) 1).1) ((rN n me lo c e (rd, tk, g) 1).2.1) (zgP n me lo c e rd tk g) k 2 hC hI (by omega) (by omega)) (cwV 3 hts gL_law_X4_half rfl rfl rfl (by decide +kernel) ⟨Nat.le_of_ble_eq_true rfl, Nat.le_of_ble_eq_true rfl⟩) (z_preV hK hK1 hC.1 (ci := 4) (q0 := 0) rfl rfl rfl) rfl rfl hl.1 rfl (lv_room (Nat.le_of_ble_eq_true rfl)) dL_law_1026 ⟨by show ck + 0 ≤ 830515; omega, by show sk + 0 ≤ 6609922; omega⟩) ?_
                            refine lv_if_ne (tgt := 1036) hx hb dL_law_1029 (by decide) (fun c1029 => ?_) (fun c1029 => ?_)
                            · exact absurd ((zV_ov (w := 1) hV1 hk (by omega) hn).mpr c1029) c990
                            · refine lv_iconst (v := 1) hx hb dL_law_1032 (by decide) ?_
                              refine lv_goto (tgt := 1037) hx hb dL_law_1033 (by decide) ?_
                              refine lv_icmp_ne (tgt := 1047) hx hb dL_law_1037 (by decide) (fun c1037 => ?_) (fun c1037 => ?_)
                              · exact absurd (by decide) c1037
                              · have c1037 := z_eq (a := 1) (b := 1) c1037 (by omega) (by omega)
                                refine lv_iload hx hb dL_law_1040 (lv_at hl 1 rfl) ?_
                                refine lv_iload hx hb dL_law_1042 (lv_at hl 16 rfl) ?_
                                refine lv_icmp_ne (tgt := 1049) hx hb dL_law_1044 (by decide) (fun c1044 => ?_) (fun c1044 => ?_)
                                · refine lv_iinc (v := (nI (w + 1))) (lv' := [(23, .int (nI (w + 1))), (14, .int (nI (cth (zgP n me lo c e rd tk g) k w + 1))), (24, .int (th (zgP n me lo c e rd tk g) k 1 1)), (15, .int (su (zgP n me lo c e rd tk g) (k + 1))), (3, .int (nI tm)), (0, .ref b0), (1, .ref b), (2, .ref o), (5, .int (nI n)), (6, .ref qw), (7, .ref qh), (8, .ref qt), (10, .int rd), (12, .int ((rN n me lo c e (rd, tk, g) 1).2.1 - tk)), (13, .int mny), (16, .int (nI (mo (zgP n me lo c e rd tk g) n k))), (17, .int (nI k)), (18, .int (zo (hd lo e k (c k)))), (22, .int sv)]) hx hb dL_law_1049 hl (k := 2) rfl (nI_1 _) (by decide) rfl (fun ls hl => ?_)
                                  refine lv_goto (tgt := 960) hx hb dL_law_1052 (by decide) ?_
                                  exact ih960 (w + 1) (by omega) (by omega) _ (rfl) _ (congrArg nI (cth_y (Classical.byContradiction fun h9 => c990 (by have h8 := (zV_neg hV1 hk (w := w) (by omega) hn).mpr h9; rw [show w = 1 by omega] at h8; exact h8)))) _ (lv_sub hl [0, 3, 4, 5, 6, 7, 8, 9, 10, 11, 12, 13, 14, 1, 15, 16, 17, 18] rfl)
                                · exact absurd c1044 (zV_nk (w := 1) hV1 hk (by omega) hn)
              exact loop960 _ 0 (Nat.lt_succ_self _) (by omega) _ (rfl) _ (rfl) _ (lv_sub hl [0, 1, 2, 3, 4, 5, 6, 7, 8, 9, 10, 11, 12, 13, 14, 15, 16, 17] rfl)
            · rw [hho] at c945; exact absurd c945 (src_in hI hho)
        · have c899 := z_nle (a := 7) (b := w) c899 (by omega) (by omega)
          refine lv_aload_n hx hb dL_law_902 rfl (lv_at hl 3 rfl) ?_
          refine lv_iload hx hb dL_law_903 (lv_at hl 15 rfl) ?_
          refine lv_iload hx hb dL_law_905 (lv_at hl 0 rfl) ?_
          refine z_ki (va_runV (As := [.int (nI k), .int (nI w)]) (rest := []) hfix (zcX4_parrot_k l D cI H b n me lo c e ((rN n me lo c e (rd, tk, g) 1).1) ((rN n me lo c e (rd, tk, g) 1).2.1) (zgP n me lo c e rd tk g) k w hC hI (by omega) (by omega)) (cwV 2 hts gL_law_X4_parrot rfl rfl rfl (by decide +kernel) ⟨Nat.le_of_ble_eq_true rfl, Nat.le_of_ble_eq_true rfl⟩) (z_preV hK hK1 hC.1 (ci := 4) (q0 := 0) rfl rfl rfl) rfl rfl hl.1 rfl (lv_room (Nat.le_of_ble_eq_true rfl)) dL_law_907 ⟨by show ck + 0 ≤ 830515; omega, by show sk + 0 ≤ 6609922; omega⟩) ?_
          refine lv_aload hx hb dL_law_910 (lv_at hl 6 rfl) ?_
          refine lv_iload hx hb dL_law_912 (lv_at hl 15 rfl) ?_
          refine z_aald (a := qw) (n := n) (f := (zbf n (zR2 qw))) (j := k) hx hb hK4 hW.1 0 2 rfl rfl rfl rfl (by omega) (by omega) (zbf_in (by omega)) dL_law_914 ?_
          have hr1 : va_P D vwCl (zAr cI (zR2 qw k) 7 (F k)) H := hW.2 k (by omega)
          refine lv_iload hx hb dL_law_915 (lv_at hl 0 rfl) ?_
          refine z_iald (a := (zR2 qw k)) (n := 7) (f := (F k)) (j := w) hx hb hK hr1 0 0 rfl rfl rfl (by omega) (by omega) dL_law_917 ?_
          refine lv_icmp_eq (tgt := 923) hx hb dL_law_918 (by decide) (fun c918 => ?_) (fun c918 => ?_)
          · refine lv_iinc (v := (nI (w + 1))) (lv' := [(23, .int (nI (w + 1))), (3, .int (nI tm)), (0, .ref b0), (1, .ref b), (2, .ref o), (5, .int (nI n)), (6, .ref qw), (7, .ref qh), (8, .ref qt), (10, .int rd), (12, .int ((rN n me lo c e (rd, tk, g) 1).2.1 - tk)), (13, .int mny), (14, .int (nI (ct (zgP n me lo c e rd tk g) k))), (15, .int (su (zgP n me lo c e rd tk g) k)), (16, .int (nI (mo (zgP n me lo c e rd tk g) n k))), (17, .int (nI k)), (18, .int (zo (hd lo e k (c k)))), (22, .int sv)]) hx hb dL_law_923 hl (k := 0) rfl (nI_1 _) (by decide) rfl (fun ls hl => ?_)
            refine lv_goto (tgt := 895) hx hb dL_law_926 (by decide) ?_
            exact ih (w + 1) (by omega) (by omega) (by omega) _ (rfl) _ (lv_sub hl [0, 1, 2, 3, 4, 5, 6, 7, 8, 9, 10, 11, 12, 13, 14, 15, 16, 17] rfl)
          · exact absurd ((tp_ge hi895_1).trans (hFf k w hk (by omega)).symm) c918
    exact loop895 _ 2 (Nat.lt_succ_self _) (by omega) (by omega) _ (rfl) _ (lv_sub hl [0, 1, 2, 3, 4, 5, 6, 7, 8, 9, 10, 11, 12, 13, 14, 15, 16, 17] rfl)
  · exact absurd hsv.symm c887
set_option maxHeartbeats 8000000 in
set_option maxRecDepth 100000 in
/-- what is looked at behind a round -/
theorem zlaw_C {pg : Program} {l : Launch} {ev : Env} {s : State} {m : MethodId} {args : Array Value} {below : List Frame} {meth : Method} {cd : Code} {Q : State → Prop} {D : va_G} {cI cR cA cT : ClassId} {b o b0 L : Nat} {xs : Nat → Int32} (hfix : CallFix pg m cd cL_law 25 s args wsL_law RL) (hK4 : va_K D vwCl [(cI, .int), (cR, .object zBC), (cA, .array .int), (cT, .array (.array .int))] s) (hKw : zKw s) (hX : va_X b0 L xs s s.heap) (hb0 : b0 < s.heap.size) (hb9 : b + 61 ≤ o) (hbs : s.heap.size ≤ b) (hL : L ≤ 260) (hov2 : (Cond.arrayOver (.array .int)).before args s = true) (hov3 : (Cond.arrayOver (.array (.array .int))).before args s = true) (hcl80 : (Cond.classLink RL 80 "[[[I").before args s = true) (ck : Nat) (sk : Nat) (hck : ck ≤ 830515) (hsk : sk ≤ 6609922) (tm : Nat) (htm : tm < 40) (n : Nat) (me : Nat → Int32) (lo : Nat → Int32) (c : Nat → Nat) (e : Nat → Nat) (rd : Int32) (tk : Int32) (g : zG) (t : Nat) (ar : Nat) (B : Nat → Nat) (E : Nat → Nat) (qw : Nat) (qh : Nat) (qt : Nat) (F : Nat → Nat → Int32) (G : Nat → Nat → Nat → Int32) (T : Nat → Int32) (hI : zI n me lo c e) (hZ : zJ n g) (hV : zV n g) (hN : zNs c e) (hn0 : 0 < n) (hZ1 : zJ n (zgP n me lo c e rd tk g)) (hV1 : zV n (zgP n me lo c e rd tk g)) (hFf : ∀ i w, i < n → w < 7 → F i w = tp n g me lo c e i w) (hGf : ∀ i j w, i < n → j < 2 → w < 3 → G i j w = th g i j w) (hTf : ∀ i, i < n → T i = wd (zgP n me lo c e rd tk g) i) (hsp : zSp o t n ar B E) (H : Heap) (lo0 : List Loc) (hS : va_S (fun q => b ≤ q) s.heap H lo0) (hO : va_P D vwCl [(o, .inr (6, [.ref ar, .int ((rN n me lo c e (rd, tk, g) 1).1), .int ((rN n me lo c e (rd, tk, g) 1).2.1)]))] H) (hQ : va_P D vwCl (zQr cR ar n (zbf n B)) H) (hF : zFm D cI n B E me lo c e (zgP n me lo c e rd tk g) H) (hC : zCW D cI b n me lo c e ((rN n me lo c e (rd, tk, g) 1).1) ((rN n me lo c e (rd, tk, g) 1).2.1) (zgP n me lo c e rd tk g) H) (hW : zW2 D cI cA qw n 7 F H) (hV3 : zW3 D cI cA cT qh n G H) (hT : va_P D vwCl (zAr cI qt n T) H) (hsz : H.size = t) (kk : ∀ (n1 : Nat) (H1 : Heap) (lo1 : List Loc) (ls1 : Array Slot), 0 < n1 → zLs D cI cR b o n1 H1 → va_S (fun q => b ≤ q) s.heap H1 lo1 → lv_has ls1 25 [(3, .int (nI tm)), (0, .ref b0), (1, .ref b), (2, .ref o)] → W pg l ev room_1 s m args below meth cd H1 lo1 ck sk Q (F0 m 1177 ls1 [])) (ls : Array Slot) (hl : lv_has ls 25 [(3, .int (nI tm)), (0, .ref b0), (1, .ref b), (2, .ref o), (5, .int (nI n)), (6, .ref qw), (7, .ref qh), (8, .ref qt), (10, .int rd), (12, .int ((rN n me lo c e (rd, tk, g) 1).2.1 - tk))]) : W pg l ev room_1 s m args below meth cd H lo0 (ck) (sk) Q (F0 m 372 ls []) := by
  obtain ⟨hx, hb, hml, hown, hts⟩ := id hfix
  have hK : va_K D vwCl [(cI, .int), (cR, .object zBC)] s := hK4.sub [0, 1] rfl
  have hK1 : va_K D vwCl [(cI, .int)] s := hK4.sub [0] rfl
  have hz : H.size ≤ H.size := Nat.le_refl _
  have hwd5 := hts _ (List.mem_of_getElem? (i := 5) rfl)
  have hwd6 := hts _ (List.mem_of_getElem? (i := 6) rfl)
  have hwd7 := hts _ (List.mem_of_getElem? (i := 7) rfl)
  have hwd8 := hts _ (List.mem_of_getElem? (i := 8) rfl)
  have hwd9 := hts _ (List.mem_of_getElem? (i := 9) rfl)
  have hwd10 := hts _ (List.mem_of_getElem? (i := 10) rfl)
  have hwd11 := hts _ (List.mem_of_getElem? (i := 11) rfl)
  have hn := zI_n hI
  obtain ⟨⟨ho1, ho2, ho3⟩, -, -⟩ := id hsp
  refine lv_iconst (v := 0) hx hb dL_law_372 (by decide) ?_
  refine lv_istore (lv' := [(13, .int 0), (3, .int (nI tm)), (0, .ref b0), (1, .ref b), (2, .ref o), (5, .int (nI n)), (6, .ref qw), (7, .ref qh), (8, .ref qt), (10, .int rd), (12, .int ((rN n me lo c e (rd, tk, g) 1).2.1 - tk))]) hx hb dL_law_373 hl (by decide) rfl (fun ls hl => ?_)
  refine lv_iconst (v := 0) hx hb dL_law_375 (by decide) ?_
  refine lv_istore (lv' := [(14, .int 0), (13, .int 0), (3, .int (nI tm)), (0, .ref b0), (1, .ref b), (2, .ref o), (5, .int (nI n)), (6, .ref qw), (7, .ref qh), (8, .ref qt), (10, .int rd), (12, .int ((rN n me lo c e (rd, tk, g) 1).2.1 - tk))]) hx hb dL_law_376 hl (by decide) rfl (fun ls hl => ?_)
  refine lv_iconst (v := 0) hx hb dL_law_378 (by decide) ?_
  refine lv_istore (lv' := [(15, .int 0), (14, .int 0), (13, .int 0), (3, .int (nI tm)), (0, .ref b0), (1, .ref b), (2, .ref o), (5, .int (nI n)), (6, .ref qw), (7, .ref qh), (8, .ref qt), (10, .int rd), (12, .int ((rN n me lo c e (rd, tk, g) 1).2.1 - tk))]) hx hb dL_law_379 hl (by decide) rfl (fun ls hl => ?_)
  refine lv_iconst (v := 0) hx hb dL_law_381 (by decide) ?_
  refine lv_istore (lv' := [(16, .int 0), (15, .int 0), (14, .int 0), (13, .int 0), (3, .int (nI tm)), (0, .ref b0), (1, .ref b), (2, .ref o), (5, .int (nI n)), (6, .ref qw), (7, .ref qh), (8, .ref qt), (10, .int rd), (12, .int ((rN n me lo c e (rd, tk, g) 1).2.1 - tk))]) hx hb dL_law_382 hl (by decide) rfl (fun ls hl => ?_)
  refine lv_iconst (v := 0) hx hb dL_law_384 (by decide) ?_
  refine lv_istore (lv' := [(17, .int 0), (16, .int 0), (15, .int 0), (14, .int 0), (13, .int 0), (3, .int (nI tm)), (0, .ref b0), (1, .ref b), (2, .ref o), (5, .int (nI n)), (6, .ref qw), (7, .ref qh), (8, .ref qt), (10, .int rd), (12, .int ((rN n me lo c e (rd, tk, g) 1).2.1 - tk))]) hx hb dL_law_385 hl (by decide) rfl (fun ls hl => ?_)
  have loop387 : ∀ (fu : Nat) (k : Nat), n - k < fu → (k ≤ n) → ∀ (x17 : Int32), x17 = (nI k) → ∀ (x16 : Int32), x16 = (nI (mo (zgP n me lo c e rd tk g) n k)) → ∀ (x15 : Int32), x15 = (su (zgP n me lo c e rd tk g) k) → ∀ (x14 : Int32), x14 = (nI (ct (zgP n me lo c e rd tk g) k)) → ∀ (x13 : Int32), x13 = ((hA lo c e g (0, g) k).1) → ∀ ls : Array Slot, lv_has ls 25 [(17, .int x17), (16, .int x16), (15, .int x15), (14, .int x14), (13, .int x13), (3, .int (nI tm)), (0, .ref b0), (1, .ref b), (2, .ref o), (5, .int (nI n)), (6, .ref qw), (7, .ref qh), (8, .ref qt), (10, .int rd), (12, .int ((rN n me lo c e (rd, tk, g) 1).2.1 - tk))] → W pg l ev room_1 s m args below meth cd H lo0 ck sk Q (F0 m 387 ls []) := by
    intro fu
    induction fu with
    | zero => intro k hfu; exact absurd hfu (Nat.not_lt_zero _)
    | succ fu ih =>
      intro k hfu hi387_0 x17 ex17 x16 ex16 x15 ex15 x14 ex14 x13 ex13 ls hl
      subst ex17
      subst ex16
      subst ex15
      subst ex14
      subst ex13
      refine lv_iload hx hb dL_law_387 (lv_at hl 0 rfl) ?_
      refine lv_iload hx hb dL_law_389 (lv_at hl 9 rfl) ?_
      refine lv_icmp_ge (tgt := 1108) hx hb dL_law_391 (by decide) (fun c391 => ?_) (fun c391 => ?_)
      · have c391 := z_le (a := n) (b := k) c391 (by omega) (by omega)
        have hkn9 : k = n := by omega
        refine lv_iload hx hb dL_law_1108 (lv_at hl 4 rfl) ?_
        refine lv_iload hx hb dL_law_1110 (lv_at hl 14 rfl) ?_
        refine lv_icmp_ne (tgt := 1175) hx hb dL_law_1112 (by decide) (fun c1112 => ?_) (fun c1112 => ?_)
        · exact absurd (by rw [hkn9]; exact z_many.symm) c1112
        · refine lv_aload_n hx hb dL_law_1115 rfl (lv_at hl 7 rfl) ?_
          refine lv_iconst (v := 3) hx hb dL_law_1116 (by decide) ?_
          refine z_ki (va_runV (As := [.int 3]) (rest := []) hfix (zcX4_count_k l D cI H b n me lo c e ((rN n me lo c e (rd, tk, g) 1).1) ((rN n me lo c e (rd, tk, g) 1).2.1) (zgP n me lo c e rd tk g) 3 hC hI (by omega)) (cwV 1 hts gL_law_X4_count rfl rfl rfl (by decide +kernel) ⟨Nat.le_of_ble_eq_true rfl, Nat.le_of_ble_eq_true rfl⟩) (z_preV hK hK1 hC.1 (ci := 4) (q0 := 0) rfl rfl rfl) rfl rfl hl.1 rfl (lv_room (Nat.le_of_ble_eq_true rfl)) dL_law_1117 ⟨by show ck + 0 ≤ 830515; omega, by show sk + 0 ≤ 6609922; omega⟩) ?_
          refine lv_iload hx hb dL_law_1120 (lv_at hl 3 rfl) ?_
          refine lv_icmp_ne (tgt := 1175) hx hb dL_law_1122 (by decide) (fun c1122 => ?_) (fun c1122 => ?_)
          · exact absurd (by rw [hkn9]; rfl) c1122
          · refine lv_aload_n hx hb dL_law_1125 rfl (lv_at hl 7 rfl) ?_
            refine lv_iconst (v := 4) hx hb dL_law_1126 (by decide) ?_
            refine z_ki (va_runV (As := [.int 4]) (rest := []) hfix (zcX4_count_k l D cI H b n me lo c e ((rN n me lo c e (rd, tk, g) 1).1) ((rN n me lo c e (rd, tk, g) 1).2.1) (zgP n me lo c e rd tk g) 4 hC hI (by omega)) (cwV 1 hts gL_law_X4_count rfl rfl rfl (by decide +kernel) ⟨Nat.le_of_ble_eq_true rfl, Nat.le_of_ble_eq_true rfl⟩) (z_preV hK hK1 hC.1 (ci := 4) (q0 := 0) rfl rfl rfl) rfl rfl hl.1 rfl (lv_room (Nat.le_of_ble_eq_true rfl)) dL_law_1127 ⟨by show ck + 0 ≤ 830515; omega, by show sk + 0 ≤ 6609922; omega⟩) ?_
            refine lv_iload hx hb dL_law_1130 (lv_at hl 2 rfl) ?_
            refine lv_icmp_ne (tgt := 1175) hx hb dL_law_1132 (by decide) (fun c1132 => ?_) (fun c1132 => ?_)
            · exact absurd (by rw [hkn9]; rfl) c1132
            · refine lv_aload_n hx hb dL_law_1135 rfl (lv_at hl 7 rfl) ?_
              refine lv_aload_n hx hb dL_law_1136 rfl (lv_at hl 7 rfl) ?_
              refine z_ki (va_runV (As := []) (rest := [.ref b]) hfix (zcX4_verdict l D cI H b n me lo c e ((rN n me lo c e (rd, tk, g) 1).1) ((rN n me lo c e (rd, tk, g) 1).2.1) (zgP n me lo c e rd tk g) hC.1 hC.2.1 hC.2.2.1 hI) (cwV 0 hts gL_law_X4_verdict rfl rfl rfl (by decide +kernel) ⟨Nat.le_of_ble_eq_true rfl, Nat.le_of_ble_eq_true rfl⟩) (z_preV hK hK1 hC.1 (ci := 4) (q0 := 0) rfl rfl rfl) rfl rfl hl.1 rfl (lv_room (Nat.le_of_ble_eq_true rfl)) dL_law_1137 ⟨by show ck + 0 ≤ 830515; omega, by show sk + 0 ≤ 6609922; omega⟩) ?_
              obtain ⟨j9, hj9, hvd⟩ := vd_is (g := (zgP n me lo c e rd tk g)) hn0
              obtain ⟨wv, hwv, hwe⟩ := wd_lt hZ1 hj9
              have hvb := vt_le (zgP n me lo c e rd tk g) (nI wv) n
              have hmb := mo_le (zgP n me lo c e rd tk g) n k
              refine z_toi (y := nI wv) (by rw [hvd]; exact hwe) ?_
              refine z_ki (va_runV (As := [.int (nI wv)]) (rest := []) hfix (zcX4_votes_k l D cI H b n me lo c e ((rN n me lo c e (rd, tk, g) 1).1) ((rN n me lo c e (rd, tk, g) 1).2.1) (zgP n me lo c e rd tk g) wv hC hI (by omega)) (cwV 1 hts gL_law_X4_votes rfl rfl rfl (by decide +kernel) ⟨Nat.le_of_ble_eq_true rfl, Nat.le_of_ble_eq_true rfl⟩) (z_preV hK hK1 hC.1 (ci := 4) (q0 := 0) rfl rfl rfl) rfl rfl hl.1 rfl (lv_room (Nat.le_of_ble_eq_true rfl)) dL_law_1140 ⟨by show ck + 0 ≤ 830515; omega, by show sk + 0 ≤ 6609922; omega⟩) ?_
              refine lv_iload hx hb dL_law_1143 (lv_at hl 1 rfl) ?_
              refine lv_icmp_ne (tgt := 1175) hx hb dL_law_1145 (by decide) (fun c1145 => ?_) (fun c1145 => ?_)
              · have c1145 := z_ne (a := vt (zgP n me lo c e rd tk g) (nI wv) n) (b := mo (zgP n me lo c e rd tk g) n k) c1145 (by omega) (by omega)
                exact absurd (by rw [hkn9, ← vd_mo (zgP n me lo c e rd tk g) n n (Nat.le_refl _), hvd]; show _ = vt (zgP n me lo c e rd tk g) (wd (zgP n me lo c e rd tk g) j9) n; rw [hwe]) c1145
              · have c1145 := z_eq (a := vt (zgP n me lo c e rd tk g) (nI wv) n) (b := mo (zgP n me lo c e rd tk g) n k) c1145 (by omega) (by omega)
                refine lv_aload_n hx hb dL_law_1148 rfl (lv_at hl 7 rfl) ?_
                refine z_mi (va_runV (As := []) (rest := []) hfix (zcX4_agrees_k l D cI H b n me lo c e ((rN n me lo c e (rd, tk, g) 1).1) ((rN n me lo c e (rd, tk, g) 1).2.1) (zgP n me lo c e rd tk g) hC hI) (cwV 0 hts gL_law_X4_agrees rfl rfl rfl (by decide +kernel) ⟨Nat.le_of_ble_eq_true rfl, Nat.le_of_ble_eq_true rfl⟩) (z_preV hK hK1 hC.1 (ci := 4) (q0 := 0) rfl rfl rfl) rfl rfl hl.1 rfl (lv_room (Nat.le_of_ble_eq_true rfl)) dL_law_1149 ⟨by show ck + 0 ≤ 830515; omega, by show sk + 0 ≤ 6609922; omega⟩) hS (fun q _ h => by simp only [zF] at h; show b ≤ q; omega) (fun q h => by simp only [zF] at h; show b ≤ q; omega) (fun H1 lo2 hB hz1 hk1 hS => ?_)
                have hz : H.size ≤ H1.size := by have h9 := hB.2; omega
                have hsz : H1.size = t := hB.2.trans hsz
                have hO3 := zOb_kept hO (fun q h1 h2 h3 => hk1 q h1 (by simp only [zF]; omega))
                have hQ4 := zQr_kept hQ (fun q h1 h2 h3 => hk1 q h1 (by simp only [zF]; omega))
                have hF5 := zFm_kept hsp hF (fun q h1 h2 h3 => hk1 q h1 (by simp only [zF]; omega))
                have hC6 : zCW D cI b n me lo c e ((rN n me lo c e (rd, tk, g) 1).1) ((rN n me lo c e (rd, tk, g) 1).2.1) (zgP n me lo c e rd tk g) H1 := hB.1
                refine lv_if_ne (tgt := 1159) hx hb dL_law_1152 (by decide) (fun c1152 => ?_) (fun c1152 => ?_)
                · have hag := (ag_0 (n := n) (me := me) (lo := lo) (c := c) (e := e) (t := ((rN n me lo c e (rd, tk, g) 1).1, (rN n me lo c e (rd, tk, g) 1).2.1, (zgP n me lo c e rd tk g)))).trans (mo_all (g := (zgP n me lo c e rd tk g)) hn0).symm
                  refine lv_iconst (v := 0) hx hb dL_law_1159 (by decide) ?_
                  refine lv_iload hx hb dL_law_1160 (lv_at hl 1 rfl) ?_
                  refine lv_iload hx hb dL_law_1162 (lv_at hl 9 rfl) ?_
                  refine lv_icmp_ne (tgt := 1171) hx hb dL_law_1164 (by decide) (fun c1164 => ?_) (fun c1164 => ?_)
                  · have c1164 := z_ne (a := mo (zgP n me lo c e rd tk g) n k) (b := n) c1164 (by omega) (by omega)
                    refine lv_iconst (v := 0) hx hb dL_law_1171 (by decide) ?_
                    refine lv_icmp_eq (tgt := 1177) hx hb dL_law_1172 (by decide) (fun c1172 => ?_) (fun c1172 => ?_)
                    · have c1172 := z_eq (a := 0) (b := 0) c1172 (by omega) (by omega)
                      exact kk n H1 lo2 _ hn0 ⟨ar, B, E, me, lo, c, e, ((rN n me lo c e (rd, tk, g) 1).1), ((rN n me lo c e (rd, tk, g) 1).2.1), (zgP n me lo c e rd tk g), by rw [hsz]; exact ⟨hO3, hQ4, hF5, hsp⟩, hC6, hI, hZ1, hV1, hN⟩ hS (lv_sub hl [5, 6, 7, 8] rfl)
                    · exact absurd (by decide) c1172
                  · have c1164 := z_eq (a := mo (zgP n me lo c e rd tk g) n k) (b := n) c1164 (by omega) (by omega)
                    exact absurd (hag.mpr (by rw [← hkn9] at c1164 ⊢; exact c1164)) c1152
                · have hag := (ag_0 (n := n) (me := me) (lo := lo) (c := c) (e := e) (t := ((rN n me lo c e (rd, tk, g) 1).1, (rN n me lo c e (rd, tk, g) 1).2.1, (zgP n me lo c e rd tk g)))).trans (mo_all (g := (zgP n me lo c e rd tk g)) hn0).symm
                  refine lv_iconst (v := 1) hx hb dL_law_1155 (by decide) ?_
                  refine lv_goto (tgt := 1160) hx hb dL_law_1156 (by decide) ?_
                  refine lv_iload hx hb dL_law_1160 (lv_at hl 1 rfl) ?_
                  refine lv_iload hx hb dL_law_1162 (lv_at hl 9 rfl) ?_
                  refine lv_icmp_ne (tgt := 1171) hx hb dL_law_1164 (by decide) (fun c1164 => ?_) (fun c1164 => ?_)
                  · have c1164 := z_ne (a := mo (zgP n me lo c e rd tk g) n k) (b := n) c1164 (by omega) (by omega)
                    exact absurd (by rw [hkn9]; exact hag.mp c1152) c1164
                  · have c1164 := z_eq (a := mo (zgP n me lo c e rd tk g) n k) (b := n) c1164 (by omega) (by omega)
                    refine lv_iconst (v := 1) hx hb dL_law_1167 (by decide) ?_
                    refine lv_goto (tgt := 1172) hx hb dL_law_1168 (by decide) ?_
                    refine lv_icmp_eq (tgt := 1177) hx hb dL_law_1172 (by decide) (fun c1172 => ?_) (fun c1172 => ?_)
                    · have c1172 := z_eq (a := 1) (b := 1) c1172 (by omega) (by omega)
                      exact kk n H1 lo2 _ hn0 ⟨ar, B, E, me, lo, c, e, ((rN n me lo c e (rd, tk, g) 1).1), ((rN n me lo c e (rd, tk, g) 1).2.1), (zgP n me lo c e rd tk g), by rw [hsz]; exact ⟨hO3, hQ4, hF5, hsp⟩, hC6, hI, hZ1, hV1, hN⟩ hS (lv_sub hl [5, 6, 7, 8] rfl)
                    · exact absurd (by decide) c1172
      · have c391 := z_nle (a := n) (b := k) c391 (by omega) (by omega)
        have hk : k < n := by omega
        refine lv_aload hx hb dL_law_394 (lv_at hl 10 rfl) ?_
        refine lv_iload hx hb dL_law_396 (lv_at hl 0 rfl) ?_
        refine z_aald (a := qw) (n := n) (f := (zbf n (zR2 qw))) (j := k) hx hb hK4 hW.1 0 2 rfl rfl rfl rfl (by omega) (by omega) (zbf_in (by omega)) dL_law_398 ?_
        have hr7 : va_P D vwCl (zAr cI (zR2 qw k) 7 (F k)) H := hW.2 k (by omega)
        refine lv_bipush (v := 6) hx hb dL_law_399 (by decide) ?_
        refine z_iald (a := (zR2 qw k)) (n := 7) (f := (F k)) (j := 6) hx hb hK hr7 0 0 rfl rfl rfl (by omega) (by omega) dL_law_401 ?_
        have hF6 : F k 6 = zo (hd lo e k (c k)) := hFf k 6 (by omega) (by omega)
        rcases hhc : hd lo e k (c k) with _ | o9
        · refine z_toi (y := (-1)) (by rw [hF6, hhc]; rfl) ?_
          refine lv_istore (lv' := [(18, .int (-1)), (17, .int (nI k)), (16, .int (nI (mo (zgP n me lo c e rd tk g) n k))), (15, .int (su (zgP n me lo c e rd tk g) k)), (14, .int (nI (ct (zgP n me lo c e rd tk g) k))), (13, .int ((hA lo c e g (0, g) k).1)), (3, .int (nI tm)), (0, .ref b0), (1, .ref b), (2, .ref o), (5, .int (nI n)), (6, .ref qw), (7, .ref qh), (8, .ref qt), (10, .int rd), (12, .int ((rN n me lo c e (rd, tk, g) 1).2.1 - tk))]) hx hb dL_law_402 hl (by decide) rfl (fun ls hl => ?_)
          refine lv_iload hx hb dL_law_404 (lv_at hl 0 rfl) ?_
          refine lv_if_lt (tgt := 430) hx hb dL_law_406 (by decide) (fun c406 => ?_) (fun c406 => ?_)
          · refine lv_iconst (v := 0) hx hb dL_law_430 (by decide) ?_
            refine lv_istore (lv' := [(19, .int 0), (18, .int (-1)), (17, .int (nI k)), (16, .int (nI (mo (zgP n me lo c e rd tk g) n k))), (15, .int (su (zgP n me lo c e rd tk g) k)), (14, .int (nI (ct (zgP n me lo c e rd tk g) k))), (13, .int ((hA lo c e g (0, g) k).1)), (3, .int (nI tm)), (0, .ref b0), (1, .ref b), (2, .ref o), (5, .int (nI n)), (6, .ref qw), (7, .ref qh), (8, .ref qt), (10, .int rd), (12, .int ((rN n me lo c e (rd, tk, g) 1).2.1 - tk))]) hx hb dL_law_431 hl (by decide) rfl (fun ls hl => ?_)
            refine lv_iload hx hb dL_law_433 (lv_at hl 1 rfl) ?_
            refine lv_if_lt (tgt := 464) hx hb dL_law_435 (by decide) (fun c435 => ?_) (fun c435 => ?_)
            · refine lv_iconst (v := 0) hx hb dL_law_464 (by decide) ?_
              refine lv_istore (lv' := [(20, .int 0), (19, .int 0), (18, .int (-1)), (17, .int (nI k)), (16, .int (nI (mo (zgP n me lo c e rd tk g) n k))), (15, .int (su (zgP n me lo c e rd tk g) k)), (14, .int (nI (ct (zgP n me lo c e rd tk g) k))), (13, .int ((hA lo c e g (0, g) k).1)), (3, .int (nI tm)), (0, .ref b0), (1, .ref b), (2, .ref o), (5, .int (nI n)), (6, .ref qw), (7, .ref qh), (8, .ref qt), (10, .int rd), (12, .int ((rN n me lo c e (rd, tk, g) 1).2.1 - tk))]) hx hb dL_law_465 hl (by decide) rfl (fun ls hl => ?_)
              refine lv_iload hx hb dL_law_467 (lv_at hl 3 rfl) ?_
              refine lv_iconst (v := 2) hx hb dL_law_469 (by decide) ?_
              refine lv_irem hx hb dL_law_470 (by decide) ?_
              refine z_toi (y := zrem (nI k) 2) rfl ?_
              refine z_toi (y := nI (k % 2)) (zrem2 k (by omega)) ?_
              refine lv_istore (lv' := [(21, .int (nI (k % 2))), (20, .int 0), (19, .int 0), (18, .int (-1)), (17, .int (nI k)), (16, .int (nI (mo (zgP n me lo c e rd tk g) n k))), (15, .int (su (zgP n me lo c e rd tk g) k)), (14, .int (nI (ct (zgP n me lo c e rd tk g) k))), (13, .int ((hA lo c e g (0, g) k).1)), (3, .int (nI tm)), (0, .ref b0), (1, .ref b), (2, .ref o), (5, .int (nI n)), (6, .ref qw), (7, .ref qh), (8, .ref qt), (10, .int rd), (12, .int ((rN n me lo c e (rd, tk, g) 1).2.1 - tk))]) hx hb dL_law_471 hl (by decide) rfl (fun ls hl => ?_)
              refine lv_iload hx hb dL_law_473 (lv_at hl 8 rfl) ?_
              refine lv_iload hx hb dL_law_475 (lv_at hl 1 rfl) ?_
              refine lv_if_eq (tgt := 484) hx hb dL_law_477 (by decide) (fun c477 => ?_) (fun c477 => ?_)
              · have c477 := z_eq (a := 0) (b := 0) c477 (by omega) (by omega)
                refine lv_iconst (v := 0) hx hb dL_law_484 (by decide) ?_
                refine lv_iadd hx hb dL_law_485 ?_
                refine lv_istore (lv' := [(13, .int (((hA lo c e g (0, g) k).1) + 0)), (21, .int (nI (k % 2))), (20, .int 0), (19, .int 0), (18, .int (-1)), (17, .int (nI k)), (16, .int (nI (mo (zgP n me lo c e rd tk g) n k))), (15, .int (su (zgP n me lo c e rd tk g) k)), (14, .int (nI (ct (zgP n me lo c e rd tk g) k))), (3, .int (nI tm)), (0, .ref b0), (1, .ref b), (2, .ref o), (5, .int (nI n)), (6, .ref qw), (7, .ref qh), (8, .ref qt), (10, .int rd), (12, .int ((rN n me lo c e (rd, tk, g) 1).2.1 - tk))]) hx hb dL_law_486 hl (by decide) rfl (fun ls hl => ?_)
                refine lv_aload_n hx hb dL_law_488 rfl (lv_at hl 11 rfl) ?_
                refine lv_iload hx hb dL_law_489 (lv_at hl 5 rfl) ?_
                refine lv_iconst (v := 0) hx hb dL_law_491 (by decide) ?_
                refine z_ki (va_runV (As := [.int (nI k), .int 0]) (rest := []) hfix (zcX4_parrot_k l D cI H b n me lo c e ((rN n me lo c e (rd, tk, g) 1).1) ((rN n me lo c e (rd, tk, g) 1).2.1) (zgP n me lo c e rd tk g) k 0 hC hI (by omega) (by omega)) (cwV 2 hts gL_law_X4_parrot rfl rfl rfl (by decide +kernel) ⟨Nat.le_of_ble_eq_true rfl, Nat.le_of_ble_eq_true rfl⟩) (z_preV hK hK1 hC.1 (ci := 4) (q0 := 0) rfl rfl rfl) rfl rfl hl.1 rfl (lv_room (Nat.le_of_ble_eq_true rfl)) dL_law_492 ⟨by show ck + 0 ≤ 830515; omega, by show sk + 0 ≤ 6609922; omega⟩) ?_
                refine lv_aload hx hb dL_law_495 (lv_at hl 16 rfl) ?_
                refine lv_iload hx hb dL_law_497 (lv_at hl 5 rfl) ?_
                refine z_iald (a := qt) (n := n) (f := T) (j := k) hx hb hK hT 0 0 rfl rfl rfl (by omega) (by omega) dL_law_499 ?_
                refine lv_icmp_ne (tgt := 599) hx hb dL_law_500 (by decide) (fun c500 => ?_) (fun c500 => ?_)
                · exact absurd (hTf k (by omega)).symm c500
                · refine lv_aload_n hx hb dL_law_503 rfl (lv_at hl 11 rfl) ?_
                  refine lv_iload hx hb dL_law_504 (lv_at hl 5 rfl) ?_
                  refine lv_iload hx hb dL_law_506 (lv_at hl 1 rfl) ?_
                  refine lv_if_ne (tgt := 515) hx hb dL_law_508 (by decide) (fun c508 => ?_) (fun c508 => ?_)
                  · have c508 := z_ne (a := k % 2) (b := 0) c508 (by omega) (by omega)
                    refine lv_iconst (v := 0) hx hb dL_law_515 (by decide) ?_
                    refine lv_iconst (v := 0) hx hb dL_law_516 (by decide) ?_
                    refine z_ki (va_runV (As := [.int (nI k), .int 0, .int 0]) (rest := []) hfix (zcX4_half_k0 l D cI H b n me lo c e ((rN n me lo c e (rd, tk, g) 1).1) ((rN n me lo c e (rd, tk, g) 1).2.1) (zgP n me lo c e rd tk g) k 0 hC hI (by omega) (by omega)) (cwV 3 hts gL_law_X4_half rfl rfl rfl (by decide +kernel) ⟨Nat.le_of_ble_eq_true rfl, Nat.le_of_ble_eq_true rfl⟩) (z_preV hK hK1 hC.1 (ci := 4) (q0 := 0) rfl rfl rfl) rfl rfl hl.1 rfl (lv_room (Nat.le_of_ble_eq_true rfl)) dL_law_517 ⟨by show ck + 0 ≤ 830515; omega, by show sk + 0 ≤ 6609922; omega⟩) ?_
                    refine lv_aload hx hb dL_law_520 (lv_at hl 15 rfl) ?_
                    refine lv_iload hx hb dL_law_522 (lv_at hl 5 rfl) ?_
                    refine z_aald (a := qh) (n := n) (f := (zbf n (zR3 qh))) (j := k) hx hb hK4 hV3.1 0 3 rfl rfl rfl rfl (by omega) (by omega) (zbf_in (by omega)) dL_law_524 ?_
                    have hr8 : va_P D vwCl (zQr cA (zR3 qh k) 2 (zbf 2 (zR2 (zR3 qh k)))) H := (hV3.2 k (by omega)).1
                    refine lv_iconst (v := 1) hx hb dL_law_525 (by decide) ?_
                    refine lv_iload hx hb dL_law_526 (lv_at hl 1 rfl) ?_
                    refine lv_isub hx hb dL_law_528 ?_
                    refine z_toi (y := nI (1 - k % 2)) (pk_sub (a := 1) (by omega)) ?_
                    refine z_aald (a := (zR3 qh k)) (n := 2) (f := (zbf 2 (zR2 (zR3 qh k)))) (j := (1 - k % 2)) hx hb hK4 hr8 0 2 rfl rfl rfl rfl (by omega) (by omega) (zbf_in (by omega)) dL_law_529 ?_
                    have hr9 : va_P D vwCl (zAr cI (zR2 (zR3 qh k) (1 - k % 2)) 3 (G k (1 - k % 2))) H := (hV3.2 k (by omega)).2 (1 - k % 2) (by omega)
                    refine lv_iconst (v := 0) hx hb dL_law_530 (by decide) ?_
                    refine z_iald (a := (zR2 (zR3 qh k) (1 - k % 2))) (n := 3) (f := (G k (1 - k % 2))) (j := 0) hx hb hK hr9 0 0 rfl rfl rfl (by omega) (by omega) dL_law_531 ?_
                    refine lv_icmp_ne (tgt := 599) hx hb dL_law_532 (by decide) (fun c532 => ?_) (fun c532 => ?_)
                    · exact absurd (by rw [hGf k (1 - k % 2) 0 (by omega) (by omega) (by omega), show 1 - k % 2 = 0 by omega]; exact z1_oth hk (by omega) (by omega)) c532
                    · refine lv_aload_n hx hb dL_law_535 rfl (lv_at hl 11 rfl) ?_
                      refine lv_iload hx hb dL_law_536 (lv_at hl 5 rfl) ?_
                      refine lv_iload hx hb dL_law_538 (lv_at hl 1 rfl) ?_
                      refine lv_if_ne (tgt := 547) hx hb dL_law_540 (by decide) (fun c540 => ?_) (fun c540 => ?_)
                      · have c540 := z_ne (a := k % 2) (b := 0) c540 (by omega) (by omega)
                        refine lv_iconst (v := 0) hx hb dL_law_547 (by decide) ?_
                        refine lv_iconst (v := 1) hx hb dL_law_548 (by decide) ?_
                        refine z_ki (va_runV (As := [.int (nI k), .int 0, .int 1]) (rest := []) hfix (zcX4_half_k0 l D cI H b n me lo c e ((rN n me lo c e (rd, tk, g) 1).1) ((rN n me lo c e (rd, tk, g) 1).2.1) (zgP n me lo c e rd tk g) k 1 hC hI (by omega) (by omega)) (cwV 3 hts gL_law_X4_half rfl rfl rfl (by decide +kernel) ⟨Nat.le_of_ble_eq_true rfl, Nat.le_of_ble_eq_true rfl⟩) (z_preV hK hK1 hC.1 (ci := 4) (q0 := 0) rfl rfl rfl) rfl rfl hl.1 rfl (lv_room (Nat.le_of_ble_eq_true rfl)) dL_law_549 ⟨by show ck + 0 ≤ 830515; omega, by show sk + 0 ≤ 6609922; omega⟩) ?_
                        refine lv_aload hx hb dL_law_552 (lv_at hl 15 rfl) ?_
                        refine lv_iload hx hb dL_law_554 (lv_at hl 5 rfl) ?_
                        refine z_aald (a := qh) (n := n) (f := (zbf n (zR3 qh))) (j := k) hx hb hK4 hV3.1 0 3 rfl rfl rfl rfl (by omega) (by omega) (zbf_in (by omega)) dL_law_556 ?_
                        refine lv_iconst (v := 1) hx hb dL_law_557 (by decide) ?_
                        refine lv_iload hx hb dL_law_558 (lv_at hl 1 rfl) ?_
                        refine lv_isub hx hb dL_law_560 ?_
                        refine z_toi (y := nI (1 - k % 2)) (pk_sub (a := 1) (by omega)) ?_
                        refine z_aald (a := (zR3 qh k)) (n := 2) (f := (zbf 2 (zR2 (zR3 qh k)))) (j := (1 - k % 2)) hx hb hK4 hr8 0 2 rfl rfl rfl rfl (by omega) (by omega) (zbf_in (by omega)) dL_law_561 ?_
                        refine lv_iconst (v := 1) hx hb dL_law_562 (by decide) ?_
                        refine z_iald (a := (zR2 (zR3 qh k) (1 - k % 2))) (n := 3) (f := (G k (1 - k % 2))) (j := 1) hx hb hK hr9 0 0 rfl rfl rfl (by omega) (by omega) dL_law_563 ?_
                        refine lv_icmp_ne (tgt := 599) hx hb dL_law_564 (by decide) (fun c564 => ?_) (fun c564 => ?_)
                        · exact absurd (by rw [hGf k (1 - k % 2) 1 (by omega) (by omega) (by omega), show 1 - k % 2 = 0 by omega]; exact z1_oth hk (by omega) (by omega)) c564
                        · refine lv_aload_n hx hb dL_law_567 rfl (lv_at hl 11 rfl) ?_
                          refine lv_iload hx hb dL_law_568 (lv_at hl 5 rfl) ?_
                          refine lv_iload hx hb dL_law_570 (lv_at hl 1 rfl) ?_
                          refine lv_if_ne (tgt := 579) hx hb dL_law_572 (by decide) (fun c572 => ?_) (fun c572 => ?_)
                          · have c572 := z_ne (a := k % 2) (b := 0) c572 (by omega) (by omega)
                            refine lv_iconst (v := 0) hx hb dL_law_579 (by decide) ?_
                            refine lv_iconst (v := 2) hx hb dL_law_580 (by decide) ?_
                            refine z_ki (va_runV (As := [.int (nI k), .int 0, .int 2]) (rest := []) hfix (zcX4_half_k0 l D cI H b n me lo c e ((rN n me lo c e (rd, tk, g) 1).1) ((rN n me lo c e (rd, tk, g) 1).2.1) (zgP n me lo c e rd tk g) k 2 hC hI (by omega) (by omega)) (cwV 3 hts gL_law_X4_half rfl rfl rfl (by decide +kernel) ⟨Nat.le_of_ble_eq_true rfl, Nat.le_of_ble_eq_true rfl⟩) (z_preV hK hK1 hC.1 (ci := 4) (q0 := 0) rfl rfl rfl) rfl rfl hl.1 rfl (lv_room (Nat.le_of_ble_eq_true rfl)) dL_law_581 ⟨by show ck + 0 ≤ 830515; omega, by show sk + 0 ≤ 6609922; omega⟩) ?_
                            refine lv_aload hx hb dL_law_584 (lv_at hl 15 rfl) ?_
                            refine lv_iload hx hb dL_law_586 (lv_at hl 5 rfl) ?_
                            refine z_aald (a := qh) (n := n) (f := (zbf n (zR3 qh))) (j := k) hx hb hK4 hV3.1 0 3 rfl rfl rfl rfl (by omega) (by omega) (zbf_in (by omega)) dL_law_588 ?_
                            refine lv_iconst (v := 1) hx hb dL_law_589 (by decide) ?_
                            refine lv_iload hx hb dL_law_590 (lv_at hl 1 rfl) ?_
                            refine lv_isub hx hb dL_law_592 ?_
                            refine z_toi (y := nI (1 - k % 2)) (pk_sub (a := 1) (by omega)) ?_
                            refine z_aald (a := (zR3 qh k)) (n := 2) (f := (zbf 2 (zR2 (zR3 qh k)))) (j := (1 - k % 2)) hx hb hK4 hr8 0 2 rfl rfl rfl rfl (by omega) (by omega) (zbf_in (by omega)) dL_law_593 ?_
                            refine lv_iconst (v := 2) hx hb dL_law_594 (by decide) ?_
                            refine z_iald (a := (zR2 (zR3 qh k) (1 - k % 2))) (n := 3) (f := (G k (1 - k % 2))) (j := 2) hx hb hK hr9 0 0 rfl rfl rfl (by omega) (by omega) dL_law_595 ?_
                            refine lv_icmp_eq (tgt := 601) hx hb dL_law_596 (by decide) (fun c596 => ?_) (fun c596 => ?_)
                            · refine lv_iload hx hb dL_law_601 (lv_at hl 2 rfl) ?_
                              refine lv_if_eq (tgt := 701) hx hb dL_law_603 (by decide) (fun c603 => ?_) (fun c603 => ?_)
                              · have c603 := z_eq (a := 0) (b := 0) c603 (by omega) (by omega)
                                refine lv_aload_n hx hb dL_law_701 rfl (lv_at hl 11 rfl) ?_
                                refine lv_iload hx hb dL_law_702 (lv_at hl 5 rfl) ?_
                                refine lv_iload hx hb dL_law_704 (lv_at hl 1 rfl) ?_
                                refine lv_iconst (v := 1) hx hb dL_law_706 (by decide) ?_
                                refine lv_icmp_ne (tgt := 714) hx hb dL_law_707 (by decide) (fun c707 => ?_) (fun c707 => ?_)
                                · have c707 := z_ne (a := k % 2) (b := 1) c707 (by omega) (by omega)
                                  omega
                                · have c707 := z_eq (a := k % 2) (b := 1) c707 (by omega) (by omega)
                                  refine lv_iconst (v := 1) hx hb dL_law_710 (by decide) ?_
                                  refine lv_goto (tgt := 715) hx hb dL_law_711 (by decide) ?_
                                  refine lv_iconst (v := 0) hx hb dL_law_715 (by decide) ?_
                                  refine z_ki (va_runV (As := [.int (nI k), .int 1, .int 0]) (rest := []) hfix (zcX4_half_k1 l D cI H b n me lo c e ((rN n me lo c e (rd, tk, g) 1).1) ((rN n me lo c e (rd, tk, g) 1).2.1) (zgP n me lo c e rd tk g) k 0 hC hI (by omega) (by omega)) (cwV 3 hts gL_law_X4_half rfl rfl rfl (by decide +kernel) ⟨Nat.le_of_ble_eq_true rfl, Nat.le_of_ble_eq_true rfl⟩) (z_preV hK hK1 hC.1 (ci := 4) (q0 := 0) rfl rfl rfl) rfl rfl hl.1 rfl (lv_room (Nat.le_of_ble_eq_true rfl)) dL_law_716 ⟨by show ck + 0 ≤ 830515; omega, by show sk + 0 ≤ 6609922; omega⟩) ?_
                                  refine lv_aload hx hb dL_law_719 (lv_at hl 15 rfl) ?_
                                  refine lv_iload hx hb dL_law_721 (lv_at hl 5 rfl) ?_
                                  refine z_aald (a := qh) (n := n) (f := (zbf n (zR3 qh))) (j := k) hx hb hK4 hV3.1 0 3 rfl rfl rfl rfl (by omega) (by omega) (zbf_in (by omega)) dL_law_723 ?_
                                  refine lv_iload hx hb dL_law_724 (lv_at hl 1 rfl) ?_
                                  refine z_aald (a := (zR3 qh k)) (n := 2) (f := (zbf 2 (zR2 (zR3 qh k)))) (j := (k % 2)) hx hb hK4 hr8 0 2 rfl rfl rfl rfl (by omega) (by omega) (zbf_in (by omega)) dL_law_726 ?_
                                  have hr10 : va_P D vwCl (zAr cI (zR2 (zR3 qh k) (k % 2)) 3 (G k (k % 2))) H := (hV3.2 k (by omega)).2 (k % 2) (by omega)
                                  refine lv_iconst (v := 0) hx hb dL_law_727 (by decide) ?_
                                  refine z_iald (a := (zR2 (zR3 qh k) (k % 2))) (n := 3) (f := (G k (k % 2))) (j := 0) hx hb hK hr10 0 0 rfl rfl rfl (by omega) (by omega) dL_law_728 ?_
                                  refine lv_icmp_ne (tgt := 794) hx hb dL_law_729 (by decide) (fun c729 => ?_) (fun c729 => ?_)
                                  · exact absurd (by rw [hGf k (k % 2) 0 (by omega) (by omega) (by omega), show k % 2 = 1 by omega]; exact zkp_th (zkp_N hhc) hk (by omega) (by omega)) c729
                                  · refine lv_aload_n hx hb dL_law_732 rfl (lv_at hl 11 rfl) ?_
                                    refine lv_iload hx hb dL_law_733 (lv_at hl 5 rfl) ?_
                                    refine lv_iload hx hb dL_law_735 (lv_at hl 1 rfl) ?_
                                    refine lv_iconst (v := 1) hx hb dL_law_737 (by decide) ?_
                                    refine lv_icmp_ne (tgt := 745) hx hb dL_law_738 (by decide) (fun c738 => ?_) (fun c738 => ?_)
                                    · have c738 := z_ne (a := k % 2) (b := 1) c738 (by omega) (by omega)
                                      omega
                                    · have c738 := z_eq (a := k % 2) (b := 1) c738 (by omega) (by omega)
                                      refine lv_iconst (v := 1) hx hb dL_law_741 (by decide) ?_
                                      refine lv_goto (tgt := 746) hx hb dL_law_742 (by decide) ?_
                                      refine lv_iconst (v := 1) hx hb dL_law_746 (by decide) ?_
                                      refine z_ki (va_runV (As := [.int (nI k), .int 1, .int 1]) (rest := []) hfix (zcX4_half_k1 l D cI H b n me lo c e ((rN n me lo c e (rd, tk, g) 1).1) ((rN n me lo c e (rd, tk, g) 1).2.1) (zgP n me lo c e rd tk g) k 1 hC hI (by omega) (by omega)) (cwV 3 hts gL_law_X4_half rfl rfl rfl (by decide +kernel) ⟨Nat.le_of_ble_eq_true rfl, Nat.le_of_ble_eq_true rfl⟩) (z_preV hK hK1 hC.1 (ci := 4) (q0 := 0) rfl rfl rfl) rfl rfl hl.1 rfl (lv_room (Nat.le_of_ble_eq_true rfl)) dL_law_747 ⟨by show ck + 0 ≤ 830515; omega, by show sk + 0 ≤ 6609922; omega⟩) ?_
                                      refine lv_aload hx hb dL_law_750 (lv_at hl 15 rfl) ?_
                                      refine lv_iload hx hb dL_law_752 (lv_at hl 5 rfl) ?_
                                      refine z_aald (a := qh) (n := n) (f := (zbf n (zR3 qh))) (j := k) hx hb hK4 hV3.1 0 3 rfl rfl rfl rfl (by omega) (by omega) (zbf_in (by omega)) dL_law_754 ?_
                                      refine lv_iload hx hb dL_law_755 (lv_at hl 1 rfl) ?_
                                      refine z_aald (a := (zR3 qh k)) (n := 2) (f := (zbf 2 (zR2 (zR3 qh k)))) (j := (k % 2)) hx hb hK4 hr8 0 2 rfl rfl rfl rfl (by omega) (by omega) (zbf_in (by omega)) dL_law_757 ?_
                                      refine lv_iconst (v := 1) hx hb dL_law_758 (by decide) ?_
                                      refine z_iald (a := (zR2 (zR3 qh k) (k % 2))) (n := 3) (f := (G k (k % 2))) (j := 1) hx hb hK hr10 0 0 rfl rfl rfl (by omega) (by omega) dL_law_759 ?_
                                      refine lv_icmp_ne (tgt := 794) hx hb dL_law_760 (by decide) (fun c760 => ?_) (fun c760 => ?_)
                                      · exact absurd (by rw [hGf k (k % 2) 1 (by omega) (by omega) (by omega), show k % 2 = 1 by omega]; exact zkp_th (zkp_N hhc) hk (by omega) (by omega)) c760
                                      · refine lv_aload_n hx hb dL_law_763 rfl (lv_at hl 11 rfl) ?_
                                        refine lv_iload hx hb dL_law_764 (lv_at hl 5 rfl) ?_
                                        refine lv_iload hx hb dL_law_766 (lv_at hl 1 rfl) ?_
                                        refine lv_iconst (v := 1) hx hb dL_law_768 (by decide) ?_
                                        refine lv_icmp_ne (tgt := 776) hx hb dL_law_769 (by decide) (fun c769 => ?_) (fun c769 => ?_)
                                        · have c769 := z_ne (a := k % 2) (b := 1) c769 (by omega) (by omega)
                                          omega
                                        · have c769 := z_eq (a := k % 2) (b := 1) c769 (by omega) (by omega)
                                          refine lv_iconst (v := 1) hx hb dL_law_772 (by decide) ?_
                                          refine lv_goto (tgt := 777) hx hb dL_law_773 (by decide) ?_
                                          refine lv_iconst (v := 2) hx hb dL_law_777 (by decide) ?_
                                          refine z_ki (va_runV (As := [.int (nI k), .int 1, .int 2]) (rest := []) hfix (zcX4_half_k1 l D cI H b n me lo c e ((rN n me lo c e (rd, tk, g) 1).1) ((rN n me lo c e (rd, tk, g) 1).2.1) (zgP n me lo c e rd tk g) k 2 hC hI (by omega) (by omega)) (cwV 3 hts gL_law_X4_half rfl rfl rfl (by decide +kernel) ⟨Nat.le_of_ble_eq_true rfl, Nat.le_of_ble_eq_true rfl⟩) (z_preV hK hK1 hC.1 (ci := 4) (q0 := 0) rfl rfl rfl) rfl rfl hl.1 rfl (lv_room (Nat.le_of_ble_eq_true rfl)) dL_law_778 ⟨by show ck + 0 ≤ 830515; omega, by show sk + 0 ≤ 6609922; omega⟩) ?_
                                          refine lv_aload hx hb dL_law_781 (lv_at hl 15 rfl) ?_
                                          refine lv_iload hx hb dL_law_783 (lv_at hl 5 rfl) ?_
                                          refine z_aald (a := qh) (n := n) (f := (zbf n (zR3 qh))) (j := k) hx hb hK4 hV3.1 0 3 rfl rfl rfl rfl (by omega) (by omega) (zbf_in (by omega)) dL_law_785 ?_
                                          refine lv_iload hx hb dL_law_786 (lv_at hl 1 rfl) ?_
                                          refine z_aald (a := (zR3 qh k)) (n := 2) (f := (zbf 2 (zR2 (zR3 qh k)))) (j := (k % 2)) hx hb hK4 hr8 0 2 rfl rfl rfl rfl (by omega) (by omega) (zbf_in (by omega)) dL_law_788 ?_
                                          refine lv_iconst (v := 2) hx hb dL_law_789 (by decide) ?_
                                          refine z_iald (a := (zR2 (zR3 qh k) (k % 2))) (n := 3) (f := (G k (k % 2))) (j := 2) hx hb hK hr10 0 0 rfl rfl rfl (by omega) (by omega) dL_law_790 ?_
                                          refine lv_icmp_eq (tgt := 796) hx hb dL_law_791 (by decide) (fun c791 => ?_) (fun c791 => ?_)
                                          · refine lv_iload hx hb dL_law_796 (lv_at hl 4 rfl) ?_
                                            refine lv_if_ge (tgt := 811) hx hb dL_law_798 (by decide) (fun c798 => ?_) (fun c798 => ?_)
                                            · exact absurd c798 (by decide)
                                            · refine lv_aload hx hb dL_law_801 (lv_at hl 14 rfl) ?_
                                              refine lv_iload hx hb dL_law_803 (lv_at hl 5 rfl) ?_
                                              refine z_aald (a := qw) (n := n) (f := (zbf n (zR2 qw))) (j := k) hx hb hK4 hW.1 0 2 rfl rfl rfl rfl (by omega) (by omega) (zbf_in (by omega)) dL_law_805 ?_
                                              refine lv_iconst (v := 1) hx hb dL_law_806 (by decide) ?_
                                              refine z_iald (a := (zR2 qw k)) (n := 7) (f := (F k)) (j := 1) hx hb hK hr7 0 0 rfl rfl rfl (by omega) (by omega) dL_law_807 ?_
                                              refine z_toi (y := (g 6 k)) (hFf k 1 (by omega) (by omega)) ?_
                                              refine lv_goto (tgt := 851) hx hb dL_law_808 (by decide) ?_
                                              refine lv_istore (lv' := [(22, .int (g 6 k)), (13, .int (((hA lo c e g (0, g) k).1) + 0)), (21, .int (nI (k % 2))), (20, .int 0), (19, .int 0), (18, .int (-1)), (17, .int (nI k)), (16, .int (nI (mo (zgP n me lo c e rd tk g) n k))), (15, .int (su (zgP n me lo c e rd tk g) k)), (14, .int (nI (ct (zgP n me lo c e rd tk g) k))), (3, .int (nI tm)), (0, .ref b0), (1, .ref b), (2, .ref o), (5, .int (nI n)), (6, .ref qw), (7, .ref qh), (8, .ref qt), (10, .int rd), (12, .int ((rN n me lo c e (rd, tk, g) 1).2.1 - tk))]) hx hb dL_law_851 hl (by decide) rfl (fun ls hl => ?_)
                                              refine lv_iload hx hb dL_law_853 (lv_at hl 18 rfl) ?_
                                              refine lv_aload hx hb dL_law_855 (lv_at hl 15 rfl) ?_
                                              refine lv_iload hx hb dL_law_857 (lv_at hl 6 rfl) ?_
                                              refine z_aald (a := qw) (n := n) (f := (zbf n (zR2 qw))) (j := k) hx hb hK4 hW.1 0 2 rfl rfl rfl rfl (by omega) (by omega) (zbf_in (by omega)) dL_law_859 ?_
                                              refine lv_iconst (v := 2) hx hb dL_law_860 (by decide) ?_
                                              refine z_iald (a := (zR2 qw k)) (n := 7) (f := (F k)) (j := 2) hx hb hK hr7 0 0 rfl rfl rfl (by omega) (by omega) dL_law_861 ?_
                                              refine z_toi (y := (me k)) (hFf k 2 (by omega) (by omega)) ?_
                                              refine lv_iconst (v := 1) hx hb dL_law_862 (by decide) ?_
                                              refine lv_iadd hx hb dL_law_863 ?_
                                              refine lv_irem hx hb dL_law_864 (zI_span0 hI hk) ?_
                                              refine z_toi (y := zrem rd ((me k) + 1)) rfl ?_
                                              refine lv_if_ne (tgt := 878) hx hb dL_law_865 (by decide) (fun c865 => ?_) (fun c865 => ?_)
                                              · have hl : lv_has ls 25 [(22, .int (g 6 k)), (13, .int (((hA lo c e g (0, g) k).1) + 0)), (21, .int (nI (k % 2))), (20, .int 0), (19, .int 0), (18, .int (zo (hd lo e k (c k)))), (17, .int (nI k)), (16, .int (nI (mo (zgP n me lo c e rd tk g) n k))), (15, .int (su (zgP n me lo c e rd tk g) k)), (14, .int (nI (ct (zgP n me lo c e rd tk g) k))), (3, .int (nI tm)), (0, .ref b0), (1, .ref b), (2, .ref o), (5, .int (nI n)), (6, .ref qw), (7, .ref qh), (8, .ref qt), (10, .int rd), (12, .int ((rN n me lo c e (rd, tk, g) 1).2.1 - tk))] := by rw [hhc]; exact hl
                                                have hl : lv_has ls 25 [(3, .int (nI tm)), (0, .ref b0), (1, .ref b), (2, .ref o), (5, .int (nI n)), (6, .ref qw), (7, .ref qh), (8, .ref qt), (10, .int rd), (12, .int ((rN n me lo c e (rd, tk, g) 1).2.1 - tk)), (13, .int (((hA lo c e g (0, g) k).1) + 0)), (14, .int (nI (ct (zgP n me lo c e rd tk g) k))), (15, .int (su (zgP n me lo c e rd tk g) k)), (16, .int (nI (mo (zgP n me lo c e rd tk g) n k))), (17, .int (nI k)), (18, .int (zo (hd lo e k (c k)))), (22, .int (g 6 k))] := lv_sub hl [10, 11, 12, 13, 14, 15, 16, 17, 18, 19, 1, 9, 8, 7, 6, 5, 0] rfl
                                                refine zlaw_T hfix hK4 hKw hX hb0 hb9 hbs hL hov2 hov3 hcl80 ck sk hck hsk tm htm n me lo c e rd tk g k (((hA lo c e g (0, g) k).1) + 0) (g 6 k) qw qh qt F hI hZ hV hN hn0 hZ1 hV1 hk hFf (zsv_n hk (zkp_N hhc).2.1 c865) H lo0 hS hC hW (fun ls hl => ?_) _ hl
                                                refine lv_iinc (v := (nI (k + 1))) (lv' := [(17, .int (nI (k + 1))), (3, .int (nI tm)), (0, .ref b0), (1, .ref b), (2, .ref o), (5, .int (nI n)), (6, .ref qw), (7, .ref qh), (8, .ref qt), (10, .int rd), (12, .int ((rN n me lo c e (rd, tk, g) 1).2.1 - tk)), (13, .int (((hA lo c e g (0, g) k).1) + 0)), (14, .int (nI (ct (zgP n me lo c e rd tk g) (k + 1)))), (15, .int (su (zgP n me lo c e rd tk g) (k + 1))), (16, .int (nI (mo (zgP n me lo c e rd tk g) n (k + 1))))]) hx hb dL_law_1102 hl (k := 14) rfl (nI_1 _) (by decide) rfl (fun ls hl => ?_)
                                                refine lv_goto (tgt := 387) hx hb dL_law_1105 (by decide) ?_
                                                exact ih (k + 1) (by omega) (by omega) _ (rfl) _ (rfl) _ (rfl) _ (rfl) _ (hA_kp (zkp_N hhc)) _ (lv_sub hl [0, 14, 13, 12, 11, 1, 2, 3, 4, 5, 6, 7, 8, 9, 10] rfl)
                                              · refine lv_iconst (v := 0) hx hb dL_law_868 (by decide) ?_
                                                refine lv_iload hx hb dL_law_869 (lv_at hl 0 rfl) ?_
                                                refine lv_iconst (v := 1) hx hb dL_law_871 (by decide) ?_
                                                refine lv_isub hx hb dL_law_872 ?_
                                                refine va_mmax hx hb (by rw [hml]; exact hl.1.symm) hown hwd9 hwd10 hwd7 (hwd11) (Nat.le_of_ble_eq_true rfl) (Nat.le_of_ble_eq_true rfl) (hck) (hsk) dL_law_873 ?_
                                                refine z_toi (y := zmax 0 ((g 6 k) - 1)) rfl ?_
                                                refine lv_istore (lv' := [(22, .int (zmax 0 ((g 6 k) - 1))), (13, .int (((hA lo c e g (0, g) k).1) + 0)), (21, .int (nI (k % 2))), (20, .int 0), (19, .int 0), (18, .int (-1)), (17, .int (nI k)), (16, .int (nI (mo (zgP n me lo c e rd tk g) n k))), (15, .int (su (zgP n me lo c e rd tk g) k)), (14, .int (nI (ct (zgP n me lo c e rd tk g) k))), (3, .int (nI tm)), (0, .ref b0), (1, .ref b), (2, .ref o), (5, .int (nI n)), (6, .ref qw), (7, .ref qh), (8, .ref qt), (10, .int rd), (12, .int ((rN n me lo c e (rd, tk, g) 1).2.1 - tk))]) hx hb dL_law_876 hl (by decide) rfl (fun ls hl => ?_)
                                                have hl : lv_has ls 25 [(22, .int (zmax 0 ((g 6 k) - 1))), (13, .int (((hA lo c e g (0, g) k).1) + 0)), (21, .int (nI (k % 2))), (20, .int 0), (19, .int 0), (18, .int (zo (hd lo e k (c k)))), (17, .int (nI k)), (16, .int (nI (mo (zgP n me lo c e rd tk g) n k))), (15, .int (su (zgP n me lo c e rd tk g) k)), (14, .int (nI (ct (zgP n me lo c e rd tk g) k))), (3, .int (nI tm)), (0, .ref b0), (1, .ref b), (2, .ref o), (5, .int (nI n)), (6, .ref qw), (7, .ref qh), (8, .ref qt), (10, .int rd), (12, .int ((rN n me lo c e (rd, tk, g) 1).2.1 - tk))] := by rw [hhc]; exact hl
                                                have hl : lv_has ls 25 [(3, .int (nI tm)), (0, .ref b0), (1, .ref b), (2, .ref o), (5, .int (nI n)), (6, .ref qw), (7, .ref qh), (8, .ref qt), (10, .int rd), (12, .int ((rN n me lo c e (rd, tk, g) 1).2.1 - tk)), (13, .int (((hA lo c e g (0, g) k).1) + 0)), (14, .int (nI (ct (zgP n me lo c e rd tk g) k))), (15, .int (su (zgP n me lo c e rd tk g) k)), (16, .int (nI (mo (zgP n me lo c e rd tk g) n k))), (17, .int (nI k)), (18, .int (zo (hd lo e k (c k)))), (22, .int (zmax 0 ((g 6 k) - 1)))] := lv_sub hl [10, 11, 12, 13, 14, 15, 16, 17, 18, 19, 1, 9, 8, 7, 6, 5, 0] rfl
                                                refine zlaw_T hfix hK4 hKw hX hb0 hb9 hbs hL hov2 hov3 hcl80 ck sk hck hsk tm htm n me lo c e rd tk g k (((hA lo c e g (0, g) k).1) + 0) (zmax 0 ((g 6 k) - 1)) qw qh qt F hI hZ hV hN hn0 hZ1 hV1 hk hFf (zsv_y hk (zkp_N hhc).2.1 c865) H lo0 hS hC hW (fun ls hl => ?_) _ hl
                                                refine lv_iinc (v := (nI (k + 1))) (lv' := [(17, .int (nI (k + 1))), (3, .int (nI tm)), (0, .ref b0), (1, .ref b), (2, .ref o), (5, .int (nI n)), (6, .ref qw), (7, .ref qh), (8, .ref qt), (10, .int rd), (12, .int ((rN n me lo c e (rd, tk, g) 1).2.1 - tk)), (13, .int (((hA lo c e g (0, g) k).1) + 0)), (14, .int (nI (ct (zgP n me lo c e rd tk g) (k + 1)))), (15, .int (su (zgP n me lo c e rd tk g) (k + 1))), (16, .int (nI (mo (zgP n me lo c e rd tk g) n (k + 1))))]) hx hb dL_law_1102 hl (k := 14) rfl (nI_1 _) (by decide) rfl (fun ls hl => ?_)
                                                refine lv_goto (tgt := 387) hx hb dL_law_1105 (by decide) ?_
                                                exact ih (k + 1) (by omega) (by omega) _ (rfl) _ (rfl) _ (rfl) _ (rfl) _ (hA_kp (zkp_N hhc)) _ (lv_sub hl [0, 14, 13, 12, 11, 1, 2, 3, 4, 5, 6, 7, 8, 9, 10] rfl)
                                          · exact absurd (by rw [hGf k (k % 2) 2 (by omega) (by omega) (by omega), show k % 2 = 1 by omega]; exact zkp_th (zkp_N hhc) hk (by omega) (by omega)) c791
                              · exact absurd (by decide) c603
                            · exact absurd (by rw [hGf k (1 - k % 2) 2 (by omega) (by omega) (by omega), show 1 - k % 2 = 0 by omega]; exact z1_oth hk (by omega) (by omega)) c596
                          · have c572 := z_eq (a := k % 2) (b := 0) c572 (by omega) (by omega)
                            exact absurd c572 c508
                      · have c540 := z_eq (a := k % 2) (b := 0) c540 (by omega) (by omega)
                        exact absurd c540 c508
                  · have c508 := z_eq (a := k % 2) (b := 0) c508 (by omega) (by omega)
                    refine lv_iconst (v := 1) hx hb dL_law_511 (by decide) ?_
                    refine lv_goto (tgt := 516) hx hb dL_law_512 (by decide) ?_
                    refine lv_iconst (v := 0) hx hb dL_law_516 (by decide) ?_
                    refine z_ki (va_runV (As := [.int (nI k), .int 1, .int 0]) (rest := []) hfix (zcX4_half_k1 l D cI H b n me lo c e ((rN n me lo c e (rd, tk, g) 1).1) ((rN n me lo c e (rd, tk, g) 1).2.1) (zgP n me lo c e rd tk g) k 0 hC hI (by omega) (by omega)) (cwV 3 hts gL_law_X4_half rfl rfl rfl (by decide +kernel) ⟨Nat.le_of_ble_eq_true rfl, Nat.le_of_ble_eq_true rfl⟩) (z_preV hK hK1 hC.1 (ci := 4) (q0 := 0) rfl rfl rfl) rfl rfl hl.1 rfl (lv_room (Nat.le_of_ble_eq_true rfl)) dL_law_517 ⟨by show ck + 0 ≤ 830515; omega, by show sk + 0 ≤ 6609922; omega⟩) ?_
                    refine lv_aload hx hb dL_law_520 (lv_at hl 15 rfl) ?_
                    refine lv_iload hx hb dL_law_522 (lv_at hl 5 rfl) ?_
                    refine z_aald (a := qh) (n := n) (f := (zbf n (zR3 qh))) (j := k) hx hb hK4 hV3.1 0 3 rfl rfl rfl rfl (by omega) (by omega) (zbf_in (by omega)) dL_law_524 ?_
                    have hr11 : va_P D vwCl (zQr cA (zR3 qh k) 2 (zbf 2 (zR2 (zR3 qh k)))) H := (hV3.2 k (by omega)).1
                    refine lv_iconst (v := 1) hx hb dL_law_525 (by decide) ?_
                    refine lv_iload hx hb dL_law_526 (lv_at hl 1 rfl) ?_
                    refine lv_isub hx hb dL_law_528 ?_
                    refine z_toi (y := nI (1 - k % 2)) (pk_sub (a := 1) (by omega)) ?_
                    refine z_aald (a := (zR3 qh k)) (n := 2) (f := (zbf 2 (zR2 (zR3 qh k)))) (j := (1 - k % 2)) hx hb hK4 hr11 0 2 rfl rfl rfl rfl (by omega) (by omega) (zbf_in (by omega)) dL_law_529 ?_
                    have hr12 : va_P D vwCl (zAr cI (zR2 (zR3 qh k) (1 - k % 2)) 3 (G k (1 - k % 2))) H := (hV3.2 k (by omega)).2 (1 - k % 2) (by omega)
                    refine lv_iconst (v := 0) hx hb dL_law_530 (by decide) ?_
                    refine z_iald (a := (zR2 (zR3 qh k) (1 - k % 2))) (n := 3) (f := (G k (1 - k % 2))) (j := 0) hx hb hK hr12 0 0 rfl rfl rfl (by omega) (by omega) dL_law_531 ?_
                    refine lv_icmp_ne (tgt := 599) hx hb dL_law_532 (by decide) (fun c532 => ?_) (fun c532 => ?_)
                    · exact absurd (by rw [hGf k (1 - k % 2) 0 (by omega) (by omega) (by omega), show 1 - k % 2 = 1 by omega]; exact z1_oth hk (by omega) (by omega)) c532
                    · refine lv_aload_n hx hb dL_law_535 rfl (lv_at hl 11 rfl) ?_
                      refine lv_iload hx hb dL_law_536 (lv_at hl 5 rfl) ?_
                      refine lv_iload hx hb dL_law_538 (lv_at hl 1 rfl) ?_
                      refine lv_if_ne (tgt := 547) hx hb dL_law_540 (by decide) (fun c540 => ?_) (fun c540 => ?_)
                      · have c540 := z_ne (a := k % 2) (b := 0) c540 (by omega) (by omega)
                        exact absurd c508 c540
                      · have c540 := z_eq (a := k % 2) (b := 0) c540 (by omega) (by omega)
                        refine lv_iconst (v := 1) hx hb dL_law_543 (by decide) ?_
                        refine lv_goto (tgt := 548) hx hb dL_law_544 (by decide) ?_
                        refine lv_iconst (v := 1) hx hb dL_law_548 (by decide) ?_
                        refine z_ki (va_runV (As := [.int (nI k), .int 1, .int 1]) (rest := []) hfix (zcX4_half_k1 l D cI H b n me lo c e ((rN n me lo c e (rd, tk, g) 1).1) ((rN n me lo c e (rd, tk, g) 1).2.1) (zgP n me lo c e rd tk g) k 1 hC hI (by omega) (by omega)) (cwV 3 hts gL_law_X4_half rfl rfl rfl (by decide +kernel) ⟨Nat.le_of_ble_eq_true rfl, Nat.le_of_ble_eq_true rfl⟩) (z_preV hK hK1 hC.1 (ci := 4) (q0 := 0) rfl rfl rfl) rfl rfl hl.1 rfl (lv_room (Nat.le_of_ble_eq_true rfl)) dL_law_549 ⟨by show ck + 0 ≤ 830515; omega, by show sk + 0 ≤ 6609922; omega⟩) ?_
                        refine lv_aload hx hb dL_law_552 (lv_at hl 15 rfl) ?_
                        refine lv_iload hx hb dL_law_554 (lv_at hl 5 rfl) ?_
                        refine z_aald (a := qh) (n := n) (f := (zbf n (zR3 qh))) (j := k) hx hb hK4 hV3.1 0 3 rfl rfl rfl rfl (by omega) (by omega) (zbf_in (by omega)) dL_law_556 ?_
                        refine lv_iconst (v := 1) hx hb dL_law_557 (by decide) ?_
                        refine lv_iload hx hb dL_law_558 (lv_at hl 1 rfl) ?_
                        refine lv_isub hx hb dL_law_560 ?_
                        refine z_toi (y := nI (1 - k % 2)) (pk_sub (a := 1) (by omega)) ?_
                        refine z_aald (a := (zR3 qh k)) (n := 2) (f := (zbf 2 (zR2 (zR3 qh k)))) (j := (1 - k % 2)) hx hb hK4 hr11 0 2 rfl rfl rfl rfl (by omega) (by omega) (zbf_in (by omega)) dL_law_561 ?_
                        refine lv_iconst (v := 1) hx hb dL_law_562 (by decide) ?_
                        refine z_iald (a := (zR2 (zR3 qh k) (1 - k % 2))) (n := 3) (f := (G k (1 - k % 2))) (j := 1) hx hb hK hr12 0 0 rfl rfl rfl (by omega) (by omega) dL_law_563 ?_
                        refine lv_icmp_ne (tgt := 599) hx hb dL_law_564 (by decide) (fun c564 => ?_) (fun c564 => ?_)
                        · exact absurd (by rw [hGf k (1 - k % 2) 1 (by omega) (by omega) (by omega), show 1 - k % 2 = 1 by omega]; exact z1_oth hk (by omega) (by omega)) c564
                        · refine lv_aload_n hx hb dL_law_567 rfl (lv_at hl 11 rfl) ?_
                          refine lv_iload hx hb dL_law_568 (lv_at hl 5 rfl) ?_
                          refine lv_iload hx hb dL_law_570 (lv_at hl 1 rfl) ?_
                          refine lv_if_ne (tgt := 579) hx hb dL_law_572 (by decide) (fun c572 => ?_) (fun c572 => ?_)
                          · have c572 := z_ne (a := k % 2) (b := 0) c572 (by omega) (by omega)
                            exact absurd c508 c572
                          · have c572 := z_eq (a := k % 2) (b := 0) c572 (by omega) (by omega)
                            refine lv_iconst (v := 1) hx hb dL_law_575 (by decide) ?_
                            refine lv_goto (tgt := 580) hx hb dL_law_576 (by decide) ?_
                            refine lv_iconst (v := 2) hx hb dL_law_580 (by decide) ?_
                            refine z_ki (va_runV (As := [.int (nI k), .int 1, .int 2]) (rest := []) hfix (zcX4_half_k1 l D cI H b n me lo c e ((rN n me lo c e (rd, tk, g) 1).1) ((rN n me lo c e (rd, tk, g) 1).2.1) (zgP n me lo c e rd tk g) k 2 hC hI (by omega) (by omega)) (cwV 3 hts gL_law_X4_half rfl rfl rfl (by decide +kernel) ⟨Nat.le_of_ble_eq_true rfl, Nat.le_of_ble_eq_true rfl⟩) (z_preV hK hK1 hC.1 (ci := 4) (q0 := 0) rfl rfl rfl) rfl rfl hl.1 rfl (lv_room (Nat.le_of_ble_eq_true rfl)) dL_law_581 ⟨by show ck + 0 ≤ 830515; omega, by show sk + 0 ≤ 6609922; omega⟩) ?_
                            refine lv_aload hx hb dL_law_584 (lv_at hl 15 rfl) ?_
                            refine lv_iload hx hb dL_law_586 (lv_at hl 5 rfl) ?_
                            refine z_aald (a := qh) (n := n) (f := (zbf n (zR3 qh))) (j := k) hx hb hK4 hV3.1 0 3 rfl rfl rfl rfl (by omega) (by omega) (zbf_in (by omega)) dL_law_588 ?_
                            refine lv_iconst (v := 1) hx hb dL_law_589 (by decide) ?_
                            refine lv_iload hx hb dL_law_590 (lv_at hl 1 rfl) ?_
                            refine lv_isub hx hb dL_law_592 ?_
                            refine z_toi (y := nI (1 - k % 2)) (pk_sub (a := 1) (by omega)) ?_
                            refine z_aald (a := (zR3 qh k)) (n := 2) (f := (zbf 2 (zR2 (zR3 qh k)))) (j := (1 - k % 2)) hx hb hK4 hr11 0 2 rfl rfl rfl rfl (by omega) (by omega) (zbf_in (by omega)) dL_law_593 ?_
                            refine lv_iconst (v := 2) hx hb dL_law_594 (by decide) ?_
                            refine z_iald (a := (zR2 (zR3 qh k) (1 - k % 2))) (n := 3) (f := (G k (1 - k % 2))) (j := 2) hx hb hK hr12 0 0 rfl rfl rfl (by omega) (by omega) dL_law_595 ?_
                            refine lv_icmp_eq (tgt := 601) hx hb dL_law_596 (by decide) (fun c596 => ?_) (fun c596 => ?_)
                            · refine lv_iload hx hb dL_law_601 (lv_at hl 2 rfl) ?_
                              refine lv_if_eq (tgt := 701) hx hb dL_law_603 (by decide) (fun c603 => ?_) (fun c603 => ?_)
                              · have c603 := z_eq (a := 0) (b := 0) c603 (by omega) (by omega)
                                refine lv_aload_n hx hb dL_law_701 rfl (lv_at hl 11 rfl) ?_
                                refine lv_iload hx hb dL_law_702 (lv_at hl 5 rfl) ?_
                                refine lv_iload hx hb dL_law_704 (lv_at hl 1 rfl) ?_
                                refine lv_iconst (v := 1) hx hb dL_law_706 (by decide) ?_
                                refine lv_icmp_ne (tgt := 714) hx hb dL_law_707 (by decide) (fun c707 => ?_) (fun c707 => ?_)
                                · have c707 := z_ne (a := k % 2) (b := 1) c707 (by omega) (by omega)
                                  refine lv_iconst (v := 0) hx hb dL_law_714 (by decide) ?_
                                  refine lv_iconst (v := 0) hx hb dL_law_715 (by decide) ?_
                                  refine z_ki (va_runV (As := [.int (nI k), .int 0, .int 0]) (rest := []) hfix (zcX4_half_k0 l D cI H b n me lo c e ((rN n me lo c e (rd, tk, g) 1).1) ((rN n me lo c e (rd, tk, g) 1).2.1) (zgP n me lo c e rd tk g) k 0 hC hI (by omega) (by omega)) (cwV 3 hts gL_law_X4_half rfl rfl rfl (by decide +kernel) ⟨Nat.le_of_ble_eq_true rfl, Nat.le_of_ble_eq_true rfl⟩) (z_preV hK hK1 hC.1 (ci := 4) (q0 := 0) rfl rfl rfl) rfl rfl hl.1 rfl (lv_room (Nat.le_of_ble_eq_true rfl)) dL_law_716 ⟨by show ck + 0 ≤ 830515; omega, by show sk + 0 ≤ 6609922; omega⟩) ?_
                                  refine lv_aload hx hb dL_law_719 (lv_at hl 15 rfl) ?_
                                  refine lv_iload hx hb dL_law_721 (lv_at hl 5 rfl) ?_
                                  refine z_aald (a := qh) (n := n) (f := (zbf n (zR3 qh))) (j := k) hx hb hK4 hV3.1 0 3 rfl rfl rfl rfl (by omega) (by omega) (zbf_in (by omega)) dL_law_723 ?_
                                  refine lv_iload hx hb dL_law_724 (lv_at hl 1 rfl) ?_
                                  refine z_aald (a := (zR3 qh k)) (n := 2) (f := (zbf 2 (zR2 (zR3 qh k)))) (j := (k % 2)) hx hb hK4 hr11 0 2 rfl rfl rfl rfl (by omega) (by omega) (zbf_in (by omega)) dL_law_726 ?_
                                  have hr13 : va_P D vwCl (zAr cI (zR2 (zR3 qh k) (k % 2)) 3 (G k (k % 2))) H := (hV3.2 k (by omega)).2 (k % 2) (by omega)
                                  refine lv_iconst (v := 0) hx hb dL_law_727 (by decide) ?_
                                  refine z_iald (a := (zR2 (zR3 qh k) (k % 2))) (n := 3) (f := (G k (k % 2))) (j := 0) hx hb hK hr13 0 0 rfl rfl rfl (by omega) (by omega) dL_law_728 ?_
                                  refine lv_icmp_ne (tgt := 794) hx hb dL_law_729 (by decide) (fun c729 => ?_) (fun c729 => ?_)
                                  · exact absurd (by rw [hGf k (k % 2) 0 (by omega) (by omega) (by omega), show k % 2 = 0 by omega]; exact zkp_th (zkp_N hhc) hk (by omega) (by omega)) c729
                                  · refine lv_aload_n hx hb dL_law_732 rfl (lv_at hl 11 rfl) ?_
                                    refine lv_iload hx hb dL_law_733 (lv_at hl 5 rfl) ?_
                                    refine lv_iload hx hb dL_law_735 (lv_at hl 1 rfl) ?_
                                    refine lv_iconst (v := 1) hx hb dL_law_737 (by decide) ?_
                                    refine lv_icmp_ne (tgt := 745) hx hb dL_law_738 (by decide) (fun c738 => ?_) (fun c738 => ?_)
                                    · have c738 := z_ne (a := k % 2) (b := 1) c738 (by omega) (by omega)
                                      refine lv_iconst (v := 0) hx hb dL_law_745 (by decide) ?_
                                      refine lv_iconst (v := 1) hx hb dL_law_746 (by decide) ?_
                                      refine z_ki (va_runV (As := [.int (nI k), .int 0, .int 1]) (rest := []) hfix (zcX4_half_k0 l D cI H b n me lo c e ((rN n me lo c e (rd, tk, g) 1).1) ((rN n me lo c e (rd, tk, g) 1).2.1) (zgP n me lo c e rd tk g) k 1 hC hI (by omega) (by omega)) (cwV 3 hts gL_law_X4_half rfl rfl rfl (by decide +kernel) ⟨Nat.le_of_ble_eq_true rfl, Nat.le_of_ble_eq_true rfl⟩) (z_preV hK hK1 hC.1 (ci := 4) (q0 := 0) rfl rfl rfl) rfl rfl hl.1 rfl (lv_room (Nat.le_of_ble_eq_true rfl)) dL_law_747 ⟨by show ck + 0 ≤ 830515; omega, by show sk + 0 ≤ 6609922; omega⟩) ?_
                                      refine lv_aload hx hb dL_law_750 (lv_at hl 15 rfl) ?_
                                      refine lv_iload hx hb dL_law_752 (lv_at hl 5 rfl) ?_
                                      refine z_aald (a := qh) (n := n) (f := (zbf n (zR3 qh))) (j := k) hx hb hK4 hV3.1 0 3 rfl rfl rfl rfl (by omega) (by omega) (zbf_in (by omega)) dL_law_754 ?_
                                      refine lv_iload hx hb dL_law_755 (lv_at hl 1 rfl) ?_
                                      refine z_aald (a := (zR3 qh k)) (n := 2) (f := (zbf 2 (zR2 (zR3 qh k)))) (j := (k % 2)) hx hb hK4 hr11 0 2 rfl rfl rfl rfl (by omega) (by omega) (zbf_in (by omega)) dL_law_757 ?_
                                      refine lv_iconst (v := 1) hx hb dL_law_758 (by decide) ?_
                                      refine z_iald (a := (zR2 (zR3 qh k) (k % 2))) (n := 3) (f := (G k (k % 2))) (j := 1) hx hb hK hr13 0 0 rfl rfl rfl (by omega) (by omega) dL_law_759 ?_
                                      refine lv_icmp_ne (tgt := 794) hx hb dL_law_760 (by decide) (fun c760 => ?_) (fun c760 => ?_)
                                      · exact absurd (by rw [hGf k (k % 2) 1 (by omega) (by omega) (by omega), show k % 2 = 0 by omega]; exact zkp_th (zkp_N hhc) hk (by omega) (by omega)) c760
                                      · refine lv_aload_n hx hb dL_law_763 rfl (lv_at hl 11 rfl) ?_
                                        refine lv_iload hx hb dL_law_764 (lv_at hl 5 rfl) ?_
                                        refine lv_iload hx hb dL_law_766 (lv_at hl 1 rfl) ?_
                                        refine lv_iconst (v := 1) hx hb dL_law_768 (by decide) ?_
                                        refine lv_icmp_ne (tgt := 776) hx hb dL_law_769 (by decide) (fun c769 => ?_) (fun c769 => ?_)
                                        · have c769 := z_ne (a := k % 2) (b := 1) c769 (by omega) (by omega)
                                          refine lv_iconst (v := 0) hx hb dL_law_776 (by decide) ?_
                                          refine lv_iconst (v := 2) hx hb dL_law_777 (by decide) ?_
                                          refine z_ki (va_runV (As := [.int (nI k), .int 0, .int 2]) (rest := []) hfix (zcX4_half_k0 l D cI H b n me lo c e ((rN n me lo c e (rd, tk, g) 1).1) ((rN n me lo c e (rd, tk, g) 1).2.1) (zgP n me lo c e rd tk g) k 2 hC hI (by omega) (by omega)) (cwV 3 hts gL_law_X4_half rfl rfl rfl (by decide +kernel) ⟨Nat.le_of_ble_eq_true rfl, Nat.le_of_ble_eq_true rfl⟩) (z_preV hK hK1 hC.1 (ci := 4) (q0 := 0) rfl rfl rfl) rfl rfl hl.1 rfl (lv_room (Nat.le_of_ble_eq_true rfl)) dL_law_778 ⟨by show ck + 0 ≤ 830515; omega, by show sk + 0 ≤ 6609922; omega⟩) ?_
                                          refine lv_aload hx hb dL_law_781 (lv_at hl 15 rfl) ?_
                                          refine lv_iload hx hb dL_law_783 (lv_at hl 5 rfl) ?_
                                          refine z_aald (a := qh) (n := n) (f := (zbf n (zR3 qh))) (j := k) hx hb hK4 hV3.1 0 3 rfl rfl rfl rfl (by omega) (by omega) (zbf_in (by omega)) dL_law_785 ?_
                                          refine lv_iload hx hb dL_law_786 (lv_at hl 1 rfl) ?_
                                          refine z_aald (a := (zR3 qh k)) (n := 2) (f := (zbf 2 (zR2 (zR3 qh k)))) (j := (k % 2)) hx hb hK4 hr11 0 2 rfl rfl rfl rfl (by omega) (by omega) (zbf_in (by omega)) dL_law_788 ?_
                                          refine lv_iconst (v := 2) hx hb dL_law_789 (by decide) ?_
                                          refine z_iald (a := (zR2 (zR3 qh k) (k % 2))) (n := 3) (f := (G k (k % 2))) (j := 2) hx hb hK hr13 0 0 rfl rfl rfl (by omega) (by omega) dL_law_790 ?_
                                          refine lv_icmp_eq (tgt := 796) hx hb dL_law_791 (by decide) (fun c791 => ?_) (fun c791 => ?_)
                                          · refine lv_iload hx hb dL_law_796 (lv_at hl 4 rfl) ?_
                                            refine lv_if_ge (tgt := 811) hx hb dL_law_798 (by decide) (fun c798 => ?_) (fun c798 => ?_)
                                            · exact absurd c798 (by decide)
                                            · refine lv_aload hx hb dL_law_801 (lv_at hl 14 rfl) ?_
                                              refine lv_iload hx hb dL_law_803 (lv_at hl 5 rfl) ?_
                                              refine z_aald (a := qw) (n := n) (f := (zbf n (zR2 qw))) (j := k) hx hb hK4 hW.1 0 2 rfl rfl rfl rfl (by omega) (by omega) (zbf_in (by omega)) dL_law_805 ?_
                                              refine lv_iconst (v := 1) hx hb dL_law_806 (by decide) ?_
                                              refine z_iald (a := (zR2 qw k)) (n := 7) (f := (F k)) (j := 1) hx hb hK hr7 0 0 rfl rfl rfl (by omega) (by omega) dL_law_807 ?_
                                              refine z_toi (y := (g 6 k)) (hFf k 1 (by omega) (by omega)) ?_
                                              refine lv_goto (tgt := 851) hx hb dL_law_808 (by decide) ?_
                                              refine lv_istore (lv' := [(22, .int (g 6 k)), (13, .int (((hA lo c e g (0, g) k).1) + 0)), (21, .int (nI (k % 2))), (20, .int 0), (19, .int 0), (18, .int (-1)), (17, .int (nI k)), (16, .int (nI (mo (zgP n me lo c e rd tk g) n k))), (15, .int (su (zgP n me lo c e rd tk g) k)), (14, .int (nI (ct (zgP n me lo c e rd tk g) k))), (3, .int (nI tm)), (0, .ref b0), (1, .ref b), (2, .ref o), (5, .int (nI n)), (6, .ref qw), (7, .ref qh), (8, .ref qt), (10, .int rd), (12, .int ((rN n me lo c e (rd, tk, g) 1).2.1 - tk))]) hx hb dL_law_851 hl (by decide) rfl (fun ls hl => ?_)
                                              refine lv_iload hx hb dL_law_853 (lv_at hl 18 rfl) ?_
                                              refine lv_aload hx hb dL_law_855 (lv_at hl 15 rfl) ?_
                                              refine lv_iload hx hb dL_law_857 (lv_at hl 6 rfl) ?_
                                              refine z_aald (a := qw) (n := n) (f := (zbf n (zR2 qw))) (j := k) hx hb hK4 hW.1 0 2 rfl rfl rfl rfl (by omega) (by omega) (zbf_in (by omega)) dL_law_859 ?_
                                              refine lv_iconst (v := 2) hx hb dL_law_860 (by decide) ?_
                                              refine z_iald (a := (zR2 qw k)) (n := 7) (f := (F k)) (j := 2) hx hb hK hr7 0 0 rfl rfl rfl (by omega) (by omega) dL_law_861 ?_
                                              refine z_toi (y := (me k)) (hFf k 2 (by omega) (by omega)) ?_
                                              refine lv_iconst (v := 1) hx hb dL_law_862 (by decide) ?_
                                              refine lv_iadd hx hb dL_law_863 ?_
                                              refine lv_irem hx hb dL_law_864 (zI_span0 hI hk) ?_
                                              refine z_toi (y := zrem rd ((me k) + 1)) rfl ?_
                                              refine lv_if_ne (tgt := 878) hx hb dL_law_865 (by decide) (fun c865 => ?_) (fun c865 => ?_)
                                              · have hl : lv_has ls 25 [(22, .int (g 6 k)), (13, .int (((hA lo c e g (0, g) k).1) + 0)), (21, .int (nI (k % 2))), (20, .int 0), (19, .int 0), (18, .int (zo (hd lo e k (c k)))), (17, .int (nI k)), (16, .int (nI (mo (zgP n me lo c e rd tk g) n k))), (15, .int (su (zgP n me lo c e rd tk g) k)), (14, .int (nI (ct (zgP n me lo c e rd tk g) k))), (3, .int (nI tm)), (0, .ref b0), (1, .ref b), (2, .ref o), (5, .int (nI n)), (6, .ref qw), (7, .ref qh), (8, .ref qt), (10, .int rd), (12, .int ((rN n me lo c e (rd, tk, g) 1).2.1 - tk))] := by rw [hhc]; exact hl
                                                have hl : lv_has ls 25 [(3, .int (nI tm)), (0, .ref b0), (1, .ref b), (2, .ref o), (5, .int (nI n)), (6, .ref qw), (7, .ref qh), (8, .ref qt), (10, .int rd), (12, .int ((rN n me lo c e (rd, tk, g) 1).2.1 - tk)), (13, .int (((hA lo c e g (0, g) k).1) + 0)), (14, .int (nI (ct (zgP n me lo c e rd tk g) k))), (15, .int (su (zgP n me lo c e rd tk g) k)), (16, .int (nI (mo (zgP n me lo c e rd tk g) n k))), (17, .int (nI k)), (18, .int (zo (hd lo e k (c k)))), (22, .int (g 6 k))] := lv_sub hl [10, 11, 12, 13, 14, 15, 16, 17, 18, 19, 1, 9, 8, 7, 6, 5, 0] rfl
                                                refine zlaw_T hfix hK4 hKw hX hb0 hb9 hbs hL hov2 hov3 hcl80 ck sk hck hsk tm htm n me lo c e rd tk g k (((hA lo c e g (0, g) k).1) + 0) (g 6 k) qw qh qt F hI hZ hV hN hn0 hZ1 hV1 hk hFf (zsv_n hk (zkp_N hhc).2.1 c865) H lo0 hS hC hW (fun ls hl => ?_) _ hl
                                                refine lv_iinc (v := (nI (k + 1))) (lv' := [(17, .int (nI (k + 1))), (3, .int (nI tm)), (0, .ref b0), (1, .ref b), (2, .ref o), (5, .int (nI n)), (6, .ref qw), (7, .ref qh), (8, .ref qt), (10, .int rd), (12, .int ((rN n me lo c e (rd, tk, g) 1).2.1 - tk)), (13, .int (((hA lo c e g (0, g) k).1) + 0)), (14, .int (nI (ct (zgP n me lo c e rd tk g) (k + 1)))), (15, .int (su (zgP n me lo c e rd tk g) (k + 1))), (16, .int (nI (mo (zgP n me lo c e rd tk g) n (k + 1))))]) hx hb dL_law_1102 hl (k := 14) rfl (nI_1 _) (by decide) rfl (fun ls hl => ?_)
                                                refine lv_goto (tgt := 387) hx hb dL_law_1105 (by decide) ?_
                                                exact ih (k + 1) (by omega) (by omega) _ (rfl) _ (rfl) _ (rfl) _ (rfl) _ (hA_kp (zkp_N hhc)) _ (lv_sub hl [0, 14, 13, 12, 11, 1, 2, 3, 4, 5, 6, 7, 8, 9, 10] rfl)
                                              · refine lv_iconst (v := 0) hx hb dL_law_868 (by decide) ?_
                                                refine lv_iload hx hb dL_law_869 (lv_at hl 0 rfl) ?_
                                                refine lv_iconst (v := 1) hx hb dL_law_871 (by decide) ?_
                                                refine lv_isub hx hb dL_law_872 ?_
                                                refine va_mmax hx hb (by rw [hml]; exact hl.1.symm) hown hwd9 hwd10 hwd7 (hwd11) (Nat.le_of_ble_eq_true rfl) (Nat.le_of_ble_eq_true rfl) (hck) (hsk) dL_law_873 ?_
                                                refine z_toi (y := zmax 0 ((g 6 k) - 1)) rfl ?_
                                                refine lv_istore (lv' := [(22, .int (zmax 0 ((g 6 k) - 1))), (13, .int (((hA lo c e g (0, g) k).1) + 0)), (21, .int (nI (k % 2))), (20, .int 0), (19, .int 0), (18, .int (-1)), (17, .int (nI k)), (16, .int (nI (mo (zgP n me lo c e rd tk g) n k))), (15, .int (su (zgP n me lo c e rd tk g) k)), (14, .int (nI (ct (zgP n me lo c e rd tk g) k))), (3, .int (nI tm)), (0, .ref b0), (1, .ref b), (2, .ref o), (5, .int (nI n)), (6, .ref qw), (7, .ref qh), (8, .ref qt), (10, .int rd), (12, .int ((rN n me lo c e (rd, tk, g) 1).2.1 - tk))]) hx hb dL_law_876 hl (by decide) rfl (fun ls hl => ?_)
                                                have hl : lv_has ls 25 [(22, .int (zmax 0 ((g 6 k) - 1))), (13, .int (((hA lo c e g (0, g) k).1) + 0)), (21, .int (nI (k % 2))), (20, .int 0), (19, .int 0), (18, .int (zo (hd lo e k (c k)))), (17, .int (nI k)), (16, .int (nI (mo (zgP n me lo c e rd tk g) n k))), (15, .int (su (zgP n me lo c e rd tk g) k)), (14, .int (nI (ct (zgP n me lo c e rd tk g) k))), (3, .int (nI tm)), (0, .ref b0), (1, .ref b), (2, .ref o), (5, .int (nI n)), (6, .ref qw), (7, .ref qh), (8, .ref qt), (10, .int rd), (12, .int ((rN n me lo c e (rd, tk, g) 1).2.1 - tk))] := by rw [hhc]; exact hl
                                                have hl : lv_has ls 25 [(3, .int (nI tm)), (0, .ref b0), (1, .ref b), (2, .ref o), (5, .int (nI n)), (6, .ref qw), (7, .ref qh), (8, .ref qt), (10, .int rd), (12, .int ((rN n me lo c e (rd, tk, g) 1).2.1 - tk)), (13, .int (((hA lo c e g (0, g) k).1) + 0)), (14, .int (nI (ct (zgP n me lo c e rd tk g) k))), (15, .int (su (zgP n me lo c e rd tk g) k)), (16, .int (nI (mo (zgP n me lo c e rd tk g) n k))), (17, .int (nI k)), (18, .int (zo (hd lo e k (c k)))), (22, .int (zmax 0 ((g 6 k) - 1)))] := lv_sub hl [10, 11, 12, 13, 14, 15, 16, 17, 18, 19, 1, 9, 8, 7, 6, 5, 0] rfl
                                                refine zlaw_T hfix hK4 hKw hX hb0 hb9 hbs hL hov2 hov3 hcl80 ck sk hck hsk tm htm n me lo c e rd tk g k (((hA lo c e g (0, g) k).1) + 0) (zmax 0 ((g 6 k) - 1)) qw qh qt F hI hZ hV hN hn0 hZ1 hV1 hk hFf (zsv_y hk (zkp_N hhc).2.1 c865) H lo0 hS hC hW (fun ls hl => ?_) _ hl
                                                refine lv_iinc (v := (nI (k + 1))) (lv' := [(17, .int (nI (k + 1))), (3, .int (nI tm)), (0, .ref b0), (1, .ref b), (2, .ref o), (5, .int (nI n)), (6, .ref qw), (7, .ref qh), (8, .ref qt), (10, .int rd), (12, .int ((rN n me lo c e (rd, tk, g) 1).2.1 - tk)), (13, .int (((hA lo c e g (0, g) k).1) + 0)), (14, .int (nI (ct (zgP n me lo c e rd tk g) (k + 1)))), (15, .int (su (zgP n me lo c e rd tk g) (k + 1))), (16, .int (nI (mo (zgP n me lo c e rd tk g) n (k + 1))))]) hx hb dL_law_1102 hl (k := 14) rfl (nI_1 _) (by decide) rfl (fun ls hl => ?_)
                                                refine lv_goto (tgt := 387) hx hb dL_law_1105 (by decide) ?_
                                                exact ih (k + 1) (by omega) (by omega) _ (rfl) _ (rfl) _ (rfl) _ (rfl) _ (hA_kp (zkp_N hhc)) _ (lv_sub hl [0, 14, 13, 12, 11, 1, 2, 3, 4, 5, 6, 7, 8, 9, 10] rfl)
                                          · exact absurd (by rw [hGf k (k % 2) 2 (by omega) (by omega) (by omega), show k % 2 = 0 by omega]; exact zkp_th (zkp_N hhc) hk (by omega) (by omega)) c791
                                        · have c769 := z_eq (a := k % 2) (b := 1) c769 (by omega) (by omega)
                                          omega
                                    · have c738 := z_eq (a := k % 2) (b := 1) c738 (by omega) (by omega)
                                      omega
                                · have c707 := z_eq (a := k % 2) (b := 1) c707 (by omega) (by omega)
                                  omega
                              · exact absurd (by decide) c603
                            · exact absurd (by rw [hGf k (1 - k % 2) 2 (by omega) (by omega) (by omega), show 1 - k % 2 = 1 by omega]; exact z1_oth hk (by omega) (by omega)) c596
              · exact absurd (by decide) c477
            · exact absurd (by decide) c435
          · exact absurd (by decide) c406
        · have ho9 := zI_hd hI hhc
          refine z_toi (y := (nI o9)) (by rw [hF6, hhc]; rfl) ?_
          refine lv_istore (lv' := [(18, .int (nI o9)), (17, .int (nI k)), (16, .int (nI (mo (zgP n me lo c e rd tk g) n k))), (15, .int (su (zgP n me lo c e rd tk g) k)), (14, .int (nI (ct (zgP n me lo c e rd tk g) k))), (13, .int ((hA lo c e g (0, g) k).1)), (3, .int (nI tm)), (0, .ref b0), (1, .ref b), (2, .ref o), (5, .int (nI n)), (6, .ref qw), (7, .ref qh), (8, .ref qt), (10, .int rd), (12, .int ((rN n me lo c e (rd, tk, g) 1).2.1 - tk))]) hx hb dL_law_402 hl (by decide) rfl (fun ls hl => ?_)
          refine lv_iload hx hb dL_law_404 (lv_at hl 0 rfl) ?_
          refine lv_if_lt (tgt := 430) hx hb dL_law_406 (by decide) (fun c406 => ?_) (fun c406 => ?_)
          · have c406 := z_lt (a := o9) (b := 0) c406 (by omega) (by omega)
            omega
          · have c406 := z_nlt (a := o9) (b := 0) c406 (by omega) (by omega)
            refine lv_aload hx hb dL_law_409 (lv_at hl 11 rfl) ?_
            refine lv_iload hx hb dL_law_411 (lv_at hl 0 rfl) ?_
            refine z_aald (a := qw) (n := n) (f := (zbf n (zR2 qw))) (j := o9) hx hb hK4 hW.1 0 2 rfl rfl rfl rfl (by omega) (by omega) (zbf_in (by omega)) dL_law_413 ?_
            have hr14 : va_P D vwCl (zAr cI (zR2 qw o9) 7 (F o9)) H := hW.2 o9 (by omega)
            refine lv_iconst (v := 0) hx hb dL_law_414 (by decide) ?_
            refine z_iald (a := (zR2 qw o9)) (n := 7) (f := (F o9)) (j := 0) hx hb hK hr14 0 0 rfl rfl rfl (by omega) (by omega) dL_law_415 ?_
            refine z_toi (y := (wd g o9)) (hFf o9 0 (by omega) (by omega)) ?_
            refine lv_aload hx hb dL_law_416 (lv_at hl 11 rfl) ?_
            refine lv_iload hx hb dL_law_418 (lv_at hl 1 rfl) ?_
            refine z_aald (a := qw) (n := n) (f := (zbf n (zR2 qw))) (j := k) hx hb hK4 hW.1 0 2 rfl rfl rfl rfl (by omega) (by omega) (zbf_in (by omega)) dL_law_420 ?_
            refine lv_iconst (v := 0) hx hb dL_law_421 (by decide) ?_
            refine z_iald (a := (zR2 qw k)) (n := 7) (f := (F k)) (j := 0) hx hb hK hr7 0 0 rfl rfl rfl (by omega) (by omega) dL_law_422 ?_
            refine z_toi (y := (wd g k)) (hFf k 0 (by omega) (by omega)) ?_
            refine lv_icmp_ne (tgt := 430) hx hb dL_law_423 (by decide) (fun c423 => ?_) (fun c423 => ?_)
            · refine lv_iconst (v := 0) hx hb dL_law_430 (by decide) ?_
              refine lv_istore (lv' := [(19, .int 0), (18, .int (nI o9)), (17, .int (nI k)), (16, .int (nI (mo (zgP n me lo c e rd tk g) n k))), (15, .int (su (zgP n me lo c e rd tk g) k)), (14, .int (nI (ct (zgP n me lo c e rd tk g) k))), (13, .int ((hA lo c e g (0, g) k).1)), (3, .int (nI tm)), (0, .ref b0), (1, .ref b), (2, .ref o), (5, .int (nI n)), (6, .ref qw), (7, .ref qh), (8, .ref qt), (10, .int rd), (12, .int ((rN n me lo c e (rd, tk, g) 1).2.1 - tk))]) hx hb dL_law_431 hl (by decide) rfl (fun ls hl => ?_)
              refine lv_iload hx hb dL_law_433 (lv_at hl 1 rfl) ?_
              refine lv_if_lt (tgt := 464) hx hb dL_law_435 (by decide) (fun c435 => ?_) (fun c435 => ?_)
              · have c435 := z_lt (a := o9) (b := 0) c435 (by omega) (by omega)
                omega
              · have c435 := z_nlt (a := o9) (b := 0) c435 (by omega) (by omega)
                refine lv_iload hx hb dL_law_438 (lv_at hl 0 rfl) ?_
                refine lv_if_ne (tgt := 464) hx hb dL_law_440 (by decide) (fun c440 => ?_) (fun c440 => ?_)
                · exact absurd (by decide) c440
                · have c440 := z_eq (a := 0) (b := 0) c440 (by omega) (by omega)
                  refine lv_aload hx hb dL_law_443 (lv_at hl 12 rfl) ?_
                  refine lv_iload hx hb dL_law_445 (lv_at hl 2 rfl) ?_
                  refine z_aald (a := qw) (n := n) (f := (zbf n (zR2 qw))) (j := k) hx hb hK4 hW.1 0 2 rfl rfl rfl rfl (by omega) (by omega) (zbf_in (by omega)) dL_law_447 ?_
                  refine lv_iconst (v := 1) hx hb dL_law_448 (by decide) ?_
                  refine z_iald (a := (zR2 qw k)) (n := 7) (f := (F k)) (j := 1) hx hb hK hr7 0 0 rfl rfl rfl (by omega) (by omega) dL_law_449 ?_
                  refine z_toi (y := (g 6 k)) (hFf k 1 (by omega) (by omega)) ?_
                  refine lv_aload hx hb dL_law_450 (lv_at hl 12 rfl) ?_
                  refine lv_iload hx hb dL_law_452 (lv_at hl 1 rfl) ?_
                  refine z_aald (a := qw) (n := n) (f := (zbf n (zR2 qw))) (j := o9) hx hb hK4 hW.1 0 2 rfl rfl rfl rfl (by omega) (by omega) (zbf_in (by omega)) dL_law_454 ?_
                  refine lv_iconst (v := 1) hx hb dL_law_455 (by decide) ?_
                  refine z_iald (a := (zR2 qw o9)) (n := 7) (f := (F o9)) (j := 1) hx hb hK hr14 0 0 rfl rfl rfl (by omega) (by omega) dL_law_456 ?_
                  refine z_toi (y := (g 6 o9)) (hFf o9 1 (by omega) (by omega)) ?_
                  refine lv_icmp_gt (tgt := 464) hx hb dL_law_457 (by decide) (fun c457 => ?_) (fun c457 => ?_)
                  · refine lv_iconst (v := 0) hx hb dL_law_464 (by decide) ?_
                    refine lv_istore (lv' := [(20, .int 0), (19, .int 0), (18, .int (nI o9)), (17, .int (nI k)), (16, .int (nI (mo (zgP n me lo c e rd tk g) n k))), (15, .int (su (zgP n me lo c e rd tk g) k)), (14, .int (nI (ct (zgP n me lo c e rd tk g) k))), (13, .int ((hA lo c e g (0, g) k).1)), (3, .int (nI tm)), (0, .ref b0), (1, .ref b), (2, .ref o), (5, .int (nI n)), (6, .ref qw), (7, .ref qh), (8, .ref qt), (10, .int rd), (12, .int ((rN n me lo c e (rd, tk, g) 1).2.1 - tk))]) hx hb dL_law_465 hl (by decide) rfl (fun ls hl => ?_)
                    refine lv_iload hx hb dL_law_467 (lv_at hl 3 rfl) ?_
                    refine lv_iconst (v := 2) hx hb dL_law_469 (by decide) ?_
                    refine lv_irem hx hb dL_law_470 (by decide) ?_
                    refine z_toi (y := zrem (nI k) 2) rfl ?_
                    refine z_toi (y := nI (k % 2)) (zrem2 k (by omega)) ?_
                    refine lv_istore (lv' := [(21, .int (nI (k % 2))), (20, .int 0), (19, .int 0), (18, .int (nI o9)), (17, .int (nI k)), (16, .int (nI (mo (zgP n me lo c e rd tk g) n k))), (15, .int (su (zgP n me lo c e rd tk g) k)), (14, .int (nI (ct (zgP n me lo c e rd tk g) k))), (13, .int ((hA lo c e g (0, g) k).1)), (3, .int (nI tm)), (0, .ref b0), (1, .ref b), (2, .ref o), (5, .int (nI n)), (6, .ref qw), (7, .ref qh), (8, .ref qt), (10, .int rd), (12, .int ((rN n me lo c e (rd, tk, g) 1).2.1 - tk))]) hx hb dL_law_471 hl (by decide) rfl (fun ls hl => ?_)
                    refine lv_iload hx hb dL_law_473 (lv_at hl 8 rfl) ?_
                    refine lv_iload hx hb dL_law_475 (lv_at hl 1 rfl) ?_
                    refine lv_if_eq (tgt := 484) hx hb dL_law_477 (by decide) (fun c477 => ?_) (fun c477 => ?_)
                    · have c477 := z_eq (a := 0) (b := 0) c477 (by omega) (by omega)
                      refine lv_iconst (v := 0) hx hb dL_law_484 (by decide) ?_
                      refine lv_iadd hx hb dL_law_485 ?_
                      refine lv_istore (lv' := [(13, .int (((hA lo c e g (0, g) k).1) + 0)), (21, .int (nI (k % 2))), (20, .int 0), (19, .int 0), (18, .int (nI o9)), (17, .int (nI k)), (16, .int (nI (mo (zgP n me lo c e rd tk g) n k))), (15, .int (su (zgP n me lo c e rd tk g) k)), (14, .int (nI (ct (zgP n me lo c e rd tk g) k))), (3, .int (nI tm)), (0, .ref b0), (1, .ref b), (2, .ref o), (5, .int (nI n)), (6, .ref qw), (7, .ref qh), (8, .ref qt), (10, .int rd), (12, .int ((rN n me lo c e (rd, tk, g) 1).2.1 - tk))]) hx hb dL_law_486 hl (by decide) rfl (fun ls hl => ?_)
                      refine lv_aload_n hx hb dL_law_488 rfl (lv_at hl 11 rfl) ?_
                      refine lv_iload hx hb dL_law_489 (lv_at hl 5 rfl) ?_
                      refine lv_iconst (v := 0) hx hb dL_law_491 (by decide) ?_
                      refine z_ki (va_runV (As := [.int (nI k), .int 0]) (rest := []) hfix (zcX4_parrot_k l D cI H b n me lo c e ((rN n me lo c e (rd, tk, g) 1).1) ((rN n me lo c e (rd, tk, g) 1).2.1) (zgP n me lo c e rd tk g) k 0 hC hI (by omega) (by omega)) (cwV 2 hts gL_law_X4_parrot rfl rfl rfl (by decide +kernel) ⟨Nat.le_of_ble_eq_true rfl, Nat.le_of_ble_eq_true rfl⟩) (z_preV hK hK1 hC.1 (ci := 4) (q0 := 0) rfl rfl rfl) rfl rfl hl.1 rfl (lv_room (Nat.le_of_ble_eq_true rfl)) dL_law_492 ⟨by show ck + 0 ≤ 830515; omega, by show sk + 0 ≤ 6609922; omega⟩) ?_
                      refine lv_aload hx hb dL_law_495 (lv_at hl 16 rfl) ?_
                      refine lv_iload hx hb dL_law_497 (lv_at hl 5 rfl) ?_
                      refine z_iald (a := qt) (n := n) (f := T) (j := k) hx hb hK hT 0 0 rfl rfl rfl (by omega) (by omega) dL_law_499 ?_
                      refine lv_icmp_ne (tgt := 599) hx hb dL_law_500 (by decide) (fun c500 => ?_) (fun c500 => ?_)
                      · exact absurd (hTf k (by omega)).symm c500
                      · refine lv_aload_n hx hb dL_law_503 rfl (lv_at hl 11 rfl) ?_
                        refine lv_iload hx hb dL_law_504 (lv_at hl 5 rfl) ?_
                        refine lv_iload hx hb dL_law_506 (lv_at hl 1 rfl) ?_
                        refine lv_if_ne (tgt := 515) hx hb dL_law_508 (by decide) (fun c508 => ?_) (fun c508 => ?_)
                        · have c508 := z_ne (a := k % 2) (b := 0) c508 (by omega) (by omega)
                          refine lv_iconst (v := 0) hx hb dL_law_515 (by decide) ?_
                          refine lv_iconst (v := 0) hx hb dL_law_516 (by decide) ?_
                          refine z_ki (va_runV (As := [.int (nI k), .int 0, .int 0]) (rest := []) hfix (zcX4_half_k0 l D cI H b n me lo c e ((rN n me lo c e (rd, tk, g) 1).1) ((rN n me lo c e (rd, tk, g) 1).2.1) (zgP n me lo c e rd tk g) k 0 hC hI (by omega) (by omega)) (cwV 3 hts gL_law_X4_half rfl rfl rfl (by decide +kernel) ⟨Nat.le_of_ble_eq_true rfl, Nat.le_of_ble_eq_true rfl⟩) (z_preV hK hK1 hC.1 (ci := 4) (q0 := 0) rfl rfl rfl) rfl rfl hl.1 rfl (lv_room (Nat.le_of_ble_eq_true rfl)) dL_law_517 ⟨by show ck + 0 ≤ 830515; omega, by show sk + 0 ≤ 6609922; omega⟩) ?_
                          refine lv_aload hx hb dL_law_520 (lv_at hl 15 rfl) ?_
                          refine lv_iload hx hb dL_law_522 (lv_at hl 5 rfl) ?_
                          refine z_aald (a := qh) (n := n) (f := (zbf n (zR3 qh))) (j := k) hx hb hK4 hV3.1 0 3 rfl rfl rfl rfl (by omega) (by omega) (zbf_in (by omega)) dL_law_524 ?_
                          have hr15 : va_P D vwCl (zQr cA (zR3 qh k) 2 (zbf 2 (zR2 (zR3 qh k)))) H := (hV3.2 k (by omega)).1
                          refine lv_iconst (v := 1) hx hb dL_law_525 (by decide) ?_
                          refine lv_iload hx hb dL_law_526 (lv_at hl 1 rfl) ?_
                          refine lv_isub hx hb dL_law_528 ?_
                          refine z_toi (y := nI (1 - k % 2)) (pk_sub (a := 1) (by omega)) ?_
                          refine z_aald (a := (zR3 qh k)) (n := 2) (f := (zbf 2 (zR2 (zR3 qh k)))) (j := (1 - k % 2)) hx hb hK4 hr15 0 2 rfl rfl rfl rfl (by omega) (by omega) (zbf_in (by omega)) dL_law_529 ?_
                          have hr16 : va_P D vwCl (zAr cI (zR2 (zR3 qh k) (1 - k % 2)) 3 (G k (1 - k % 2))) H := (hV3.2 k (by omega)).2 (1 - k % 2) (by omega)
                          refine lv_iconst (v := 0) hx hb dL_law_530 (by decide) ?_
                          refine z_iald (a := (zR2 (zR3 qh k) (1 - k % 2))) (n := 3) (f := (G k (1 - k % 2))) (j := 0) hx hb hK hr16 0 0 rfl rfl rfl (by omega) (by omega) dL_law_531 ?_
                          refine lv_icmp_ne (tgt := 599) hx hb dL_law_532 (by decide) (fun c532 => ?_) (fun c532 => ?_)
                          · exact absurd (by rw [hGf k (1 - k % 2) 0 (by omega) (by omega) (by omega), show 1 - k % 2 = 0 by omega]; exact z1_oth hk (by omega) (by omega)) c532
                          · refine lv_aload_n hx hb dL_law_535 rfl (lv_at hl 11 rfl) ?_
                            refine lv_iload hx hb dL_law_536 (lv_at hl 5 rfl) ?_
                            refine lv_iload hx hb dL_law_538 (lv_at hl 1 rfl) ?_
                            refine lv_if_ne (tgt := 547) hx hb dL_law_540 (by decide) (fun c540 => ?_) (fun c540 => ?_)
                            · have c540 := z_ne (a := k % 2) (b := 0) c540 (by omega) (by omega)
                              refine lv_iconst (v := 0) hx hb dL_law_547 (by decide) ?_
                              refine lv_iconst (v := 1) hx hb dL_law_548 (by decide) ?_
                              refine z_ki (va_runV (As := [.int (nI k), .int 0, .int 1]) (rest := []) hfix (zcX4_half_k0 l D cI H b n me lo c e ((rN n me lo c e (rd, tk, g) 1).1) ((rN n me lo c e (rd, tk, g) 1).2.1) (zgP n me lo c e rd tk g) k 1 hC hI (by omega) (by omega)) (cwV 3 hts gL_law_X4_half rfl rfl rfl (by decide +kernel) ⟨Nat.le_of_ble_eq_true rfl, Nat.le_of_ble_eq_true rfl⟩) (z_preV hK hK1 hC.1 (ci := 4) (q0 := 0) rfl rfl rfl) rfl rfl hl.1 rfl (lv_room (Nat.le_of_ble_eq_true rfl)) dL_law_549 ⟨by show ck + 0 ≤ 830515; omega, by show sk + 0 ≤ 6609922; omega⟩) ?_
                              refine lv_aload hx hb dL_law_552 (lv_at hl 15 rfl) ?_
                              refine lv_iload hx hb dL_law_554 (lv_at hl 5 rfl) ?_
                              refine z_aald (a := qh) (n := n) (f := (zbf n (zR3 qh))) (j := k) hx hb hK4 hV3.1 0 3 rfl rfl rfl rfl (by omega) (by omega) (zbf_in (by omega)) dL_law_556 ?_
                              refine lv_iconst (v := 1) hx hb dL_law_557 (by decide) ?_
                              refine lv_iload hx hb dL_law_558 (lv_at hl 1 rfl) ?_
                              refine lv_isub hx hb dL_law_560 ?_
                              refine z_toi (y := nI (1 - k % 2)) (pk_sub (a := 1) (by omega)) ?_
                              refine z_aald (a := (zR3 qh k)) (n := 2) (f := (zbf 2 (zR2 (zR3 qh k)))) (j := (1 - k % 2)) hx hb hK4 hr15 0 2 rfl rfl rfl rfl (by omega) (by omega) (zbf_in (by omega)) dL_law_561 ?_
                              refine lv_iconst (v := 1) hx hb dL_law_562 (by decide) ?_
                              refine z_iald (a := (zR2 (zR3 qh k) (1 - k % 2))) (n := 3) (f := (G k (1 - k % 2))) (j := 1) hx hb hK hr16 0 0 rfl rfl rfl (by omega) (by omega) dL_law_563 ?_
                              refine lv_icmp_ne (tgt := 599) hx hb dL_law_564 (by decide) (fun c564 => ?_) (fun c564 => ?_)
                              · exact absurd (by rw [hGf k (1 - k % 2) 1 (by omega) (by omega) (by omega), show 1 - k % 2 = 0 by omega]; exact z1_oth hk (by omega) (by omega)) c564
                              · refine lv_aload_n hx hb dL_law_567 rfl (lv_at hl 11 rfl) ?_
                                refine lv_iload hx hb dL_law_568 (lv_at hl 5 rfl) ?_
                                refine lv_iload hx hb dL_law_570 (lv_at hl 1 rfl) ?_
                                refine lv_if_ne (tgt := 579) hx hb dL_law_572 (by decide) (fun c572 => ?_) (fun c572 => ?_)
                                · have c572 := z_ne (a := k % 2) (b := 0) c572 (by omega) (by omega)
                                  refine lv_iconst (v := 0) hx hb dL_law_579 (by decide) ?_
                                  refine lv_iconst (v := 2) hx hb dL_law_580 (by decide) ?_
                                  refine z_ki (va_runV (As := [.int (nI k), .int 0, .int 2]) (rest := []) hfix (zcX4_half_k0 l D cI H b n me lo c e ((rN n me lo c e (rd, tk, g) 1).1) ((rN n me lo c e (rd, tk, g) 1).2.1) (zgP n me lo c e rd tk g) k 2 hC hI (by omega) (by omega)) (cwV 3 hts gL_law_X4_half rfl rfl rfl (by decide +kernel) ⟨Nat.le_of_ble_eq_true rfl, Nat.le_of_ble_eq_true rfl⟩) (z_preV hK hK1 hC.1 (ci := 4) (q0 := 0) rfl rfl rfl) rfl rfl hl.1 rfl (lv_room (Nat.le_of_ble_eq_true rfl)) dL_law_581 ⟨by show ck + 0 ≤ 830515; omega, by show sk + 0 ≤ 6609922; omega⟩) ?_
                                  refine lv_aload hx hb dL_law_584 (lv_at hl 15 rfl) ?_
                                  refine lv_iload hx hb dL_law_586 (lv_at hl 5 rfl) ?_
                                  refine z_aald (a := qh) (n := n) (f := (zbf n (zR3 qh))) (j := k) hx hb hK4 hV3.1 0 3 rfl rfl rfl rfl (by omega) (by omega) (zbf_in (by omega)) dL_law_588 ?_
                                  refine lv_iconst (v := 1) hx hb dL_law_589 (by decide) ?_
                                  refine lv_iload hx hb dL_law_590 (lv_at hl 1 rfl) ?_
                                  refine lv_isub hx hb dL_law_592 ?_
                                  refine z_toi (y := nI (1 - k % 2)) (pk_sub (a := 1) (by omega)) ?_
                                  refine z_aald (a := (zR3 qh k)) (n := 2) (f := (zbf 2 (zR2 (zR3 qh k)))) (j := (1 - k % 2)) hx hb hK4 hr15 0 2 rfl rfl rfl rfl (by omega) (by omega) (zbf_in (by omega)) dL_law_593 ?_
                                  refine lv_iconst (v := 2) hx hb dL_law_594 (by decide) ?_
                                  refine z_iald (a := (zR2 (zR3 qh k) (1 - k % 2))) (n := 3) (f := (G k (1 - k % 2))) (j := 2) hx hb hK hr16 0 0 rfl rfl rfl (by omega) (by omega) dL_law_595 ?_
                                  refine lv_icmp_eq (tgt := 601) hx hb dL_law_596 (by decide) (fun c596 => ?_) (fun c596 => ?_)
                                  · refine lv_iload hx hb dL_law_601 (lv_at hl 2 rfl) ?_
                                    refine lv_if_eq (tgt := 701) hx hb dL_law_603 (by decide) (fun c603 => ?_) (fun c603 => ?_)
                                    · have c603 := z_eq (a := 0) (b := 0) c603 (by omega) (by omega)
                                      refine lv_aload_n hx hb dL_law_701 rfl (lv_at hl 11 rfl) ?_
                                      refine lv_iload hx hb dL_law_702 (lv_at hl 5 rfl) ?_
                                      refine lv_iload hx hb dL_law_704 (lv_at hl 1 rfl) ?_
                                      refine lv_iconst (v := 1) hx hb dL_law_706 (by decide) ?_
                                      refine lv_icmp_ne (tgt := 714) hx hb dL_law_707 (by decide) (fun c707 => ?_) (fun c707 => ?_)
                                      · have c707 := z_ne (a := k % 2) (b := 1) c707 (by omega) (by omega)
                                        omega
                                      · have c707 := z_eq (a := k % 2) (b := 1) c707 (by omega) (by omega)
                                        refine lv_iconst (v := 1) hx hb dL_law_710 (by decide) ?_
                                        refine lv_goto (tgt := 715) hx hb dL_law_711 (by decide) ?_
                                        refine lv_iconst (v := 0) hx hb dL_law_715 (by decide) ?_
                                        refine z_ki (va_runV (As := [.int (nI k), .int 1, .int 0]) (rest := []) hfix (zcX4_half_k1 l D cI H b n me lo c e ((rN n me lo c e (rd, tk, g) 1).1) ((rN n me lo c e (rd, tk, g) 1).2.1) (zgP n me lo c e rd tk g) k 0 hC hI (by omega) (by omega)) (cwV 3 hts gL_law_X4_half rfl rfl rfl (by decide +kernel) ⟨Nat.le_of_ble_eq_true rfl, Nat.le_of_ble_eq_true rfl⟩) (z_preV hK hK1 hC.1 (ci := 4) (q0 := 0) rfl rfl rfl) rfl rfl hl.1 rfl (lv_room (Nat.le_of_ble_eq_true rfl)) dL_law_716 ⟨by show ck + 0 ≤ 830515; omega, by show sk + 0 ≤ 6609922; omega⟩) ?_
                                        refine lv_aload hx hb dL_law_719 (lv_at hl 15 rfl) ?_
                                        refine lv_iload hx hb dL_law_721 (lv_at hl 5 rfl) ?_
                                        refine z_aald (a := qh) (n := n) (f := (zbf n (zR3 qh))) (j := k) hx hb hK4 hV3.1 0 3 rfl rfl rfl rfl (by omega) (by omega) (zbf_in (by omega)) dL_law_723 ?_
                                        refine lv_iload hx hb dL_law_724 (lv_at hl 1 rfl) ?_
                                        refine z_aald (a := (zR3 qh k)) (n := 2) (f := (zbf 2 (zR2 (zR3 qh k)))) (j := (k % 2)) hx hb hK4 hr15 0 2 rfl rfl rfl rfl (by omega) (by omega) (zbf_in (by omega)) dL_law_726 ?_
                                        have hr17 : va_P D vwCl (zAr cI (zR2 (zR3 qh k) (k % 2)) 3 (G k (k % 2))) H := (hV3.2 k (by omega)).2 (k % 2) (by omega)
                                        refine lv_iconst (v := 0) hx hb dL_law_727 (by decide) ?_
                                        refine z_iald (a := (zR2 (zR3 qh k) (k % 2))) (n := 3) (f := (G k (k % 2))) (j := 0) hx hb hK hr17 0 0 rfl rfl rfl (by omega) (by omega) dL_law_728 ?_
                                        refine lv_icmp_ne (tgt := 794) hx hb dL_law_729 (by decide) (fun c729 => ?_) (fun c729 => ?_)
                                        · exact absurd (by rw [hGf k (k % 2) 0 (by omega) (by omega) (by omega), show k % 2 = 1 by omega]; exact zkp_th (zkp_K hhc c423 c457) hk (by omega) (by omega)) c729
                                        · refine lv_aload_n hx hb dL_law_732 rfl (lv_at hl 11 rfl) ?_
                                          refine lv_iload hx hb dL_law_733 (lv_at hl 5 rfl) ?_
                                          refine lv_iload hx hb dL_law_735 (lv_at hl 1 rfl) ?_
                                          refine lv_iconst (v := 1) hx hb dL_law_737 (by decide) ?_
                                          refine lv_icmp_ne (tgt := 745) hx hb dL_law_738 (by decide) (fun c738 => ?_) (fun c738 => ?_)
                                          · have c738 := z_ne (a := k % 2) (b := 1) c738 (by omega) (by omega)
                                            omega
                                          · have c738 := z_eq (a := k % 2) (b := 1) c738 (by omega) (by omega)
                                            refine lv_iconst (v := 1) hx hb dL_law_741 (by decide) ?_
                                            refine lv_goto (tgt := 746) hx hb dL_law_742 (by decide) ?_
                                            refine lv_iconst (v := 1) hx hb dL_law_746 (by decide) ?_
                                            refine z_ki (va_runV (As := [.int (nI k), .int 1, .int 1]) (rest := []) hfix (zcX4_half_k1 l D cI H b n me lo c e ((rN n me lo c e (rd, tk, g) 1).1) ((rN n me lo c e (rd, tk, g) 1).2.1) (zgP n me lo c e rd tk g) k 1 hC hI (by omega) (by omega)) (cwV 3 hts gL_law_X4_half rfl rfl rfl (by decide +kernel) ⟨Nat.le_of_ble_eq_true rfl, Nat.le_of_ble_eq_true rfl⟩) (z_preV hK hK1 hC.1 (ci := 4) (q0 := 0) rfl rfl rfl) rfl rfl hl.1 rfl (lv_room (Nat.le_of_ble_eq_true rfl)) dL_law_747 ⟨by show ck + 0 ≤ 830515; omega, by show sk + 0 ≤ 6609922; omega⟩) ?_
                                            refine lv_aload hx hb dL_law_750 (lv_at hl 15 rfl) ?_
                                            refine lv_iload hx hb dL_law_752 (lv_at hl 5 rfl) ?_
                                            refine z_aald (a := qh) (n := n) (f := (zbf n (zR3 qh))) (j := k) hx hb hK4 hV3.1 0 3 rfl rfl rfl rfl (by omega) (by omega) (zbf_in (by omega)) dL_law_754 ?_
                                            refine lv_iload hx hb dL_law_755 (lv_at hl 1 rfl) ?_
                                            refine z_aald (a := (zR3 qh k)) (n := 2) (f := (zbf 2 (zR2 (zR3 qh k)))) (j := (k % 2)) hx hb hK4 hr15 0 2 rfl rfl rfl rfl (by omega) (by omega) (zbf_in (by omega)) dL_law_757 ?_
                                            refine lv_iconst (v := 1) hx hb dL_law_758 (by decide) ?_
                                            refine z_iald (a := (zR2 (zR3 qh k) (k % 2))) (n := 3) (f := (G k (k % 2))) (j := 1) hx hb hK hr17 0 0 rfl rfl rfl (by omega) (by omega) dL_law_759 ?_
                                            refine lv_icmp_ne (tgt := 794) hx hb dL_law_760 (by decide) (fun c760 => ?_) (fun c760 => ?_)
                                            · exact absurd (by rw [hGf k (k % 2) 1 (by omega) (by omega) (by omega), show k % 2 = 1 by omega]; exact zkp_th (zkp_K hhc c423 c457) hk (by omega) (by omega)) c760
                                            · refine lv_aload_n hx hb dL_law_763 rfl (lv_at hl 11 rfl) ?_
                                              refine lv_iload hx hb dL_law_764 (lv_at hl 5 rfl) ?_
                                              refine lv_iload hx hb dL_law_766 (lv_at hl 1 rfl) ?_
                                              refine lv_iconst (v := 1) hx hb dL_law_768 (by decide) ?_
                                              refine lv_icmp_ne (tgt := 776) hx hb dL_law_769 (by decide) (fun c769 => ?_) (fun c769 => ?_)
                                              · have c769 := z_ne (a := k % 2) (b := 1) c769 (by omega) (by omega)
                                                omega
                                              · have c769 := z_eq (a := k % 2) (b := 1) c769 (by omega) (by omega)
                                                refine lv_iconst (v := 1) hx hb dL_law_772 (by decide) ?_
                                                refine lv_goto (tgt := 777) hx hb dL_law_773 (by decide) ?_
                                                refine lv_iconst (v := 2) hx hb dL_law_777 (by decide) ?_
                                                refine z_ki (va_runV (As := [.int (nI k), .int 1, .int 2]) (rest := []) hfix (zcX4_half_k1 l D cI H b n me lo c e ((rN n me lo c e (rd, tk, g) 1).1) ((rN n me lo c e (rd, tk, g) 1).2.1) (zgP n me lo c e rd tk g) k 2 hC hI (by omega) (by omega)) (cwV 3 hts gL_law_X4_half rfl rfl rfl (by decide +kernel) ⟨Nat.le_of_ble_eq_true rfl, Nat.le_of_ble_eq_true rfl⟩) (z_preV hK hK1 hC.1 (ci := 4) (q0 := 0) rfl rfl rfl) rfl rfl hl.1 rfl (lv_room (Nat.le_of_ble_eq_true rfl)) dL_law_778 ⟨by show ck + 0 ≤ 830515; omega, by show sk + 0 ≤ 6609922; omega⟩) ?_
                                                refine lv_aload hx hb dL_law_781 (lv_at hl 15 rfl) ?_
                                                refine lv_iload hx hb dL_law_783 (lv_at hl 5 rfl) ?_
                                                refine z_aald (a := qh) (n := n) (f := (zbf n (zR3 qh))) (j := k) hx hb hK4 hV3.1 0 3 rfl rfl rfl rfl (by omega) (by omega) (zbf_in (by omega)) dL_law_785 ?_
                                                refine lv_iload hx hb dL_law_786 (lv_at hl 1 rfl) ?_
                                                refine z_aald (a := (zR3 qh k)) (n := 2) (f := (zbf 2 (zR2 (zR3 qh k)))) (j := (k % 2)) hx hb hK4 hr15 0 2 rfl rfl rfl rfl (by omega) (by omega) (zbf_in (by omega)) dL_law_788 ?_
                                                refine lv_iconst (v := 2) hx hb dL_law_789 (by decide) ?_
                                                refine z_iald (a := (zR2 (zR3 qh k) (k % 2))) (n := 3) (f := (G k (k % 2))) (j := 2) hx hb hK hr17 0 0 rfl rfl rfl (by omega) (by omega) dL_law_790 ?_
                                                refine lv_icmp_eq (tgt := 796) hx hb dL_law_791 (by decide) (fun c791 => ?_) (fun c791 => ?_)
                                                · refine lv_iload hx hb dL_law_796 (lv_at hl 4 rfl) ?_
                                                  refine lv_if_ge (tgt := 811) hx hb dL_law_798 (by decide) (fun c798 => ?_) (fun c798 => ?_)
                                                  · have c798 := z_le (a := 0) (b := o9) c798 (by omega) (by omega)
                                                    refine lv_iload hx hb dL_law_811 (lv_at hl 3 rfl) ?_
                                                    refine lv_if_eq (tgt := 833) hx hb dL_law_813 (by decide) (fun c813 => ?_) (fun c813 => ?_)
                                                    · have c813 := z_eq (a := 0) (b := 0) c813 (by omega) (by omega)
                                                      refine lv_iload hx hb dL_law_833 (lv_at hl 2 rfl) ?_
                                                      refine lv_if_eq (tgt := 842) hx hb dL_law_835 (by decide) (fun c835 => ?_) (fun c835 => ?_)
                                                      · have c835 := z_eq (a := 0) (b := 0) c835 (by omega) (by omega)
                                                        refine lv_aload hx hb dL_law_842 (lv_at hl 14 rfl) ?_
                                                        refine lv_iload hx hb dL_law_844 (lv_at hl 5 rfl) ?_
                                                        refine z_aald (a := qw) (n := n) (f := (zbf n (zR2 qw))) (j := k) hx hb hK4 hW.1 0 2 rfl rfl rfl rfl (by omega) (by omega) (zbf_in (by omega)) dL_law_846 ?_
                                                        refine lv_iconst (v := 1) hx hb dL_law_847 (by decide) ?_
                                                        refine z_iald (a := (zR2 qw k)) (n := 7) (f := (F k)) (j := 1) hx hb hK hr7 0 0 rfl rfl rfl (by omega) (by omega) dL_law_848 ?_
                                                        refine z_toi (y := (g 6 k)) (hFf k 1 (by omega) (by omega)) ?_
                                                        refine lv_iconst (v := 1) hx hb dL_law_849 (by decide) ?_
                                                        refine lv_isub hx hb dL_law_850 ?_
                                                        refine lv_istore (lv' := [(22, .int ((g 6 k) - 1)), (13, .int (((hA lo c e g (0, g) k).1) + 0)), (21, .int (nI (k % 2))), (20, .int 0), (19, .int 0), (18, .int (nI o9)), (17, .int (nI k)), (16, .int (nI (mo (zgP n me lo c e rd tk g) n k))), (15, .int (su (zgP n me lo c e rd tk g) k)), (14, .int (nI (ct (zgP n me lo c e rd tk g) k))), (3, .int (nI tm)), (0, .ref b0), (1, .ref b), (2, .ref o), (5, .int (nI n)), (6, .ref qw), (7, .ref qh), (8, .ref qt), (10, .int rd), (12, .int ((rN n me lo c e (rd, tk, g) 1).2.1 - tk))]) hx hb dL_law_851 hl (by decide) rfl (fun ls hl => ?_)
                                                        refine lv_iload hx hb dL_law_853 (lv_at hl 18 rfl) ?_
                                                        refine lv_aload hx hb dL_law_855 (lv_at hl 15 rfl) ?_
                                                        refine lv_iload hx hb dL_law_857 (lv_at hl 6 rfl) ?_
                                                        refine z_aald (a := qw) (n := n) (f := (zbf n (zR2 qw))) (j := k) hx hb hK4 hW.1 0 2 rfl rfl rfl rfl (by omega) (by omega) (zbf_in (by omega)) dL_law_859 ?_
                                                        refine lv_iconst (v := 2) hx hb dL_law_860 (by decide) ?_
                                                        refine z_iald (a := (zR2 qw k)) (n := 7) (f := (F k)) (j := 2) hx hb hK hr7 0 0 rfl rfl rfl (by omega) (by omega) dL_law_861 ?_
                                                        refine z_toi (y := (me k)) (hFf k 2 (by omega) (by omega)) ?_
                                                        refine lv_iconst (v := 1) hx hb dL_law_862 (by decide) ?_
                                                        refine lv_iadd hx hb dL_law_863 ?_
                                                        refine lv_irem hx hb dL_law_864 (zI_span0 hI hk) ?_
                                                        refine z_toi (y := zrem rd ((me k) + 1)) rfl ?_
                                                        refine lv_if_ne (tgt := 878) hx hb dL_law_865 (by decide) (fun c865 => ?_) (fun c865 => ?_)
                                                        · have hl : lv_has ls 25 [(22, .int ((g 6 k) - 1)), (13, .int (((hA lo c e g (0, g) k).1) + 0)), (21, .int (nI (k % 2))), (20, .int 0), (19, .int 0), (18, .int (zo (hd lo e k (c k)))), (17, .int (nI k)), (16, .int (nI (mo (zgP n me lo c e rd tk g) n k))), (15, .int (su (zgP n me lo c e rd tk g) k)), (14, .int (nI (ct (zgP n me lo c e rd tk g) k))), (3, .int (nI tm)), (0, .ref b0), (1, .ref b), (2, .ref o), (5, .int (nI n)), (6, .ref qw), (7, .ref qh), (8, .ref qt), (10, .int rd), (12, .int ((rN n me lo c e (rd, tk, g) 1).2.1 - tk))] := by rw [hhc]; exact hl
                                                          have hl : lv_has ls 25 [(3, .int (nI tm)), (0, .ref b0), (1, .ref b), (2, .ref o), (5, .int (nI n)), (6, .ref qw), (7, .ref qh), (8, .ref qt), (10, .int rd), (12, .int ((rN n me lo c e (rd, tk, g) 1).2.1 - tk)), (13, .int (((hA lo c e g (0, g) k).1) + 0)), (14, .int (nI (ct (zgP n me lo c e rd tk g) k))), (15, .int (su (zgP n me lo c e rd tk g) k)), (16, .int (nI (mo (zgP n me lo c e rd tk g) n k))), (17, .int (nI k)), (18, .int (zo (hd lo e k (c k)))), (22, .int ((g 6 k) - 1))] := lv_sub hl [10, 11, 12, 13, 14, 15, 16, 17, 18, 19, 1, 9, 8, 7, 6, 5, 0] rfl
                                                          refine zlaw_T hfix hK4 hKw hX hb0 hb9 hbs hL hov2 hov3 hcl80 ck sk hck hsk tm htm n me lo c e rd tk g k (((hA lo c e g (0, g) k).1) + 0) ((g 6 k) - 1) qw qh qt F hI hZ hV hN hn0 hZ1 hV1 hk hFf (zsv_n hk (zkp_K hhc c423 c457).2.1 c865) H lo0 hS hC hW (fun ls hl => ?_) _ hl
                                                          refine lv_iinc (v := (nI (k + 1))) (lv' := [(17, .int (nI (k + 1))), (3, .int (nI tm)), (0, .ref b0), (1, .ref b), (2, .ref o), (5, .int (nI n)), (6, .ref qw), (7, .ref qh), (8, .ref qt), (10, .int rd), (12, .int ((rN n me lo c e (rd, tk, g) 1).2.1 - tk)), (13, .int (((hA lo c e g (0, g) k).1) + 0)), (14, .int (nI (ct (zgP n me lo c e rd tk g) (k + 1)))), (15, .int (su (zgP n me lo c e rd tk g) (k + 1))), (16, .int (nI (mo (zgP n me lo c e rd tk g) n (k + 1))))]) hx hb dL_law_1102 hl (k := 14) rfl (nI_1 _) (by decide) rfl (fun ls hl => ?_)
                                                          refine lv_goto (tgt := 387) hx hb dL_law_1105 (by decide) ?_
                                                          exact ih (k + 1) (by omega) (by omega) _ (rfl) _ (rfl) _ (rfl) _ (rfl) _ (hA_kp (zkp_K hhc c423 c457)) _ (lv_sub hl [0, 14, 13, 12, 11, 1, 2, 3, 4, 5, 6, 7, 8, 9, 10] rfl)
                                                        · refine lv_iconst (v := 0) hx hb dL_law_868 (by decide) ?_
                                                          refine lv_iload hx hb dL_law_869 (lv_at hl 0 rfl) ?_
                                                          refine lv_iconst (v := 1) hx hb dL_law_871 (by decide) ?_
                                                          refine lv_isub hx hb dL_law_872 ?_
                                                          refine va_mmax hx hb (by rw [hml]; exact hl.1.symm) hown hwd9 hwd10 hwd7 (hwd11) (Nat.le_of_ble_eq_true rfl) (Nat.le_of_ble_eq_true rfl) (hck) (hsk) dL_law_873 ?_
                                                          refine z_toi (y := zmax 0 (((g 6 k) - 1) - 1)) rfl ?_
                                                          refine lv_istore (lv' := [(22, .int (zmax 0 (((g 6 k) - 1) - 1))), (13, .int (((hA lo c e g (0, g) k).1) + 0)), (21, .int (nI (k % 2))), (20, .int 0), (19, .int 0), (18, .int (nI o9)), (17, .int (nI k)), (16, .int (nI (mo (zgP n me lo c e rd tk g) n k))), (15, .int (su (zgP n me lo c e rd tk g) k)), (14, .int (nI (ct (zgP n me lo c e rd tk g) k))), (3, .int (nI tm)), (0, .ref b0), (1, .ref b), (2, .ref o), (5, .int (nI n)), (6, .ref qw), (7, .ref qh), (8, .ref qt), (10, .int rd), (12, .int ((rN n me lo c e (rd, tk, g) 1).2.1 - tk))]) hx hb dL_law_876 hl (by decide) rfl (fun ls hl => ?_)
                                                          have hl : lv_has ls 25 [(22, .int (zmax 0 (((g 6 k) - 1) - 1))), (13, .int (((hA lo c e g (0, g) k).1) + 0)), (21, .int (nI (k % 2))), (20, .int 0), (19, .int 0), (18, .int (zo (hd lo e k (c k)))), (17, .int (nI k)), (16, .int (nI (mo (zgP n me lo c e rd tk g) n k))), (15, .int (su (zgP n me lo c e rd tk g) k)), (14, .int (nI (ct (zgP n me lo c e rd tk g) k))), (3, .int (nI tm)), (0, .ref b0), (1, .ref b), (2, .ref o), (5, .int (nI n)), (6, .ref qw), (7, .ref qh), (8, .ref qt), (10, .int rd), (12, .int ((rN n me lo c e (rd, tk, g) 1).2.1 - tk))] := by rw [hhc]; exact hl
                                                          have hl : lv_has ls 25 [(3, .int (nI tm)), (0, .ref b0), (1, .ref b), (2, .ref o), (5, .int (nI n)), (6, .ref qw), (7, .ref qh), (8, .ref qt), (10, .int rd), (12, .int ((rN n me lo c e (rd, tk, g) 1).2.1 - tk)), (13, .int (((hA lo c e g (0, g) k).1) + 0)), (14, .int (nI (ct (zgP n me lo c e rd tk g) k))), (15, .int (su (zgP n me lo c e rd tk g) k)), (16, .int (nI (mo (zgP n me lo c e rd tk g) n k))), (17, .int (nI k)), (18, .int (zo (hd lo e k (c k)))), (22, .int (zmax 0 (((g 6 k) - 1) - 1)))] := lv_sub hl [10, 11, 12, 13, 14, 15, 16, 17, 18, 19, 1, 9, 8, 7, 6, 5, 0] rfl
                                                          refine zlaw_T hfix hK4 hKw hX hb0 hb9 hbs hL hov2 hov3 hcl80 ck sk hck hsk tm htm n me lo c e rd tk g k (((hA lo c e g (0, g) k).1) + 0) (zmax 0 (((g 6 k) - 1) - 1)) qw qh qt F hI hZ hV hN hn0 hZ1 hV1 hk hFf (zsv_y hk (zkp_K hhc c423 c457).2.1 c865) H lo0 hS hC hW (fun ls hl => ?_) _ hl
                                                          refine lv_iinc (v := (nI (k + 1))) (lv' := [(17, .int (nI (k + 1))), (3, .int (nI tm)), (0, .ref b0), (1, .ref b), (2, .ref o), (5, .int (nI n)), (6, .ref qw), (7, .ref qh), (8, .ref qt), (10, .int rd), (12, .int ((rN n me lo c e (rd, tk, g) 1).2.1 - tk)), (13, .int (((hA lo c e g (0, g) k).1) + 0)), (14, .int (nI (ct (zgP n me lo c e rd tk g) (k + 1)))), (15, .int (su (zgP n me lo c e rd tk g) (k + 1))), (16, .int (nI (mo (zgP n me lo c e rd tk g) n (k + 1))))]) hx hb dL_law_1102 hl (k := 14) rfl (nI_1 _) (by decide) rfl (fun ls hl => ?_)
                                                          refine lv_goto (tgt := 387) hx hb dL_law_1105 (by decide) ?_
                                                          exact ih (k + 1) (by omega) (by omega) _ (rfl) _ (rfl) _ (rfl) _ (rfl) _ (hA_kp (zkp_K hhc c423 c457)) _ (lv_sub hl [0, 14, 13, 12, 11, 1, 2, 3, 4, 5, 6, 7, 8, 9, 10] rfl)
                                                      · exact absurd (by decide) c835
                                                    · exact absurd (by decide) c813
                                                  · have c798 := z_nle (a := 0) (b := o9) c798 (by omega) (by omega)
                                                    omega
                                                · exact absurd (by rw [hGf k (k % 2) 2 (by omega) (by omega) (by omega), show k % 2 = 1 by omega]; exact zkp_th (zkp_K hhc c423 c457) hk (by omega) (by omega)) c791
                                    · exact absurd (by decide) c603
                                  · exact absurd (by rw [hGf k (1 - k % 2) 2 (by omega) (by omega) (by omega), show 1 - k % 2 = 0 by omega]; exact z1_oth hk (by omega) (by omega)) c596
                                · have c572 := z_eq (a := k % 2) (b := 0) c572 (by omega) (by omega)
                                  exact absurd c572 c508
                            · have c540 := z_eq (a := k % 2) (b := 0) c540 (by omega) (by omega)
                              exact absurd c540 c508
                        · have c508 := z_eq (a := k % 2) (b := 0) c508 (by omega) (by omega)
                          refine lv_iconst (v := 1) hx hb dL_law_511 (by decide) ?_
                          refine lv_goto (tgt := 516) hx hb dL_law_512 (by decide) ?_
                          refine lv_iconst (v := 0) hx hb dL_law_516 (by decide) ?_
                          refine z_ki (va_runV (As := [.int (nI k), .int 1, .int 0]) (rest := []) hfix (zcX4_half_k1 l D cI H b n me lo c e ((rN n me lo c e (rd, tk, g) 1).1) ((rN n me lo c e (rd, tk, g) 1).2.1) (zgP n me lo c e rd tk g) k 0 hC hI (by omega) (by omega)) (cwV 3 hts gL_law_X4_half rfl rfl rfl (by decide +kernel) ⟨Nat.le_of_ble_eq_true rfl, Nat.le_of_ble_eq_true rfl⟩) (z_preV hK hK1 hC.1 (ci := 4) (q0 := 0) rfl rfl rfl) rfl rfl hl.1 rfl (lv_room (Nat.le_of_ble_eq_true rfl)) dL_law_517 ⟨by show ck + 0 ≤ 830515; omega, by show sk + 0 ≤ 6609922; omega⟩) ?_
                          refine lv_aload hx hb dL_law_520 (lv_at hl 15 rfl) ?_
                          refine lv_iload hx hb dL_law_522 (lv_at hl 5 rfl) ?_
                          refine z_aald (a := qh) (n := n) (f := (zbf n (zR3 qh))) (j := k) hx hb hK4 hV3.1 0 3 rfl rfl rfl rfl (by omega) (by omega) (zbf_in (by omega)) dL_law_524 ?_
                          have hr18 : va_P D vwCl (zQr cA (zR3 qh k) 2 (zbf 2 (zR2 (zR3 qh k)))) H := (hV3.2 k (by omega)).1
                          refine lv_iconst (v := 1) hx hb dL_law_525 (by decide) ?_
                          refine lv_iload hx hb dL_law_526 (lv_at hl 1 rfl) ?_
                          refine lv_isub hx hb dL_law_528 ?_
                          refine z_toi (y := nI (1 - k % 2)) (pk_sub (a := 1) (by omega)) ?_
                          refine z_aald (a := (zR3 qh k)) (n := 2) (f := (zbf 2 (zR2 (zR3 qh k)))) (j := (1 - k % 2)) hx hb hK4 hr18 0 2 rfl rfl rfl rfl (by omega) (by omega) (zbf_in (by omega)) dL_law_529 ?_
                          have hr19 : va_P D vwCl (zAr cI (zR2 (zR3 qh k) (1 - k % 2)) 3 (G k (1 - k % 2))) H := (hV3.2 k (by omega)).2 (1 - k % 2) (by omega)
                          refine lv_iconst (v := 0) hx hb dL_law_530 (by decide) ?_
                          refine z_iald (a := (zR2 (zR3 qh k) (1 - k % 2))) (n := 3) (f := (G k (1 - k % 2))) (j := 0) hx hb hK hr19 0 0 rfl rfl rfl (by omega) (by omega) dL_law_531 ?_
                          refine lv_icmp_ne (tgt := 599) hx hb dL_law_532 (by decide) (fun c532 => ?_) (fun c532 => ?_)
                          · exact absurd (by rw [hGf k (1 - k % 2) 0 (by omega) (by omega) (by omega), show 1 - k % 2 = 1 by omega]; exact z1_oth hk (by omega) (by omega)) c532
                          · refine lv_aload_n hx hb dL_law_535 rfl (lv_at hl 11 rfl) ?_
                            refine lv_iload hx hb dL_law_536 (lv_at hl 5 rfl) ?_
                            refine lv_iload hx hb dL_law_538 (lv_at hl 1 rfl) ?_
                            refine lv_if_ne (tgt := 547) hx hb dL_law_540 (by decide) (fun c540 => ?_) (fun c540 => ?_)
                            · have c540 := z_ne (a := k % 2) (b := 0) c540 (by omega) (by omega)
                              exact absurd c508 c540
                            · have c540 := z_eq (a := k % 2) (b := 0) c540 (by omega) (by omega)
                              refine lv_iconst (v := 1) hx hb dL_law_543 (by decide) ?_
                              refine lv_goto (tgt := 548) hx hb dL_law_544 (by decide) ?_
                              refine lv_iconst (v := 1) hx hb dL_law_548 (by decide) ?_
                              refine z_ki (va_runV (As := [.int (nI k), .int 1, .int 1]) (rest := []) hfix (zcX4_half_k1 l D cI H b n me lo c e ((rN n me lo c e (rd, tk, g) 1).1) ((rN n me lo c e (rd, tk, g) 1).2.1) (zgP n me lo c e rd tk g) k 1 hC hI (by omega) (by omega)) (cwV 3 hts gL_law_X4_half rfl rfl rfl (by decide +kernel) ⟨Nat.le_of_ble_eq_true rfl, Nat.le_of_ble_eq_true rfl⟩) (z_preV hK hK1 hC.1 (ci := 4) (q0 := 0) rfl rfl rfl) rfl rfl hl.1 rfl (lv_room (Nat.le_of_ble_eq_true rfl)) dL_law_549 ⟨by show ck + 0 ≤ 830515; omega, by show sk + 0 ≤ 6609922; omega⟩) ?_
                              refine lv_aload hx hb dL_law_552 (lv_at hl 15 rfl) ?_
                              refine lv_iload hx hb dL_law_554 (lv_at hl 5 rfl) ?_
                              refine z_aald (a := qh) (n := n) (f := (zbf n (zR3 qh))) (j := k) hx hb hK4 hV3.1 0 3 rfl rfl rfl rfl (by omega) (by omega) (zbf_in (by omega)) dL_law_556 ?_
                              refine lv_iconst (v := 1) hx hb dL_law_557 (by decide) ?_
                              refine lv_iload hx hb dL_law_558 (lv_at hl 1 rfl) ?_
                              refine lv_isub hx hb dL_law_560 ?_
                              refine z_toi (y := nI (1 - k % 2)) (pk_sub (a := 1) (by omega)) ?_
                              refine z_aald (a := (zR3 qh k)) (n := 2) (f := (zbf 2 (zR2 (zR3 qh k)))) (j := (1 - k % 2)) hx hb hK4 hr18 0 2 rfl rfl rfl rfl (by omega) (by omega) (zbf_in (by omega)) dL_law_561 ?_
                              refine lv_iconst (v := 1) hx hb dL_law_562 (by decide) ?_
                              refine z_iald (a := (zR2 (zR3 qh k) (1 - k % 2))) (n := 3) (f := (G k (1 - k % 2))) (j := 1) hx hb hK hr19 0 0 rfl rfl rfl (by omega) (by omega) dL_law_563 ?_
                              refine lv_icmp_ne (tgt := 599) hx hb dL_law_564 (by decide) (fun c564 => ?_) (fun c564 => ?_)
                              · exact absurd (by rw [hGf k (1 - k % 2) 1 (by omega) (by omega) (by omega), show 1 - k % 2 = 1 by omega]; exact z1_oth hk (by omega) (by omega)) c564
                              · refine lv_aload_n hx hb dL_law_567 rfl (lv_at hl 11 rfl) ?_
                                refine lv_iload hx hb dL_law_568 (lv_at hl 5 rfl) ?_
                                refine lv_iload hx hb dL_law_570 (lv_at hl 1 rfl) ?_
                                refine lv_if_ne (tgt := 579) hx hb dL_law_572 (by decide) (fun c572 => ?_) (fun c572 => ?_)
                                · have c572 := z_ne (a := k % 2) (b := 0) c572 (by omega) (by omega)
                                  exact absurd c508 c572
                                · have c572 := z_eq (a := k % 2) (b := 0) c572 (by omega) (by omega)
                                  refine lv_iconst (v := 1) hx hb dL_law_575 (by decide) ?_
                                  refine lv_goto (tgt := 580) hx hb dL_law_576 (by decide) ?_
                                  refine lv_iconst (v := 2) hx hb dL_law_580 (by decide) ?_
                                  refine z_ki (va_runV (As := [.int (nI k), .int 1, .int 2]) (rest := []) hfix (zcX4_half_k1 l D cI H b n me lo c e ((rN n me lo c e (rd, tk, g) 1).1) ((rN n me lo c e (rd, tk, g) 1).2.1) (zgP n me lo c e rd tk g) k 2 hC hI (by omega) (by omega)) (cwV 3 hts gL_law_X4_half rfl rfl rfl (by decide +kernel) ⟨Nat.le_of_ble_eq_true rfl, Nat.le_of_ble_eq_true rfl⟩) (z_preV hK hK1 hC.1 (ci := 4) (q0 := 0) rfl rfl rfl) rfl rfl hl.1 rfl (lv_room (Nat.le_of_ble_eq_true rfl)) dL_law_581 ⟨by show ck + 0 ≤ 830515; omega, by show sk + 0 ≤ 6609922; omega⟩) ?_
                                  refine lv_aload hx hb dL_law_584 (lv_at hl 15 rfl) ?_
                                  refine lv_iload hx hb dL_law_586 (lv_at hl 5 rfl) ?_
                                  refine z_aald (a := qh) (n := n) (f := (zbf n (zR3 qh))) (j := k) hx hb hK4 hV3.1 0 3 rfl rfl rfl rfl (by omega) (by omega) (zbf_in (by omega)) dL_law_588 ?_
                                  refine lv_iconst (v := 1) hx hb dL_law_589 (by decide) ?_
                                  refine lv_iload hx hb dL_law_590 (lv_at hl 1 rfl) ?_
                                  refine lv_isub hx hb dL_law_592 ?_
                                  refine z_toi (y := nI (1 - k % 2)) (pk_sub (a := 1) (by omega)) ?_
                                  refine z_aald (a := (zR3 qh k)) (n := 2) (f := (zbf 2 (zR2 (zR3 qh k)))) (j := (1 - k % 2)) hx hb hK4 hr18 0 2 rfl rfl rfl rfl (by omega) (by omega) (zbf_in (by omega)) dL_law_593 ?_
                                  refine lv_iconst (v := 2) hx hb dL_law_594 (by decide) ?_
                                  refine z_iald (a := (zR2 (zR3 qh k) (1 - k % 2))) (n := 3) (f := (G k (1 - k % 2))) (j := 2) hx hb hK hr19 0 0 rfl rfl rfl (by omega) (by omega) dL_law_595 ?_
                                  refine lv_icmp_eq (tgt := 601) hx hb dL_law_596 (by decide) (fun c596 => ?_) (fun c596 => ?_)
                                  · refine lv_iload hx hb dL_law_601 (lv_at hl 2 rfl) ?_
                                    refine lv_if_eq (tgt := 701) hx hb dL_law_603 (by decide) (fun c603 => ?_) (fun c603 => ?_)
                                    · have c603 := z_eq (a := 0) (b := 0) c603 (by omega) (by omega)
                                      refine lv_aload_n hx hb dL_law_701 rfl (lv_at hl 11 rfl) ?_
                                      refine lv_iload hx hb dL_law_702 (lv_at hl 5 rfl) ?_
                                      refine lv_iload hx hb dL_law_704 (lv_at hl 1 rfl) ?_
                                      refine lv_iconst (v := 1) hx hb dL_law_706 (by decide) ?_
                                      refine lv_icmp_ne (tgt := 714) hx hb dL_law_707 (by decide) (fun c707 => ?_) (fun c707 => ?_)
                                      · have c707 := z_ne (a := k % 2) (b := 1) c707 (by omega) (by omega)
                                        refine lv_iconst (v := 0) hx hb dL_law_714 (by decide) ?_
                                        refine lv_iconst (v := 0) hx hb dL_law_715 (by decide) ?_
                                        refine z_ki (va_runV (As := [.int (nI k), .int 0, .int 0]) (rest := []) hfix (zcX4_half_k0 l D cI H b n me lo c e ((rN n me lo c e (rd, tk, g) 1).1) ((rN n me lo c e (rd, tk, g) 1).2.1) (zgP n me lo c e rd tk g) k 0 hC hI (by omega) (by omega)) (cwV 3 hts gL_law_X4_half rfl rfl rfl (by decide +kernel) ⟨Nat.le_of_ble_eq_true rfl, Nat.le_of_ble_eq_true rfl⟩) (z_preV hK hK1 hC.1 (ci := 4) (q0 := 0) rfl rfl rfl) rfl rfl hl.1 rfl (lv_room (Nat.le_of_ble_eq_true rfl)) dL_law_716 ⟨by show ck + 0 ≤ 830515; omega, by show sk + 0 ≤ 6609922; omega⟩) ?_
                                        refine lv_aload hx hb dL_law_719 (lv_at hl 15 rfl) ?_
                                        refine lv_iload hx hb dL_law_721 (lv_at hl 5 rfl) ?_
                                        refine z_aald (a := qh) (n := n) (f := (zbf n (zR3 qh))) (j := k) hx hb hK4 hV3.1 0 3 rfl rfl rfl rfl (by omega) (by omega) (zbf_in (by omega)) dL_law_723 ?_
                                        refine lv_iload hx hb dL_law_724 (lv_at hl 1 rfl) ?_
                                        refine z_aald (a := (zR3 qh k)) (n := 2) (f := (zbf 2 (zR2 (zR3 qh k)))) (j := (k % 2)) hx hb hK4 hr18 0 2 rfl rfl rfl rfl (by omega) (by omega) (zbf_in (by omega)) dL_law_726 ?_
                                        have hr20 : va_P D vwCl (zAr cI (zR2 (zR3 qh k) (k % 2)) 3 (G k (k % 2))) H := (hV3.2 k (by omega)).2 (k % 2) (by omega)
                                        refine lv_iconst (v := 0) hx hb dL_law_727 (by decide) ?_
                                        refine z_iald (a := (zR2 (zR3 qh k) (k % 2))) (n := 3) (f := (G k (k % 2))) (j := 0) hx hb hK hr20 0 0 rfl rfl rfl (by omega) (by omega) dL_law_728 ?_
                                        refine lv_icmp_ne (tgt := 794) hx hb dL_law_729 (by decide) (fun c729 => ?_) (fun c729 => ?_)
                                        · exact absurd (by rw [hGf k (k % 2) 0 (by omega) (by omega) (by omega), show k % 2 = 0 by omega]; exact zkp_th (zkp_K hhc c423 c457) hk (by omega) (by omega)) c729
                                        · refine lv_aload_n hx hb dL_law_732 rfl (lv_at hl 11 rfl) ?_
                                          refine lv_iload hx hb dL_law_733 (lv_at hl 5 rfl) ?_
                                          refine lv_iload hx hb dL_law_735 (lv_at hl 1 rfl) ?_
                                          refine lv_iconst (v := 1) hx hb dL_law_737 (by decide) ?_
                                          refine lv_icmp_ne (tgt := 745) hx hb dL_law_738 (by decide) (fun c738 => ?_) (fun c738 => ?_)
                                          · have c738 := z_ne (a := k % 2) (b := 1) c738 (by omega) (by omega)
                                            refine lv_iconst (v := 0) hx hb dL_law_745 (by decide) ?_
                                            refine lv_iconst (v := 1) hx hb dL_law_746 (by decide) ?_
                                            refine z_ki (va_runV (As := [.int (nI k), .int 0, .int 1]) (rest := []) hfix (zcX4_half_k0 l D cI H b n me lo c e ((rN n me lo c e (rd, tk, g) 1).1) ((rN n me lo c e (rd, tk, g) 1).2.1) (zgP n me lo c e rd tk g) k 1 hC hI (by omega) (by omega)) (cwV 3 hts gL_law_X4_half rfl rfl rfl (by decide +kernel) ⟨Nat.le_of_ble_eq_true rfl, Nat.le_of_ble_eq_true rfl⟩) (z_preV hK hK1 hC.1 (ci := 4) (q0 := 0) rfl rfl rfl) rfl rfl hl.1 rfl (lv_room (Nat.le_of_ble_eq_true rfl)) dL_law_747 ⟨by show ck + 0 ≤ 830515; omega, by show sk + 0 ≤ 6609922; omega⟩) ?_
                                            refine lv_aload hx hb dL_law_750 (lv_at hl 15 rfl) ?_
                                            refine lv_iload hx hb dL_law_752 (lv_at hl 5 rfl) ?_
                                            refine z_aald (a := qh) (n := n) (f := (zbf n (zR3 qh))) (j := k) hx hb hK4 hV3.1 0 3 rfl rfl rfl rfl (by omega) (by omega) (zbf_in (by omega)) dL_law_754 ?_
                                            refine lv_iload hx hb dL_law_755 (lv_at hl 1 rfl) ?_
                                            refine z_aald (a := (zR3 qh k)) (n := 2) (f := (zbf 2 (zR2 (zR3 qh k)))) (j := (k % 2)) hx hb hK4 hr18 0 2 rfl rfl rfl rfl (by omega) (by omega) (zbf_in (by omega)) dL_law_757 ?_
                                            refine lv_iconst (v := 1) hx hb dL_law_758 (by decide) ?_
                                            refine z_iald (a := (zR2 (zR3 qh k) (k % 2))) (n := 3) (f := (G k (k % 2))) (j := 1) hx hb hK hr20 0 0 rfl rfl rfl (by omega) (by omega) dL_law_759 ?_
                                            refine lv_icmp_ne (tgt := 794) hx hb dL_law_760 (by decide) (fun c760 => ?_) (fun c760 => ?_)
                                            · exact absurd (by rw [hGf k (k % 2) 1 (by omega) (by omega) (by omega), show k % 2 = 0 by omega]; exact zkp_th (zkp_K hhc c423 c457) hk (by omega) (by omega)) c760
                                            · refine lv_aload_n hx hb dL_law_763 rfl (lv_at hl 11 rfl) ?_
                                              refine lv_iload hx hb dL_law_764 (lv_at hl 5 rfl) ?_
                                              refine lv_iload hx hb dL_law_766 (lv_at hl 1 rfl) ?_
                                              refine lv_iconst (v := 1) hx hb dL_law_768 (by decide) ?_
                                              refine lv_icmp_ne (tgt := 776) hx hb dL_law_769 (by decide) (fun c769 => ?_) (fun c769 => ?_)
                                              · have c769 := z_ne (a := k % 2) (b := 1) c769 (by omega) (by omega)
                                                refine lv_iconst (v := 0) hx hb dL_law_776 (by decide) ?_
                                                refine lv_iconst (v := 2) hx hb dL_law_777 (by decide) ?_
                                                refine z_ki (va_runV (As := [.int (nI k), .int 0, .int 2]) (rest := []) hfix (zcX4_half_k0 l D cI H b n me lo c e ((rN n me lo c e (rd, tk, g) 1).1) ((rN n me lo c e (rd, tk, g) 1).2.1) (zgP n me lo c e rd tk g) k 2 hC hI (by omega) (by omega)) (cwV 3 hts gL_law_X4_half rfl rfl rfl (by decide +kernel) ⟨Nat.le_of_ble_eq_true rfl, Nat.le_of_ble_eq_true rfl⟩) (z_preV hK hK1 hC.1 (ci := 4) (q0 := 0) rfl rfl rfl) rfl rfl hl.1 rfl (lv_room (Nat.le_of_ble_eq_true rfl)) dL_law_778 ⟨by show ck + 0 ≤ 830515; omega, by show sk + 0 ≤ 6609922; omega⟩) ?_
                                                refine lv_aload hx hb dL_law_781 (lv_at hl 15 rfl) ?_
                                                refine lv_iload hx hb dL_law_783 (lv_at hl 5 rfl) ?_
                                                refine z_aald (a := qh) (n := n) (f := (zbf n (zR3 qh))) (j := k) hx hb hK4 hV3.1 0 3 rfl rfl rfl rfl (by omega) (by omega) (zbf_in (by omega)) dL_law_785 ?_
                                                refine lv_iload hx hb dL_law_786 (lv_at hl 1 rfl) ?_
                                                refine z_aald (a := (zR3 qh k)) (n := 2) (f := (zbf 2 (zR2 (zR3 qh k)))) (j := (k % 2)) hx hb hK4 hr18 0 2 rfl rfl rfl rfl (by omega) (by omega) (zbf_in (by omega)) dL_law_788 ?_
                                                refine lv_iconst (v := 2) hx hb dL_law_789 (by decide) ?_
                                                refine z_iald (a := (zR2 (zR3 qh k) (k % 2))) (n := 3) (f := (G k (k % 2))) (j := 2) hx hb hK hr20 0 0 rfl rfl rfl (by omega) (by omega) dL_law_790 ?_
                                                refine lv_icmp_eq (tgt := 796) hx hb dL_law_791 (by decide) (fun c791 => ?_) (fun c791 => ?_)
                                                · refine lv_iload hx hb dL_law_796 (lv_at hl 4 rfl) ?_
                                                  refine lv_if_ge (tgt := 811) hx hb dL_law_798 (by decide) (fun c798 => ?_) (fun c798 => ?_)
                                                  · have c798 := z_le (a := 0) (b := o9) c798 (by omega) (by omega)
                                                    refine lv_iload hx hb dL_law_811 (lv_at hl 3 rfl) ?_
                                                    refine lv_if_eq (tgt := 833) hx hb dL_law_813 (by decide) (fun c813 => ?_) (fun c813 => ?_)
                                                    · have c813 := z_eq (a := 0) (b := 0) c813 (by omega) (by omega)
                                                      refine lv_iload hx hb dL_law_833 (lv_at hl 2 rfl) ?_
                                                      refine lv_if_eq (tgt := 842) hx hb dL_law_835 (by decide) (fun c835 => ?_) (fun c835 => ?_)
                                                      · have c835 := z_eq (a := 0) (b := 0) c835 (by omega) (by omega)
                                                        refine lv_aload hx hb dL_law_842 (lv_at hl 14 rfl) ?_
                                                        refine lv_iload hx hb dL_law_844 (lv_at hl 5 rfl) ?_
                                                        refine z_aald (a := qw) (n := n) (f := (zbf n (zR2 qw))) (j := k) hx hb hK4 hW.1 0 2 rfl rfl rfl rfl (by omega) (by omega) (zbf_in (by omega)) dL_law_846 ?_
                                                        refine lv_iconst (v := 1) hx hb dL_law_847 (by decide) ?_
                                                        refine z_iald (a := (zR2 qw k)) (n := 7) (f := (F k)) (j := 1) hx hb hK hr7 0 0 rfl rfl rfl (by omega) (by omega) dL_law_848 ?_
                                                        refine z_toi (y := (g 6 k)) (hFf k 1 (by omega) (by omega)) ?_
                                                        refine lv_iconst (v := 1) hx hb dL_law_849 (by decide) ?_
                                                        refine lv_isub hx hb dL_law_850 ?_
                                                        refine lv_istore (lv' := [(22, .int ((g 6 k) - 1)), (13, .int (((hA lo c e g (0, g) k).1) + 0)), (21, .int (nI (k % 2))), (20, .int 0), (19, .int 0), (18, .int (nI o9)), (17, .int (nI k)), (16, .int (nI (mo (zgP n me lo c e rd tk g) n k))), (15, .int (su (zgP n me lo c e rd tk g) k)), (14, .int (nI (ct (zgP n me lo c e rd tk g) k))), (3, .int (nI tm)), (0, .ref b0), (1, .ref b), (2, .ref o), (5, .int (nI n)), (6, .ref qw), (7, .ref qh), (8, .ref qt), (10, .int rd), (12, .int ((rN n me lo c e (rd, tk, g) 1).2.1 - tk))]) hx hb dL_law_851 hl (by decide) rfl (fun ls hl => ?_)
                                                        refine lv_iload hx hb dL_law_853 (lv_at hl 18 rfl) ?_
                                                        refine lv_aload hx hb dL_law_855 (lv_at hl 15 rfl) ?_
                                                        refine lv_iload hx hb dL_law_857 (lv_at hl 6 rfl) ?_
                                                        refine z_aald (a := qw) (n := n) (f := (zbf n (zR2 qw))) (j := k) hx hb hK4 hW.1 0 2 rfl rfl rfl rfl (by omega) (by omega) (zbf_in (by omega)) dL_law_859 ?_
                                                        refine lv_iconst (v := 2) hx hb dL_law_860 (by decide) ?_
                                                        refine z_iald (a := (zR2 qw k)) (n := 7) (f := (F k)) (j := 2) hx hb hK hr7 0 0 rfl rfl rfl (by omega) (by omega) dL_law_861 ?_
                                                        refine z_toi (y := (me k)) (hFf k 2 (by omega) (by omega)) ?_
                                                        refine lv_iconst (v := 1) hx hb dL_law_862 (by decide) ?_
                                                        refine lv_iadd hx hb dL_law_863 ?_
                                                        refine lv_irem hx hb dL_law_864 (zI_span0 hI hk) ?_
                                                        refine z_toi (y := zrem rd ((me k) + 1)) rfl ?_
                                                        refine lv_if_ne (tgt := 878) hx hb dL_law_865 (by decide) (fun c865 => ?_) (fun c865 => ?_)
                                                        · have hl : lv_has ls 25 [(22, .int ((g 6 k) - 1)), (13, .int (((hA lo c e g (0, g) k).1) + 0)), (21, .int (nI (k % 2))), (20, .int 0), (19, .int 0), (18, .int (zo (hd lo e k (c k)))), (17, .int (nI k)), (16, .int (nI (mo (zgP n me lo c e rd tk g) n k))), (15, .int (su (zgP n me lo c e rd tk g) k)), (14, .int (nI (ct (zgP n me lo c e rd tk g) k))), (3, .int (nI tm)), (0, .ref b0), (1, .ref b), (2, .ref o), (5, .int (nI n)), (6, .ref qw), (7, .ref qh), (8, .ref qt), (10, .int rd), (12, .int ((rN n me lo c e (rd, tk, g) 1).2.1 - tk))] := by rw [hhc]; exact hl
                                                          have hl : lv_has ls 25 [(3, .int (nI tm)), (0, .ref b0), (1, .ref b), (2, .ref o), (5, .int (nI n)), (6, .ref qw), (7, .ref qh), (8, .ref qt), (10, .int rd), (12, .int ((rN n me lo c e (rd, tk, g) 1).2.1 - tk)), (13, .int (((hA lo c e g (0, g) k).1) + 0)), (14, .int (nI (ct (zgP n me lo c e rd tk g) k))), (15, .int (su (zgP n me lo c e rd tk g) k)), (16, .int (nI (mo (zgP n me lo c e rd tk g) n k))), (17, .int (nI k)), (18, .int (zo (hd lo e k (c k)))), (22, .int ((g 6 k) - 1))] := lv_sub hl [10, 11, 12, 13, 14, 15, 16, 17, 18, 19, 1, 9, 8, 7, 6, 5, 0] rfl
                                                          refine zlaw_T hfix hK4 hKw hX hb0 hb9 hbs hL hov2 hov3 hcl80 ck sk hck hsk tm htm n me lo c e rd tk g k (((hA lo c e g (0, g) k).1) + 0) ((g 6 k) - 1) qw qh qt F hI hZ hV hN hn0 hZ1 hV1 hk hFf (zsv_n hk (zkp_K hhc c423 c457).2.1 c865) H lo0 hS hC hW (fun ls hl => ?_) _ hl
                                                          refine lv_iinc (v := (nI (k + 1))) (lv' := [(17, .int (nI (k + 1))), (3, .int (nI tm)), (0, .ref b0), (1, .ref b), (2, .ref o), (5, .int (nI n)), (6, .ref qw), (7, .ref qh), (8, .ref qt), (10, .int rd), (12, .int ((rN n me lo c e (rd, tk, g) 1).2.1 - tk)), (13, .int (((hA lo c e g (0, g) k).1) + 0)), (14, .int (nI (ct (zgP n me lo c e rd tk g) (k + 1)))), (15, .int (su (zgP n me lo c e rd tk g) (k + 1))), (16, .int (nI (mo (zgP n me lo c e rd tk g) n (k + 1))))]) hx hb dL_law_1102 hl (k := 14) rfl (nI_1 _) (by decide) rfl (fun ls hl => ?_)
                                                          refine lv_goto (tgt := 387) hx hb dL_law_1105 (by decide) ?_
                                                          exact ih (k + 1) (by omega) (by omega) _ (rfl) _ (rfl) _ (rfl) _ (rfl) _ (hA_kp (zkp_K hhc c423 c457)) _ (lv_sub hl [0, 14, 13, 12, 11, 1, 2, 3, 4, 5, 6, 7, 8, 9, 10] rfl)
                                                        · refine lv_iconst (v := 0) hx hb dL_law_868 (by decide) ?_
                                                          refine lv_iload hx hb dL_law_869 (lv_at hl 0 rfl) ?_
                                                          refine lv_iconst (v := 1) hx hb dL_law_871 (by decide) ?_
                                                          refine lv_isub hx hb dL_law_872 ?_
                                                          refine va_mmax hx hb (by rw [hml]; exact hl.1.symm) hown hwd9 hwd10 hwd7 (hwd11) (Nat.le_of_ble_eq_true rfl) (Nat.le_of_ble_eq_true rfl) (hck) (hsk) dL_law_873 ?_
                                                          refine z_toi (y := zmax 0 (((g 6 k) - 1) - 1)) rfl ?_
                                                          refine lv_istore (lv' := [(22, .int (zmax 0 (((g 6 k) - 1) - 1))), (13, .int (((hA lo c e g (0, g) k).1) + 0)), (21, .int (nI (k % 2))), (20, .int 0), (19, .int 0), (18, .int (nI o9)), (17, .int (nI k)), (16, .int (nI (mo (zgP n me lo c e rd tk g) n k))), (15, .int (su (zgP n me lo c e rd tk g) k)), (14, .int (nI (ct (zgP n me lo c e rd tk g) k))), (3, .int (nI tm)), (0, .ref b0), (1, .ref b), (2, .ref o), (5, .int (nI n)), (6, .ref qw), (7, .ref qh), (8, .ref qt), (10, .int rd), (12, .int ((rN n me lo c e (rd, tk, g) 1).2.1 - tk))]) hx hb dL_law_876 hl (by decide) rfl (fun ls hl => ?_)
                                                          have hl : lv_has ls 25 [(22, .int (zmax 0 (((g 6 k) - 1) - 1))), (13, .int (((hA lo c e g (0, g) k).1) + 0)), (21, .int (nI (k % 2))), (20, .int 0), (19, .int 0), (18, .int (zo (hd lo e k (c k)))), (17, .int (nI k)), (16, .int (nI (mo (zgP n me lo c e rd tk g) n k))), (15, .int (su (zgP n me lo c e rd tk g) k)), (14, .int (nI (ct (zgP n me lo c e rd tk g) k))), (3, .int (nI tm)), (0, .ref b0), (1, .ref b), (2, .ref o), (5, .int (nI n)), (6, .ref qw), (7, .ref qh), (8, .ref qt), (10, .int rd), (12, .int ((rN n me lo c e (rd, tk, g) 1).2.1 - tk))] := by rw [hhc]; exact hl
                                                          have hl : lv_has ls 25 [(3, .int (nI tm)), (0, .ref b0), (1, .ref b), (2, .ref o), (5, .int (nI n)), (6, .ref qw), (7, .ref qh), (8, .ref qt), (10, .int rd), (12, .int ((rN n me lo c e (rd, tk, g) 1).2.1 - tk)), (13, .int (((hA lo c e g (0, g) k).1) + 0)), (14, .int (nI (ct (zgP n me lo c e rd tk g) k))), (15, .int (su (zgP n me lo c e rd tk g) k)), (16, .int (nI (mo (zgP n me lo c e rd tk g) n k))), (17, .int (nI k)), (18, .int (zo (hd lo e k (c k)))), (22, .int (zmax 0 (((g 6 k) - 1) - 1)))] := lv_sub hl [10, 11, 12, 13, 14, 15, 16, 17, 18, 19, 1, 9, 8, 7, 6, 5, 0] rfl
                                                          refine zlaw_T hfix hK4 hKw hX hb0 hb9 hbs hL hov2 hov3 hcl80 ck sk hck hsk tm htm n me lo c e rd tk g k (((hA lo c e g (0, g) k).1) + 0) (zmax 0 (((g 6 k) - 1) - 1)) qw qh qt F hI hZ hV hN hn0 hZ1 hV1 hk hFf (zsv_y hk (zkp_K hhc c423 c457).2.1 c865) H lo0 hS hC hW (fun ls hl => ?_) _ hl
                                                          refine lv_iinc (v := (nI (k + 1))) (lv' := [(17, .int (nI (k + 1))), (3, .int (nI tm)), (0, .ref b0), (1, .ref b), (2, .ref o), (5, .int (nI n)), (6, .ref qw), (7, .ref qh), (8, .ref qt), (10, .int rd), (12, .int ((rN n me lo c e (rd, tk, g) 1).2.1 - tk)), (13, .int (((hA lo c e g (0, g) k).1) + 0)), (14, .int (nI (ct (zgP n me lo c e rd tk g) (k + 1)))), (15, .int (su (zgP n me lo c e rd tk g) (k + 1))), (16, .int (nI (mo (zgP n me lo c e rd tk g) n (k + 1))))]) hx hb dL_law_1102 hl (k := 14) rfl (nI_1 _) (by decide) rfl (fun ls hl => ?_)
                                                          refine lv_goto (tgt := 387) hx hb dL_law_1105 (by decide) ?_
                                                          exact ih (k + 1) (by omega) (by omega) _ (rfl) _ (rfl) _ (rfl) _ (rfl) _ (hA_kp (zkp_K hhc c423 c457)) _ (lv_sub hl [0, 14, 13, 12, 11, 1, 2, 3, 4, 5, 6, 7, 8, 9, 10] rfl)
                                                      · exact absurd (by decide) c835
                                                    · exact absurd (by decide) c813
                                                  · have c798 := z_nle (a := 0) (b := o9) c798 (by omega) (by omega)
                                                    omega
                                                · exact absurd (by rw [hGf k (k % 2) 2 (by omega) (by omega) (by omega), show k % 2 = 0 by omega]; exact zkp_th (zkp_K hhc c423 c457) hk (by omega) (by omega)) c791
                                              · have c769 := z_eq (a := k % 2) (b := 1) c769 (by omega) (by omega)
                                                omega
                                          · have c738 := z_eq (a := k % 2) (b := 1) c738 (by omega) (by omega)
                                            omega
                                      · have c707 := z_eq (a := k % 2) (b := 1) c707 (by omega) (by omega)
                                        omega
                                    · exact absurd (by decide) c603
                                  · exact absurd (by rw [hGf k (1 - k % 2) 2 (by omega) (by omega) (by omega), show 1 - k % 2 = 1 by omega]; exact z1_oth hk (by omega) (by omega)) c596
                    · exact absurd (by decide) c477
                  · refine lv_iconst (v := 1) hx hb dL_law_460 (by decide) ?_
                    refine lv_goto (tgt := 465) hx hb dL_law_461 (by decide) ?_
                    refine lv_istore (lv' := [(20, .int 1), (19, .int 0), (18, .int (nI o9)), (17, .int (nI k)), (16, .int (nI (mo (zgP n me lo c e rd tk g) n k))), (15, .int (su (zgP n me lo c e rd tk g) k)), (14, .int (nI (ct (zgP n me lo c e rd tk g) k))), (13, .int ((hA lo c e g (0, g) k).1)), (3, .int (nI tm)), (0, .ref b0), (1, .ref b), (2, .ref o), (5, .int (nI n)), (6, .ref qw), (7, .ref qh), (8, .ref qt), (10, .int rd), (12, .int ((rN n me lo c e (rd, tk, g) 1).2.1 - tk))]) hx hb dL_law_465 hl (by decide) rfl (fun ls hl => ?_)
                    refine lv_iload hx hb dL_law_467 (lv_at hl 3 rfl) ?_
                    refine lv_iconst (v := 2) hx hb dL_law_469 (by decide) ?_
                    refine lv_irem hx hb dL_law_470 (by decide) ?_
                    refine z_toi (y := zrem (nI k) 2) rfl ?_
                    refine z_toi (y := nI (k % 2)) (zrem2 k (by omega)) ?_
                    refine lv_istore (lv' := [(21, .int (nI (k % 2))), (20, .int 1), (19, .int 0), (18, .int (nI o9)), (17, .int (nI k)), (16, .int (nI (mo (zgP n me lo c e rd tk g) n k))), (15, .int (su (zgP n me lo c e rd tk g) k)), (14, .int (nI (ct (zgP n me lo c e rd tk g) k))), (13, .int ((hA lo c e g (0, g) k).1)), (3, .int (nI tm)), (0, .ref b0), (1, .ref b), (2, .ref o), (5, .int (nI n)), (6, .ref qw), (7, .ref qh), (8, .ref qt), (10, .int rd), (12, .int ((rN n me lo c e (rd, tk, g) 1).2.1 - tk))]) hx hb dL_law_471 hl (by decide) rfl (fun ls hl => ?_)
                    refine lv_iload hx hb dL_law_473 (lv_at hl 8 rfl) ?_
                    refine lv_iload hx hb dL_law_475 (lv_at hl 1 rfl) ?_
                    refine lv_if_eq (tgt := 484) hx hb dL_law_477 (by decide) (fun c477 => ?_) (fun c477 => ?_)
                    · exact absurd c477 (by decide)
                    · have c477 := z_ne (a := 1) (b := 0) c477 (by omega) (by omega)
                      refine lv_iconst (v := 1) hx hb dL_law_480 (by decide) ?_
                      refine lv_goto (tgt := 485) hx hb dL_law_481 (by decide) ?_
                      refine lv_iadd hx hb dL_law_485 ?_
                      refine lv_istore (lv' := [(13, .int (((hA lo c e g (0, g) k).1) + 1)), (21, .int (nI (k % 2))), (20, .int 1), (19, .int 0), (18, .int (nI o9)), (17, .int (nI k)), (16, .int (nI (mo (zgP n me lo c e rd tk g) n k))), (15, .int (su (zgP n me lo c e rd tk g) k)), (14, .int (nI (ct (zgP n me lo c e rd tk g) k))), (3, .int (nI tm)), (0, .ref b0), (1, .ref b), (2, .ref o), (5, .int (nI n)), (6, .ref qw), (7, .ref qh), (8, .ref qt), (10, .int rd), (12, .int ((rN n me lo c e (rd, tk, g) 1).2.1 - tk))]) hx hb dL_law_486 hl (by decide) rfl (fun ls hl => ?_)
                      refine lv_aload_n hx hb dL_law_488 rfl (lv_at hl 11 rfl) ?_
                      refine lv_iload hx hb dL_law_489 (lv_at hl 5 rfl) ?_
                      refine lv_iconst (v := 0) hx hb dL_law_491 (by decide) ?_
                      refine z_ki (va_runV (As := [.int (nI k), .int 0]) (rest := []) hfix (zcX4_parrot_k l D cI H b n me lo c e ((rN n me lo c e (rd, tk, g) 1).1) ((rN n me lo c e (rd, tk, g) 1).2.1) (zgP n me lo c e rd tk g) k 0 hC hI (by omega) (by omega)) (cwV 2 hts gL_law_X4_parrot rfl rfl rfl (by decide +kernel) ⟨Nat.le_of_ble_eq_true rfl, Nat.le_of_ble_eq_true rfl⟩) (z_preV hK hK1 hC.1 (ci := 4) (q0 := 0) rfl rfl rfl) rfl rfl hl.1 rfl (lv_room (Nat.le_of_ble_eq_true rfl)) dL_law_492 ⟨by show ck + 0 ≤ 830515; omega, by show sk + 0 ≤ 6609922; omega⟩) ?_
                      refine lv_aload hx hb dL_law_495 (lv_at hl 16 rfl) ?_
                      refine lv_iload hx hb dL_law_497 (lv_at hl 5 rfl) ?_
                      refine z_iald (a := qt) (n := n) (f := T) (j := k) hx hb hK hT 0 0 rfl rfl rfl (by omega) (by omega) dL_law_499 ?_
                      refine lv_icmp_ne (tgt := 599) hx hb dL_law_500 (by decide) (fun c500 => ?_) (fun c500 => ?_)
                      · exact absurd (hTf k (by omega)).symm c500
                      · refine lv_aload_n hx hb dL_law_503 rfl (lv_at hl 11 rfl) ?_
                        refine lv_iload hx hb dL_law_504 (lv_at hl 5 rfl) ?_
                        refine lv_iload hx hb dL_law_506 (lv_at hl 1 rfl) ?_
                        refine lv_if_ne (tgt := 515) hx hb dL_law_508 (by decide) (fun c508 => ?_) (fun c508 => ?_)
                        · have c508 := z_ne (a := k % 2) (b := 0) c508 (by omega) (by omega)
                          refine lv_iconst (v := 0) hx hb dL_law_515 (by decide) ?_
                          refine lv_iconst (v := 0) hx hb dL_law_516 (by decide) ?_
                          refine z_ki (va_runV (As := [.int (nI k), .int 0, .int 0]) (rest := []) hfix (zcX4_half_k0 l D cI H b n me lo c e ((rN n me lo c e (rd, tk, g) 1).1) ((rN n me lo c e (rd, tk, g) 1).2.1) (zgP n me lo c e rd tk g) k 0 hC hI (by omega) (by omega)) (cwV 3 hts gL_law_X4_half rfl rfl rfl (by decide +kernel) ⟨Nat.le_of_ble_eq_true rfl, Nat.le_of_ble_eq_true rfl⟩) (z_preV hK hK1 hC.1 (ci := 4) (q0 := 0) rfl rfl rfl) rfl rfl hl.1 rfl (lv_room (Nat.le_of_ble_eq_true rfl)) dL_law_517 ⟨by show ck + 0 ≤ 830515; omega, by show sk + 0 ≤ 6609922; omega⟩) ?_
                          refine lv_aload hx hb dL_law_520 (lv_at hl 15 rfl) ?_
                          refine lv_iload hx hb dL_law_522 (lv_at hl 5 rfl) ?_
                          refine z_aald (a := qh) (n := n) (f := (zbf n (zR3 qh))) (j := k) hx hb hK4 hV3.1 0 3 rfl rfl rfl rfl (by omega) (by omega) (zbf_in (by omega)) dL_law_524 ?_
                          have hr21 : va_P D vwCl (zQr cA (zR3 qh k) 2 (zbf 2 (zR2 (zR3 qh k)))) H := (hV3.2 k (by omega)).1
                          refine lv_iconst (v := 1) hx hb dL_law_525 (by decide) ?_
                          refine lv_iload hx hb dL_law_526 (lv_at hl 1 rfl) ?_
                          refine lv_isub hx hb dL_law_528 ?_
                          refine z_toi (y := nI (1 - k % 2)) (pk_sub (a := 1) (by omega)) ?_
                          refine z_aald (a := (zR3 qh k)) (n := 2) (f := (zbf 2 (zR2 (zR3 qh k)))) (j := (1 - k % 2)) hx hb hK4 hr21 0 2 rfl rfl rfl rfl (by omega) (by omega) (zbf_in (by omega)) dL_law_529 ?_
                          have hr22 : va_P D vwCl (zAr cI (zR2 (zR3 qh k) (1 - k % 2)) 3 (G k (1 - k % 2))) H := (hV3.2 k (by omega)).2 (1 - k % 2) (by omega)
                          refine lv_iconst (v := 0) hx hb dL_law_530 (by decide) ?_
                          refine z_iald (a := (zR2 (zR3 qh k) (1 - k % 2))) (n := 3) (f := (G k (1 - k % 2))) (j := 0) hx hb hK hr22 0 0 rfl rfl rfl (by omega) (by omega) dL_law_531 ?_
                          refine lv_icmp_ne (tgt := 599) hx hb dL_law_532 (by decide) (fun c532 => ?_) (fun c532 => ?_)
                          · exact absurd (by rw [hGf k (1 - k % 2) 0 (by omega) (by omega) (by omega), show 1 - k % 2 = 0 by omega]; exact z1_oth hk (by omega) (by omega)) c532
                          · refine lv_aload_n hx hb dL_law_535 rfl (lv_at hl 11 rfl) ?_
                            refine lv_iload hx hb dL_law_536 (lv_at hl 5 rfl) ?_
                            refine lv_iload hx hb dL_law_538 (lv_at hl 1 rfl) ?_
                            refine lv_if_ne (tgt := 547) hx hb dL_law_540 (by decide) (fun c540 => ?_) (fun c540 => ?_)
                            · have c540 := z_ne (a := k % 2) (b := 0) c540 (by omega) (by omega)
                              refine lv_iconst (v := 0) hx hb dL_law_547 (by decide) ?_
                              refine lv_iconst (v := 1) hx hb dL_law_548 (by decide) ?_
                              refine z_ki (va_runV (As := [.int (nI k), .int 0, .int 1]) (rest := []) hfix (zcX4_half_k0 l D cI H b n me lo c e ((rN n me lo c e (rd, tk, g) 1).1) ((rN n me lo c e (rd, tk, g) 1).2.1) (zgP n me lo c e rd tk g) k 1 hC hI (by omega) (by omega)) (cwV 3 hts gL_law_X4_half rfl rfl rfl (by decide +kernel) ⟨Nat.le_of_ble_eq_true rfl, Nat.le_of_ble_eq_true rfl⟩) (z_preV hK hK1 hC.1 (ci := 4) (q0 := 0) rfl rfl rfl) rfl rfl hl.1 rfl (lv_room (Nat.le_of_ble_eq_true rfl)) dL_law_549 ⟨by show ck + 0 ≤ 830515; omega, by show sk + 0 ≤ 6609922; omega⟩) ?_
                              refine lv_aload hx hb dL_law_552 (lv_at hl 15 rfl) ?_
                              refine lv_iload hx hb dL_law_554 (lv_at hl 5 rfl) ?_
                              refine z_aald (a := qh) (n := n) (f := (zbf n (zR3 qh))) (j := k) hx hb hK4 hV3.1 0 3 rfl rfl rfl rfl (by omega) (by omega) (zbf_in (by omega)) dL_law_556 ?_
                              refine lv_iconst (v := 1) hx hb dL_law_557 (by decide) ?_
                              refine lv_iload hx hb dL_law_558 (lv_at hl 1 rfl) ?_
                              refine lv_isub hx hb dL_law_560 ?_
                              refine z_toi (y := nI (1 - k % 2)) (pk_sub (a := 1) (by omega)) ?_
                              refine z_aald (a := (zR3 qh k)) (n := 2) (f := (zbf 2 (zR2 (zR3 qh k)))) (j := (1 - k % 2)) hx hb hK4 hr21 0 2 rfl rfl rfl rfl (by omega) (by omega) (zbf_in (by omega)) dL_law_561 ?_
                              refine lv_iconst (v := 1) hx hb dL_law_562 (by decide) ?_
                              refine z_iald (a := (zR2 (zR3 qh k) (1 - k % 2))) (n := 3) (f := (G k (1 - k % 2))) (j := 1) hx hb hK hr22 0 0 rfl rfl rfl (by omega) (by omega) dL_law_563 ?_
                              refine lv_icmp_ne (tgt := 599) hx hb dL_law_564 (by decide) (fun c564 => ?_) (fun c564 => ?_)
                              · exact absurd (by rw [hGf k (1 - k % 2) 1 (by omega) (by omega) (by omega), show 1 - k % 2 = 0 by omega]; exact z1_oth hk (by omega) (by omega)) c564
                              · refine lv_aload_n hx hb dL_law_567 rfl (lv_at hl 11 rfl) ?_
                                refine lv_iload hx hb dL_law_568 (lv_at hl 5 rfl) ?_
                                refine lv_iload hx hb dL_law_570 (lv_at hl 1 rfl) ?_
                                refine lv_if_ne (tgt := 579) hx hb dL_law_572 (by decide) (fun c572 => ?_) (fun c572 => ?_)
                                · have c572 := z_ne (a := k % 2) (b := 0) c572 (by omega) (by omega)
                                  refine lv_iconst (v := 0) hx hb dL_law_579 (by decide) ?_
                                  refine lv_iconst (v := 2) hx hb dL_law_580 (by decide) ?_
                                  refine z_ki (va_runV (As := [.int (nI k), .int 0, .int 2]) (rest := []) hfix (zcX4_half_k0 l D cI H b n me lo c e ((rN n me lo c e (rd, tk, g) 1).1) ((rN n me lo c e (rd, tk, g) 1).2.1) (zgP n me lo c e rd tk g) k 2 hC hI (by omega) (by omega)) (cwV 3 hts gL_law_X4_half rfl rfl rfl (by decide +kernel) ⟨Nat.le_of_ble_eq_true rfl, Nat.le_of_ble_eq_true rfl⟩) (z_preV hK hK1 hC.1 (ci := 4) (q0 := 0) rfl rfl rfl) rfl rfl hl.1 rfl (lv_room (Nat.le_of_ble_eq_true rfl)) dL_law_581 ⟨by show ck + 0 ≤ 830515; omega, by show sk + 0 ≤ 6609922; omega⟩) ?_
                                  refine lv_aload hx hb dL_law_584 (lv_at hl 15 rfl) ?_
                                  refine lv_iload hx hb dL_law_586 (lv_at hl 5 rfl) ?_
                                  refine z_aald (a := qh) (n := n) (f := (zbf n (zR3 qh))) (j := k) hx hb hK4 hV3.1 0 3 rfl rfl rfl rfl (by omega) (by omega) (zbf_in (by omega)) dL_law_588 ?_
                                  refine lv_iconst (v := 1) hx hb dL_law_589 (by decide) ?_
                                  refine lv_iload hx hb dL_law_590 (lv_at hl 1 rfl) ?_
                                  refine lv_isub hx hb dL_law_592 ?_
                                  refine z_toi (y := nI (1 - k % 2)) (pk_sub (a := 1) (by omega)) ?_
                                  refine z_aald (a := (zR3 qh k)) (n := 2) (f := (zbf 2 (zR2 (zR3 qh k)))) (j := (1 - k % 2)) hx hb hK4 hr21 0 2 rfl rfl rfl rfl (by omega) (by omega) (zbf_in (by omega)) dL_law_593 ?_
                                  refine lv_iconst (v := 2) hx hb dL_law_594 (by decide) ?_
                                  refine z_iald (a := (zR2 (zR3 qh k) (1 - k % 2))) (n := 3) (f := (G k (1 - k % 2))) (j := 2) hx hb hK hr22 0 0 rfl rfl rfl (by omega) (by omega) dL_law_595 ?_
                                  refine lv_icmp_eq (tgt := 601) hx hb dL_law_596 (by decide) (fun c596 => ?_) (fun c596 => ?_)
                                  · refine lv_iload hx hb dL_law_601 (lv_at hl 2 rfl) ?_
                                    refine lv_if_eq (tgt := 701) hx hb dL_law_603 (by decide) (fun c603 => ?_) (fun c603 => ?_)
                                    · exact absurd c603 (by decide)
                                    · have c603 := z_ne (a := 1) (b := 0) c603 (by omega) (by omega)
                                      refine lv_aload_n hx hb dL_law_606 rfl (lv_at hl 11 rfl) ?_
                                      refine lv_iload hx hb dL_law_607 (lv_at hl 5 rfl) ?_
                                      refine lv_iload hx hb dL_law_609 (lv_at hl 1 rfl) ?_
                                      refine lv_iconst (v := 1) hx hb dL_law_611 (by decide) ?_
                                      refine lv_icmp_ne (tgt := 619) hx hb dL_law_612 (by decide) (fun c612 => ?_) (fun c612 => ?_)
                                      · have c612 := z_ne (a := k % 2) (b := 1) c612 (by omega) (by omega)
                                        omega
                                      · have c612 := z_eq (a := k % 2) (b := 1) c612 (by omega) (by omega)
                                        refine lv_iconst (v := 1) hx hb dL_law_615 (by decide) ?_
                                        refine lv_goto (tgt := 620) hx hb dL_law_616 (by decide) ?_
                                        refine lv_iconst (v := 0) hx hb dL_law_620 (by decide) ?_
                                        refine z_ki (va_runV (As := [.int (nI k), .int 1, .int 0]) (rest := []) hfix (zcX4_half_k1 l D cI H b n me lo c e ((rN n me lo c e (rd, tk, g) 1).1) ((rN n me lo c e (rd, tk, g) 1).2.1) (zgP n me lo c e rd tk g) k 0 hC hI (by omega) (by omega)) (cwV 3 hts gL_law_X4_half rfl rfl rfl (by decide +kernel) ⟨Nat.le_of_ble_eq_true rfl, Nat.le_of_ble_eq_true rfl⟩) (z_preV hK hK1 hC.1 (ci := 4) (q0 := 0) rfl rfl rfl) rfl rfl hl.1 rfl (lv_room (Nat.le_of_ble_eq_true rfl)) dL_law_621 ⟨by show ck + 0 ≤ 830515; omega, by show sk + 0 ≤ 6609922; omega⟩) ?_
                                        refine lv_aload hx hb dL_law_624 (lv_at hl 15 rfl) ?_
                                        refine lv_iload hx hb dL_law_626 (lv_at hl 4 rfl) ?_
                                        refine z_aald (a := qh) (n := n) (f := (zbf n (zR3 qh))) (j := o9) hx hb hK4 hV3.1 0 3 rfl rfl rfl rfl (by omega) (by omega) (zbf_in (by omega)) dL_law_628 ?_
                                        have hr23 : va_P D vwCl (zQr cA (zR3 qh o9) 2 (zbf 2 (zR2 (zR3 qh o9)))) H := (hV3.2 o9 (by omega)).1
                                        refine lv_iload hx hb dL_law_629 (lv_at hl 1 rfl) ?_
                                        refine z_aald (a := (zR3 qh o9)) (n := 2) (f := (zbf 2 (zR2 (zR3 qh o9)))) (j := (k % 2)) hx hb hK4 hr23 0 2 rfl rfl rfl rfl (by omega) (by omega) (zbf_in (by omega)) dL_law_631 ?_
                                        have hr24 : va_P D vwCl (zAr cI (zR2 (zR3 qh o9) (k % 2)) 3 (G o9 (k % 2))) H := (hV3.2 o9 (by omega)).2 (k % 2) (by omega)
                                        refine lv_iconst (v := 0) hx hb dL_law_632 (by decide) ?_
                                        refine z_iald (a := (zR2 (zR3 qh o9) (k % 2))) (n := 3) (f := (G o9 (k % 2))) (j := 0) hx hb hK hr24 0 0 rfl rfl rfl (by omega) (by omega) dL_law_633 ?_
                                        refine lv_icmp_ne (tgt := 794) hx hb dL_law_634 (by decide) (fun c634 => ?_) (fun c634 => ?_)
                                        · exact absurd (by rw [hGf o9 (k % 2) 0 ho9 (by omega) (by omega), show k % 2 = 1 by omega]; exact z1_T0 hhc c423 c457 hk (by omega)) c634
                                        · refine lv_aload_n hx hb dL_law_637 rfl (lv_at hl 11 rfl) ?_
                                          refine lv_iload hx hb dL_law_638 (lv_at hl 5 rfl) ?_
                                          refine lv_iload hx hb dL_law_640 (lv_at hl 1 rfl) ?_
                                          refine lv_iconst (v := 1) hx hb dL_law_642 (by decide) ?_
                                          refine lv_icmp_ne (tgt := 650) hx hb dL_law_643 (by decide) (fun c643 => ?_) (fun c643 => ?_)
                                          · have c643 := z_ne (a := k % 2) (b := 1) c643 (by omega) (by omega)
                                            omega
                                          · have c643 := z_eq (a := k % 2) (b := 1) c643 (by omega) (by omega)
                                            refine lv_iconst (v := 1) hx hb dL_law_646 (by decide) ?_
                                            refine lv_goto (tgt := 651) hx hb dL_law_647 (by decide) ?_
                                            refine lv_iconst (v := 1) hx hb dL_law_651 (by decide) ?_
                                            refine z_ki (va_runV (As := [.int (nI k), .int 1, .int 1]) (rest := []) hfix (zcX4_half_k1 l D cI H b n me lo c e ((rN n me lo c e (rd, tk, g) 1).1) ((rN n me lo c e (rd, tk, g) 1).2.1) (zgP n me lo c e rd tk g) k 1 hC hI (by omega) (by omega)) (cwV 3 hts gL_law_X4_half rfl rfl rfl (by decide +kernel) ⟨Nat.le_of_ble_eq_true rfl, Nat.le_of_ble_eq_true rfl⟩) (z_preV hK hK1 hC.1 (ci := 4) (q0 := 0) rfl rfl rfl) rfl rfl hl.1 rfl (lv_room (Nat.le_of_ble_eq_true rfl)) dL_law_652 ⟨by show ck + 0 ≤ 830515; omega, by show sk + 0 ≤ 6609922; omega⟩) ?_
                                            refine lv_iload hx hb dL_law_655 (lv_at hl 4 rfl) ?_
                                            refine lv_icmp_ne (tgt := 794) hx hb dL_law_657 (by decide) (fun c657 => ?_) (fun c657 => ?_)
                                            · exact absurd (z1_T1 hhc c423 c457 hk (by omega)) c657
                                            · refine lv_aload_n hx hb dL_law_660 rfl (lv_at hl 11 rfl) ?_
                                              refine lv_iload hx hb dL_law_661 (lv_at hl 5 rfl) ?_
                                              refine lv_iload hx hb dL_law_663 (lv_at hl 1 rfl) ?_
                                              refine lv_iconst (v := 1) hx hb dL_law_665 (by decide) ?_
                                              refine lv_icmp_ne (tgt := 673) hx hb dL_law_666 (by decide) (fun c666 => ?_) (fun c666 => ?_)
                                              · have c666 := z_ne (a := k % 2) (b := 1) c666 (by omega) (by omega)
                                                omega
                                              · have c666 := z_eq (a := k % 2) (b := 1) c666 (by omega) (by omega)
                                                refine lv_iconst (v := 1) hx hb dL_law_669 (by decide) ?_
                                                refine lv_goto (tgt := 674) hx hb dL_law_670 (by decide) ?_
                                                refine lv_iconst (v := 2) hx hb dL_law_674 (by decide) ?_
                                                refine z_ki (va_runV (As := [.int (nI k), .int 1, .int 2]) (rest := []) hfix (zcX4_half_k1 l D cI H b n me lo c e ((rN n me lo c e (rd, tk, g) 1).1) ((rN n me lo c e (rd, tk, g) 1).2.1) (zgP n me lo c e rd tk g) k 2 hC hI (by omega) (by omega)) (cwV 3 hts gL_law_X4_half rfl rfl rfl (by decide +kernel) ⟨Nat.le_of_ble_eq_true rfl, Nat.le_of_ble_eq_true rfl⟩) (z_preV hK hK1 hC.1 (ci := 4) (q0 := 0) rfl rfl rfl) rfl rfl hl.1 rfl (lv_room (Nat.le_of_ble_eq_true rfl)) dL_law_675 ⟨by show ck + 0 ≤ 830515; omega, by show sk + 0 ≤ 6609922; omega⟩) ?_
                                                refine lv_bipush (v := 99) hx hb dL_law_678 (by decide) ?_
                                                refine lv_aload hx hb dL_law_680 (lv_at hl 15 rfl) ?_
                                                refine lv_iload hx hb dL_law_682 (lv_at hl 4 rfl) ?_
                                                refine z_aald (a := qh) (n := n) (f := (zbf n (zR3 qh))) (j := o9) hx hb hK4 hV3.1 0 3 rfl rfl rfl rfl (by omega) (by omega) (zbf_in (by omega)) dL_law_684 ?_
                                                refine lv_iload hx hb dL_law_685 (lv_at hl 1 rfl) ?_
                                                refine z_aald (a := (zR3 qh o9)) (n := 2) (f := (zbf 2 (zR2 (zR3 qh o9)))) (j := (k % 2)) hx hb hK4 hr23 0 2 rfl rfl rfl rfl (by omega) (by omega) (zbf_in (by omega)) dL_law_687 ?_
                                                refine lv_iconst (v := 2) hx hb dL_law_688 (by decide) ?_
                                                refine z_iald (a := (zR2 (zR3 qh o9) (k % 2))) (n := 3) (f := (G o9 (k % 2))) (j := 2) hx hb hK hr24 0 0 rfl rfl rfl (by omega) (by omega) dL_law_689 ?_
                                                refine lv_iconst (v := 1) hx hb dL_law_690 (by decide) ?_
                                                refine lv_iadd hx hb dL_law_691 ?_
                                                refine va_mmin hx hb (by rw [hml]; exact hl.1.symm) hown hwd5 hwd6 hwd7 (hwd8) (Nat.le_of_ble_eq_true rfl) (Nat.le_of_ble_eq_true rfl) (hck) (hsk) dL_law_692 ?_
                                                refine z_toi (y := zmin 99 (((G o9 (k % 2)) 2) + 1)) rfl ?_
                                                refine lv_icmp_eq (tgt := 796) hx hb dL_law_695 (by decide) (fun c695 => ?_) (fun c695 => ?_)
                                                · refine lv_iload hx hb dL_law_796 (lv_at hl 4 rfl) ?_
                                                  refine lv_if_ge (tgt := 811) hx hb dL_law_798 (by decide) (fun c798 => ?_) (fun c798 => ?_)
                                                  · have c798 := z_le (a := 0) (b := o9) c798 (by omega) (by omega)
                                                    refine lv_iload hx hb dL_law_811 (lv_at hl 3 rfl) ?_
                                                    refine lv_if_eq (tgt := 833) hx hb dL_law_813 (by decide) (fun c813 => ?_) (fun c813 => ?_)
                                                    · have c813 := z_eq (a := 0) (b := 0) c813 (by omega) (by omega)
                                                      refine lv_iload hx hb dL_law_833 (lv_at hl 2 rfl) ?_
                                                      refine lv_if_eq (tgt := 842) hx hb dL_law_835 (by decide) (fun c835 => ?_) (fun c835 => ?_)
                                                      · exact absurd c835 (by decide)
                                                      · have c835 := z_ne (a := 1) (b := 0) c835 (by omega) (by omega)
                                                        refine lv_iconst (v := 1) hx hb dL_law_838 (by decide) ?_
                                                        refine lv_goto (tgt := 851) hx hb dL_law_839 (by decide) ?_
                                                        refine lv_istore (lv' := [(22, .int 1), (13, .int (((hA lo c e g (0, g) k).1) + 1)), (21, .int (nI (k % 2))), (20, .int 1), (19, .int 0), (18, .int (nI o9)), (17, .int (nI k)), (16, .int (nI (mo (zgP n me lo c e rd tk g) n k))), (15, .int (su (zgP n me lo c e rd tk g) k)), (14, .int (nI (ct (zgP n me lo c e rd tk g) k))), (3, .int (nI tm)), (0, .ref b0), (1, .ref b), (2, .ref o), (5, .int (nI n)), (6, .ref qw), (7, .ref qh), (8, .ref qt), (10, .int rd), (12, .int ((rN n me lo c e (rd, tk, g) 1).2.1 - tk))]) hx hb dL_law_851 hl (by decide) rfl (fun ls hl => ?_)
                                                        refine lv_iload hx hb dL_law_853 (lv_at hl 18 rfl) ?_
                                                        refine lv_aload hx hb dL_law_855 (lv_at hl 15 rfl) ?_
                                                        refine lv_iload hx hb dL_law_857 (lv_at hl 6 rfl) ?_
                                                        refine z_aald (a := qw) (n := n) (f := (zbf n (zR2 qw))) (j := k) hx hb hK4 hW.1 0 2 rfl rfl rfl rfl (by omega) (by omega) (zbf_in (by omega)) dL_law_859 ?_
                                                        refine lv_iconst (v := 2) hx hb dL_law_860 (by decide) ?_
                                                        refine z_iald (a := (zR2 qw k)) (n := 7) (f := (F k)) (j := 2) hx hb hK hr7 0 0 rfl rfl rfl (by omega) (by omega) dL_law_861 ?_
                                                        refine z_toi (y := (me k)) (hFf k 2 (by omega) (by omega)) ?_
                                                        refine lv_iconst (v := 1) hx hb dL_law_862 (by decide) ?_
                                                        refine lv_iadd hx hb dL_law_863 ?_
                                                        refine lv_irem hx hb dL_law_864 (zI_span0 hI hk) ?_
                                                        refine z_toi (y := zrem rd ((me k) + 1)) rfl ?_
                                                        refine lv_if_ne (tgt := 878) hx hb dL_law_865 (by decide) (fun c865 => ?_) (fun c865 => ?_)
                                                        · have hl : lv_has ls 25 [(22, .int 1), (13, .int (((hA lo c e g (0, g) k).1) + 1)), (21, .int (nI (k % 2))), (20, .int 1), (19, .int 0), (18, .int (zo (hd lo e k (c k)))), (17, .int (nI k)), (16, .int (nI (mo (zgP n me lo c e rd tk g) n k))), (15, .int (su (zgP n me lo c e rd tk g) k)), (14, .int (nI (ct (zgP n me lo c e rd tk g) k))), (3, .int (nI tm)), (0, .ref b0), (1, .ref b), (2, .ref o), (5, .int (nI n)), (6, .ref qw), (7, .ref qh), (8, .ref qt), (10, .int rd), (12, .int ((rN n me lo c e (rd, tk, g) 1).2.1 - tk))] := by rw [hhc]; exact hl
                                                          have hl : lv_has ls 25 [(3, .int (nI tm)), (0, .ref b0), (1, .ref b), (2, .ref o), (5, .int (nI n)), (6, .ref qw), (7, .ref qh), (8, .ref qt), (10, .int rd), (12, .int ((rN n me lo c e (rd, tk, g) 1).2.1 - tk)), (13, .int (((hA lo c e g (0, g) k).1) + 1)), (14, .int (nI (ct (zgP n me lo c e rd tk g) k))), (15, .int (su (zgP n me lo c e rd tk g) k)), (16, .int (nI (mo (zgP n me lo c e rd tk g) n k))), (17, .int (nI k)), (18, .int (zo (hd lo e k (c k)))), (22, .int 1)] := lv_sub hl [10, 11, 12, 13, 14, 15, 16, 17, 18, 19, 1, 9, 8, 7, 6, 5, 0] rfl
                                                          refine zlaw_T hfix hK4 hKw hX hb0 hb9 hbs hL hov2 hov3 hcl80 ck sk hck hsk tm htm n me lo c e rd tk g k (((hA lo c e g (0, g) k).1) + 1) 1 qw qh qt F hI hZ hV hN hn0 hZ1 hV1 hk hFf (zsv_n hk (zst_T6 hhc c423 c457) c865) H lo0 hS hC hW (fun ls hl => ?_) _ hl
                                                          refine lv_iinc (v := (nI (k + 1))) (lv' := [(17, .int (nI (k + 1))), (3, .int (nI tm)), (0, .ref b0), (1, .ref b), (2, .ref o), (5, .int (nI n)), (6, .ref qw), (7, .ref qh), (8, .ref qt), (10, .int rd), (12, .int ((rN n me lo c e (rd, tk, g) 1).2.1 - tk)), (13, .int (((hA lo c e g (0, g) k).1) + 1)), (14, .int (nI (ct (zgP n me lo c e rd tk g) (k + 1)))), (15, .int (su (zgP n me lo c e rd tk g) (k + 1))), (16, .int (nI (mo (zgP n me lo c e rd tk g) n (k + 1))))]) hx hb dL_law_1102 hl (k := 14) rfl (nI_1 _) (by decide) rfl (fun ls hl => ?_)
                                                          refine lv_goto (tgt := 387) hx hb dL_law_1105 (by decide) ?_
                                                          exact ih (k + 1) (by omega) (by omega) _ (rfl) _ (rfl) _ (rfl) _ (rfl) _ (hA_T hhc c423 c457) _ (lv_sub hl [0, 14, 13, 12, 11, 1, 2, 3, 4, 5, 6, 7, 8, 9, 10] rfl)
                                                        · refine lv_iconst (v := 0) hx hb dL_law_868 (by decide) ?_
                                                          refine lv_iload hx hb dL_law_869 (lv_at hl 0 rfl) ?_
                                                          refine lv_iconst (v := 1) hx hb dL_law_871 (by decide) ?_
                                                          refine lv_isub hx hb dL_law_872 ?_
                                                          refine va_mmax hx hb (by rw [hml]; exact hl.1.symm) hown hwd9 hwd10 hwd7 (hwd11) (Nat.le_of_ble_eq_true rfl) (Nat.le_of_ble_eq_true rfl) (hck) (hsk) dL_law_873 ?_
                                                          refine z_toi (y := zmax 0 (1 - 1)) rfl ?_
                                                          refine lv_istore (lv' := [(22, .int (zmax 0 (1 - 1))), (13, .int (((hA lo c e g (0, g) k).1) + 1)), (21, .int (nI (k % 2))), (20, .int 1), (19, .int 0), (18, .int (nI o9)), (17, .int (nI k)), (16, .int (nI (mo (zgP n me lo c e rd tk g) n k))), (15, .int (su (zgP n me lo c e rd tk g) k)), (14, .int (nI (ct (zgP n me lo c e rd tk g) k))), (3, .int (nI tm)), (0, .ref b0), (1, .ref b), (2, .ref o), (5, .int (nI n)), (6, .ref qw), (7, .ref qh), (8, .ref qt), (10, .int rd), (12, .int ((rN n me lo c e (rd, tk, g) 1).2.1 - tk))]) hx hb dL_law_876 hl (by decide) rfl (fun ls hl => ?_)
                                                          have hl : lv_has ls 25 [(22, .int (zmax 0 (1 - 1))), (13, .int (((hA lo c e g (0, g) k).1) + 1)), (21, .int (nI (k % 2))), (20, .int 1), (19, .int 0), (18, .int (zo (hd lo e k (c k)))), (17, .int (nI k)), (16, .int (nI (mo (zgP n me lo c e rd tk g) n k))), (15, .int (su (zgP n me lo c e rd tk g) k)), (14, .int (nI (ct (zgP n me lo c e rd tk g) k))), (3, .int (nI tm)), (0, .ref b0), (1, .ref b), (2, .ref o), (5, .int (nI n)), (6, .ref qw), (7, .ref qh), (8, .ref qt), (10, .int rd), (12, .int ((rN n me lo c e (rd, tk, g) 1).2.1 - tk))] := by rw [hhc]; exact hl
                                                          have hl : lv_has ls 25 [(3, .int (nI tm)), (0, .ref b0), (1, .ref b), (2, .ref o), (5, .int (nI n)), (6, .ref qw), (7, .ref qh), (8, .ref qt), (10, .int rd), (12, .int ((rN n me lo c e (rd, tk, g) 1).2.1 - tk)), (13, .int (((hA lo c e g (0, g) k).1) + 1)), (14, .int (nI (ct (zgP n me lo c e rd tk g) k))), (15, .int (su (zgP n me lo c e rd tk g) k)), (16, .int (nI (mo (zgP n me lo c e rd tk g) n k))), (17, .int (nI k)), (18, .int (zo (hd lo e k (c k)))), (22, .int (zmax 0 (1 - 1)))] := lv_sub hl [10, 11, 12, 13, 14, 15, 16, 17, 18, 19, 1, 9, 8, 7, 6, 5, 0] rfl
                                                          refine zlaw_T hfix hK4 hKw hX hb0 hb9 hbs hL hov2 hov3 hcl80 ck sk hck hsk tm htm n me lo c e rd tk g k (((hA lo c e g (0, g) k).1) + 1) (zmax 0 (1 - 1)) qw qh qt F hI hZ hV hN hn0 hZ1 hV1 hk hFf (zsv_y hk (zst_T6 hhc c423 c457) c865) H lo0 hS hC hW (fun ls hl => ?_) _ hl
                                                          refine lv_iinc (v := (nI (k + 1))) (lv' := [(17, .int (nI (k + 1))), (3, .int (nI tm)), (0, .ref b0), (1, .ref b), (2, .ref o), (5, .int (nI n)), (6, .ref qw), (7, .ref qh), (8, .ref qt), (10, .int rd), (12, .int ((rN n me lo c e (rd, tk, g) 1).2.1 - tk)), (13, .int (((hA lo c e g (0, g) k).1) + 1)), (14, .int (nI (ct (zgP n me lo c e rd tk g) (k + 1)))), (15, .int (su (zgP n me lo c e rd tk g) (k + 1))), (16, .int (nI (mo (zgP n me lo c e rd tk g) n (k + 1))))]) hx hb dL_law_1102 hl (k := 14) rfl (nI_1 _) (by decide) rfl (fun ls hl => ?_)
                                                          refine lv_goto (tgt := 387) hx hb dL_law_1105 (by decide) ?_
                                                          exact ih (k + 1) (by omega) (by omega) _ (rfl) _ (rfl) _ (rfl) _ (rfl) _ (hA_T hhc c423 c457) _ (lv_sub hl [0, 14, 13, 12, 11, 1, 2, 3, 4, 5, 6, 7, 8, 9, 10] rfl)
                                                    · exact absurd (by decide) c813
                                                  · have c798 := z_nle (a := 0) (b := o9) c798 (by omega) (by omega)
                                                    omega
                                                · exact absurd (by rw [hGf o9 (k % 2) 2 ho9 (by omega) (by omega), show k % 2 = 1 by omega]; exact z1_T2 hhc c423 c457 hk (by omega)) c695
                                  · exact absurd (by rw [hGf k (1 - k % 2) 2 (by omega) (by omega) (by omega), show 1 - k % 2 = 0 by omega]; exact z1_oth hk (by omega) (by omega)) c596
                                · have c572 := z_eq (a := k % 2) (b := 0) c572 (by omega) (by omega)
                                  exact absurd c572 c508
                            · have c540 := z_eq (a := k % 2) (b := 0) c540 (by omega) (by omega)
                              exact absurd c540 c508
                        · have c508 := z_eq (a := k % 2) (b := 0) c508 (by omega) (by omega)
                          refine lv_iconst (v := 1) hx hb dL_law_511 (by decide) ?_
                          refine lv_goto (tgt := 516) hx hb dL_law_512 (by decide) ?_
                          refine lv_iconst (v := 0) hx hb dL_law_516 (by decide) ?_
                          refine z_ki (va_runV (As := [.int (nI k), .int 1, .int 0]) (rest := []) hfix (zcX4_half_k1 l D cI H b n me lo c e ((rN n me lo c e (rd, tk, g) 1).1) ((rN n me lo c e (rd, tk, g) 1).2.1) (zgP n me lo c e rd tk g) k 0 hC hI (by omega) (by omega)) (cwV 3 hts gL_law_X4_half rfl rfl rfl (by decide +kernel) ⟨Nat.le_of_ble_eq_true rfl, Nat.le_of_ble_eq_true rfl⟩) (z_preV hK hK1 hC.1 (ci := 4) (q0 := 0) rfl rfl rfl) rfl rfl hl.1 rfl (lv_room (Nat.le_of_ble_eq_true rfl)) dL_law_517 ⟨by show ck + 0 ≤ 830515; omega, by show sk + 0 ≤ 6609922; omega⟩) ?_
                          refine lv_aload hx hb dL_law_520 (lv_at hl 15 rfl) ?_
                          refine lv_iload hx hb dL_law_522 (lv_at hl 5 rfl) ?_
                          refine z_aald (a := qh) (n := n) (f := (zbf n (zR3 qh))) (j := k) hx hb hK4 hV3.1 0 3 rfl rfl rfl rfl (by omega) (by omega) (zbf_in (by omega)) dL_law_524 ?_
                          have hr25 : va_P D vwCl (zQr cA (zR3 qh k) 2 (zbf 2 (zR2 (zR3 qh k)))) H := (hV3.2 k (by omega)).1
                          refine lv_iconst (v := 1) hx hb dL_law_525 (by decide) ?_
                          refine lv_iload hx hb dL_law_526 (lv_at hl 1 rfl) ?_
                          refine lv_isub hx hb dL_law_528 ?_
                          refine z_toi (y := nI (1 - k % 2)) (pk_sub (a := 1) (by omega)) ?_
                          refine z_aald (a := (zR3 qh k)) (n := 2) (f := (zbf 2 (zR2 (zR3 qh k)))) (j := (1 - k % 2)) hx hb hK4 hr25 0 2 rfl rfl rfl rfl (by omega) (by omega) (zbf_in (by omega)) dL_law_529 ?_
                          have hr26 : va_P D vwCl (zAr cI (zR2 (zR3 qh k) (1 - k % 2)) 3 (G k (1 - k % 2))) H := (hV3.2 k (by omega)).2 (1 - k % 2) (by omega)
                          refine lv_iconst (v := 0) hx hb dL_law_530 (by decide) ?_
                          refine z_iald (a := (zR2 (zR3 qh k) (1 - k % 2))) (n := 3) (f := (G k (1 - k % 2))) (j := 0) hx hb hK hr26 0 0 rfl rfl rfl (by omega) (by omega) dL_law_531 ?_
                          refine lv_icmp_ne (tgt := 599) hx hb dL_law_532 (by decide) (fun c532 => ?_) (fun c532 => ?_)
                          · exact absurd (by rw [hGf k (1 - k % 2) 0 (by omega) (by omega) (by omega), show 1 - k % 2 = 1 by omega]; exact z1_oth hk (by omega) (by omega)) c532
                          · refine lv_aload_n hx hb dL_law_535 rfl (lv_at hl 11 rfl) ?_
                            refine lv_iload hx hb dL_law_536 (lv_at hl 5 rfl) ?_
                            refine lv_iload hx hb dL_law_538 (lv_at hl 1 rfl) ?_
                            refine lv_if_ne (tgt := 547) hx hb dL_law_540 (by decide) (fun c540 => ?_) (fun c540 => ?_)
                            · have c540 := z_ne (a := k % 2) (b := 0) c540 (by omega) (by omega)
                              exact absurd c508 c540
                            · have c540 := z_eq (a := k % 2) (b := 0) c540 (by omega) (by omega)
                              refine lv_iconst (v := 1) hx hb dL_law_543 (by decide) ?_
                              refine lv_goto (tgt := 548) hx hb dL_law_544 (by decide) ?_
                              refine lv_iconst (v := 1) hx hb dL_law_548 (by decide) ?_
                              refine z_ki (va_runV (As := [.int (nI k), .int 1, .int 1]) (rest := []) hfix (zcX4_half_k1 l D cI H b n me lo c e ((rN n me lo c e (rd, tk, g) 1).1) ((rN n me lo c e (rd, tk, g) 1).2.1) (zgP n me lo c e rd tk g) k 1 hC hI (by omega) (by omega)) (cwV 3 hts gL_law_X4_half rfl rfl rfl (by decide +kernel) ⟨Nat.le_of_ble_eq_true rfl, Nat.le_of_ble_eq_true rfl⟩) (z_preV hK hK1 hC.1 (ci := 4) (q0 := 0) rfl rfl rfl) rfl rfl hl.1 rfl (lv_room (Nat.le_of_ble_eq_true rfl)) dL_law_549 ⟨by show ck + 0 ≤ 830515; omega, by show sk + 0 ≤ 6609922; omega⟩) ?_
                              refine lv_aload hx hb dL_law_552 (lv_at hl 15 rfl) ?_
                              refine lv_iload hx hb dL_law_554 (lv_at hl 5 rfl) ?_
                              refine z_aald (a := qh) (n := n) (f := (zbf n (zR3 qh))) (j := k) hx hb hK4 hV3.1 0 3 rfl rfl rfl rfl (by omega) (by omega) (zbf_in (by omega)) dL_law_556 ?_
                              refine lv_iconst (v := 1) hx hb dL_law_557 (by decide) ?_
                              refine lv_iload hx hb dL_law_558 (lv_at hl 1 rfl) ?_
                              refine lv_isub hx hb dL_law_560 ?_
                              refine z_toi (y := nI (1 - k % 2)) (pk_sub (a := 1) (by omega)) ?_
                              refine z_aald (a := (zR3 qh k)) (n := 2) (f := (zbf 2 (zR2 (zR3 qh k)))) (j := (1 - k % 2)) hx hb hK4 hr25 0 2 rfl rfl rfl rfl (by omega) (by omega) (zbf_in (by omega)) dL_law_561 ?_
                              refine lv_iconst (v := 1) hx hb dL_law_562 (by decide) ?_
                              refine z_iald (a := (zR2 (zR3 qh k) (1 - k % 2))) (n := 3) (f := (G k (1 - k % 2))) (j := 1) hx hb hK hr26 0 0 rfl rfl rfl (by omega) (by omega) dL_law_563 ?_
                              refine lv_icmp_ne (tgt := 599) hx hb dL_law_564 (by decide) (fun c564 => ?_) (fun c564 => ?_)
                              · exact absurd (by rw [hGf k (1 - k % 2) 1 (by omega) (by omega) (by omega), show 1 - k % 2 = 1 by omega]; exact z1_oth hk (by omega) (by omega)) c564
                              · refine lv_aload_n hx hb dL_law_567 rfl (lv_at hl 11 rfl) ?_
                                refine lv_iload hx hb dL_law_568 (lv_at hl 5 rfl) ?_
                                refine lv_iload hx hb dL_law_570 (lv_at hl 1 rfl) ?_
                                refine lv_if_ne (tgt := 579) hx hb dL_law_572 (by decide) (fun c572 => ?_) (fun c572 => ?_)
                                · have c572 := z_ne (a := k % 2) (b := 0) c572 (by omega) (by omega)
                                  exact absurd c508 c572
                                · have c572 := z_eq (a := k % 2) (b := 0) c572 (by omega) (by omega)
                                  refine lv_iconst (v := 1) hx hb dL_law_575 (by decide) ?_
                                  refine lv_goto (tgt := 580) hx hb dL_law_576 (by decide) ?_
                                  refine lv_iconst (v := 2) hx hb dL_law_580 (by decide) ?_
                                  refine z_ki (va_runV (As := [.int (nI k), .int 1, .int 2]) (rest := []) hfix (zcX4_half_k1 l D cI H b n me lo c e ((rN n me lo c e (rd, tk, g) 1).1) ((rN n me lo c e (rd, tk, g) 1).2.1) (zgP n me lo c e rd tk g) k 2 hC hI (by omega) (by omega)) (cwV 3 hts gL_law_X4_half rfl rfl rfl (by decide +kernel) ⟨Nat.le_of_ble_eq_true rfl, Nat.le_of_ble_eq_true rfl⟩) (z_preV hK hK1 hC.1 (ci := 4) (q0 := 0) rfl rfl rfl) rfl rfl hl.1 rfl (lv_room (Nat.le_of_ble_eq_true rfl)) dL_law_581 ⟨by show ck + 0 ≤ 830515; omega, by show sk + 0 ≤ 6609922; omega⟩) ?_
                                  refine lv_aload hx hb dL_law_584 (lv_at hl 15 rfl) ?_
                                  refine lv_iload hx hb dL_law_586 (lv_at hl 5 rfl) ?_
                                  refine z_aald (a := qh) (n := n) (f := (zbf n (zR3 qh))) (j := k) hx hb hK4 hV3.1 0 3 rfl rfl rfl rfl (by omega) (by omega) (zbf_in (by omega)) dL_law_588 ?_
                                  refine lv_iconst (v := 1) hx hb dL_law_589 (by decide) ?_
                                  refine lv_iload hx hb dL_law_590 (lv_at hl 1 rfl) ?_
                                  refine lv_isub hx hb dL_law_592 ?_
                                  refine z_toi (y := nI (1 - k % 2)) (pk_sub (a := 1) (by omega)) ?_
                                  refine z_aald (a := (zR3 qh k)) (n := 2) (f := (zbf 2 (zR2 (zR3 qh k)))) (j := (1 - k % 2)) hx hb hK4 hr25 0 2 rfl rfl rfl rfl (by omega) (by omega) (zbf_in (by omega)) dL_law_593 ?_
                                  refine lv_iconst (v := 2) hx hb dL_law_594 (by decide) ?_
                                  refine z_iald (a := (zR2 (zR3 qh k) (1 - k % 2))) (n := 3) (f := (G k (1 - k % 2))) (j := 2) hx hb hK hr26 0 0 rfl rfl rfl (by omega) (by omega) dL_law_595 ?_
                                  refine lv_icmp_eq (tgt := 601) hx hb dL_law_596 (by decide) (fun c596 => ?_) (fun c596 => ?_)
                                  · refine lv_iload hx hb dL_law_601 (lv_at hl 2 rfl) ?_
                                    refine lv_if_eq (tgt := 701) hx hb dL_law_603 (by decide) (fun c603 => ?_) (fun c603 => ?_)
                                    · exact absurd c603 (by decide)
                                    · have c603 := z_ne (a := 1) (b := 0) c603 (by omega) (by omega)
                                      refine lv_aload_n hx hb dL_law_606 rfl (lv_at hl 11 rfl) ?_
                                      refine lv_iload hx hb dL_law_607 (lv_at hl 5 rfl) ?_
                                      refine lv_iload hx hb dL_law_609 (lv_at hl 1 rfl) ?_
                                      refine lv_iconst (v := 1) hx hb dL_law_611 (by decide) ?_
                                      refine lv_icmp_ne (tgt := 619) hx hb dL_law_612 (by decide) (fun c612 => ?_) (fun c612 => ?_)
                                      · have c612 := z_ne (a := k % 2) (b := 1) c612 (by omega) (by omega)
                                        refine lv_iconst (v := 0) hx hb dL_law_619 (by decide) ?_
                                        refine lv_iconst (v := 0) hx hb dL_law_620 (by decide) ?_
                                        refine z_ki (va_runV (As := [.int (nI k), .int 0, .int 0]) (rest := []) hfix (zcX4_half_k0 l D cI H b n me lo c e ((rN n me lo c e (rd, tk, g) 1).1) ((rN n me lo c e (rd, tk, g) 1).2.1) (zgP n me lo c e rd tk g) k 0 hC hI (by omega) (by omega)) (cwV 3 hts gL_law_X4_half rfl rfl rfl (by decide +kernel) ⟨Nat.le_of_ble_eq_true rfl, Nat.le_of_ble_eq_true rfl⟩) (z_preV hK hK1 hC.1 (ci := 4) (q0 := 0) rfl rfl rfl) rfl rfl hl.1 rfl (lv_room (Nat.le_of_ble_eq_true rfl)) dL_law_621 ⟨by show ck + 0 ≤ 830515; omega, by show sk + 0 ≤ 6609922; omega⟩) ?_
                                        refine lv_aload hx hb dL_law_624 (lv_at hl 15 rfl) ?_
                                        refine lv_iload hx hb dL_law_626 (lv_at hl 4 rfl) ?_
                                        refine z_aald (a := qh) (n := n) (f := (zbf n (zR3 qh))) (j := o9) hx hb hK4 hV3.1 0 3 rfl rfl rfl rfl (by omega) (by omega) (zbf_in (by omega)) dL_law_628 ?_
                                        have hr27 : va_P D vwCl (zQr cA (zR3 qh o9) 2 (zbf 2 (zR2 (zR3 qh o9)))) H := (hV3.2 o9 (by omega)).1
                                        refine lv_iload hx hb dL_law_629 (lv_at hl 1 rfl) ?_
                                        refine z_aald (a := (zR3 qh o9)) (n := 2) (f := (zbf 2 (zR2 (zR3 qh o9)))) (j := (k % 2)) hx hb hK4 hr27 0 2 rfl rfl rfl rfl (by omega) (by omega) (zbf_in (by omega)) dL_law_631 ?_
                                        have hr28 : va_P D vwCl (zAr cI (zR2 (zR3 qh o9) (k % 2)) 3 (G o9 (k % 2))) H := (hV3.2 o9 (by omega)).2 (k % 2) (by omega)
                                        refine lv_iconst (v := 0) hx hb dL_law_632 (by decide) ?_
                                        refine z_iald (a := (zR2 (zR3 qh o9) (k % 2))) (n := 3) (f := (G o9 (k % 2))) (j := 0) hx hb hK hr28 0 0 rfl rfl rfl (by omega) (by omega) dL_law_633 ?_
                                        refine lv_icmp_ne (tgt := 794) hx hb dL_law_634 (by decide) (fun c634 => ?_) (fun c634 => ?_)
                                        · exact absurd (by rw [hGf o9 (k % 2) 0 ho9 (by omega) (by omega), show k % 2 = 0 by omega]; exact z1_T0 hhc c423 c457 hk (by omega)) c634
                                        · refine lv_aload_n hx hb dL_law_637 rfl (lv_at hl 11 rfl) ?_
                                          refine lv_iload hx hb dL_law_638 (lv_at hl 5 rfl) ?_
                                          refine lv_iload hx hb dL_law_640 (lv_at hl 1 rfl) ?_
                                          refine lv_iconst (v := 1) hx hb dL_law_642 (by decide) ?_
                                          refine lv_icmp_ne (tgt := 650) hx hb dL_law_643 (by decide) (fun c643 => ?_) (fun c643 => ?_)
                                          · have c643 := z_ne (a := k % 2) (b := 1) c643 (by omega) (by omega)
                                            refine lv_iconst (v := 0) hx hb dL_law_650 (by decide) ?_
                                            refine lv_iconst (v := 1) hx hb dL_law_651 (by decide) ?_
                                            refine z_ki (va_runV (As := [.int (nI k), .int 0, .int 1]) (rest := []) hfix (zcX4_half_k0 l D cI H b n me lo c e ((rN n me lo c e (rd, tk, g) 1).1) ((rN n me lo c e (rd, tk, g) 1).2.1) (zgP n me lo c e rd tk g) k 1 hC hI (by omega) (by omega)) (cwV 3 hts gL_law_X4_half rfl rfl rfl (by decide +kernel) ⟨Nat.le_of_ble_eq_true rfl, Nat.le_of_ble_eq_true rfl⟩) (z_preV hK hK1 hC.1 (ci := 4) (q0 := 0) rfl rfl rfl) rfl rfl hl.1 rfl (lv_room (Nat.le_of_ble_eq_true rfl)) dL_law_652 ⟨by show ck + 0 ≤ 830515; omega, by show sk + 0 ≤ 6609922; omega⟩) ?_
                                            refine lv_iload hx hb dL_law_655 (lv_at hl 4 rfl) ?_
                                            refine lv_icmp_ne (tgt := 794) hx hb dL_law_657 (by decide) (fun c657 => ?_) (fun c657 => ?_)
                                            · exact absurd (z1_T1 hhc c423 c457 hk (by omega)) c657
                                            · refine lv_aload_n hx hb dL_law_660 rfl (lv_at hl 11 rfl) ?_
                                              refine lv_iload hx hb dL_law_661 (lv_at hl 5 rfl) ?_
                                              refine lv_iload hx hb dL_law_663 (lv_at hl 1 rfl) ?_
                                              refine lv_iconst (v := 1) hx hb dL_law_665 (by decide) ?_
                                              refine lv_icmp_ne (tgt := 673) hx hb dL_law_666 (by decide) (fun c666 => ?_) (fun c666 => ?_)
                                              · have c666 := z_ne (a := k % 2) (b := 1) c666 (by omega) (by omega)
                                                refine lv_iconst (v := 0) hx hb dL_law_673 (by decide) ?_
                                                refine lv_iconst (v := 2) hx hb dL_law_674 (by decide) ?_
                                                refine z_ki (va_runV (As := [.int (nI k), .int 0, .int 2]) (rest := []) hfix (zcX4_half_k0 l D cI H b n me lo c e ((rN n me lo c e (rd, tk, g) 1).1) ((rN n me lo c e (rd, tk, g) 1).2.1) (zgP n me lo c e rd tk g) k 2 hC hI (by omega) (by omega)) (cwV 3 hts gL_law_X4_half rfl rfl rfl (by decide +kernel) ⟨Nat.le_of_ble_eq_true rfl, Nat.le_of_ble_eq_true rfl⟩) (z_preV hK hK1 hC.1 (ci := 4) (q0 := 0) rfl rfl rfl) rfl rfl hl.1 rfl (lv_room (Nat.le_of_ble_eq_true rfl)) dL_law_675 ⟨by show ck + 0 ≤ 830515; omega, by show sk + 0 ≤ 6609922; omega⟩) ?_
                                                refine lv_bipush (v := 99) hx hb dL_law_678 (by decide) ?_
                                                refine lv_aload hx hb dL_law_680 (lv_at hl 15 rfl) ?_
                                                refine lv_iload hx hb dL_law_682 (lv_at hl 4 rfl) ?_
                                                refine z_aald (a := qh) (n := n) (f := (zbf n (zR3 qh))) (j := o9) hx hb hK4 hV3.1 0 3 rfl rfl rfl rfl (by omega) (by omega) (zbf_in (by omega)) dL_law_684 ?_
                                                refine lv_iload hx hb dL_law_685 (lv_at hl 1 rfl) ?_
                                                refine z_aald (a := (zR3 qh o9)) (n := 2) (f := (zbf 2 (zR2 (zR3 qh o9)))) (j := (k % 2)) hx hb hK4 hr27 0 2 rfl rfl rfl rfl (by omega) (by omega) (zbf_in (by omega)) dL_law_687 ?_
                                                refine lv_iconst (v := 2) hx hb dL_law_688 (by decide) ?_
                                                refine z_iald (a := (zR2 (zR3 qh o9) (k % 2))) (n := 3) (f := (G o9 (k % 2))) (j := 2) hx hb hK hr28 0 0 rfl rfl rfl (by omega) (by omega) dL_law_689 ?_
                                                refine lv_iconst (v := 1) hx hb dL_law_690 (by decide) ?_
                                                refine lv_iadd hx hb dL_law_691 ?_
                                                refine va_mmin hx hb (by rw [hml]; exact hl.1.symm) hown hwd5 hwd6 hwd7 (hwd8) (Nat.le_of_ble_eq_true rfl) (Nat.le_of_ble_eq_true rfl) (hck) (hsk) dL_law_692 ?_
                                                refine z_toi (y := zmin 99 (((G o9 (k % 2)) 2) + 1)) rfl ?_
                                                refine lv_icmp_eq (tgt := 796) hx hb dL_law_695 (by decide) (fun c695 => ?_) (fun c695 => ?_)
                                                · refine lv_iload hx hb dL_law_796 (lv_at hl 4 rfl) ?_
                                                  refine lv_if_ge (tgt := 811) hx hb dL_law_798 (by decide) (fun c798 => ?_) (fun c798 => ?_)
                                                  · have c798 := z_le (a := 0) (b := o9) c798 (by omega) (by omega)
                                                    refine lv_iload hx hb dL_law_811 (lv_at hl 3 rfl) ?_
                                                    refine lv_if_eq (tgt := 833) hx hb dL_law_813 (by decide) (fun c813 => ?_) (fun c813 => ?_)
                                                    · have c813 := z_eq (a := 0) (b := 0) c813 (by omega) (by omega)
                                                      refine lv_iload hx hb dL_law_833 (lv_at hl 2 rfl) ?_
                                                      refine lv_if_eq (tgt := 842) hx hb dL_law_835 (by decide) (fun c835 => ?_) (fun c835 => ?_)
                                                      · exact absurd c835 (by decide)
                                                      · have c835 := z_ne (a := 1) (b := 0) c835 (by omega) (by omega)
                                                        refine lv_iconst (v := 1) hx hb dL_law_838 (by decide) ?_
                                                        refine lv_goto (tgt := 851) hx hb dL_law_839 (by decide) ?_
                                                        refine lv_istore (lv' := [(22, .int 1), (13, .int (((hA lo c e g (0, g) k).1) + 1)), (21, .int (nI (k % 2))), (20, .int 1), (19, .int 0), (18, .int (nI o9)), (17, .int (nI k)), (16, .int (nI (mo (zgP n me lo c e rd tk g) n k))), (15, .int (su (zgP n me lo c e rd tk g) k)), (14, .int (nI (ct (zgP n me lo c e rd tk g) k))), (3, .int (nI tm)), (0, .ref b0), (1, .ref b), (2, .ref o), (5, .int (nI n)), (6, .ref qw), (7, .ref qh), (8, .ref qt), (10, .int rd), (12, .int ((rN n me lo c e (rd, tk, g) 1).2.1 - tk))]) hx hb dL_law_851 hl (by decide) rfl (fun ls hl => ?_)
                                                        refine lv_iload hx hb dL_law_853 (lv_at hl 18 rfl) ?_
                                                        refine lv_aload hx hb dL_law_855 (lv_at hl 15 rfl) ?_
                                                        refine lv_iload hx hb dL_law_857 (lv_at hl 6 rfl) ?_
                                                        refine z_aald (a := qw) (n := n) (f := (zbf n (zR2 qw))) (j := k) hx hb hK4 hW.1 0 2 rfl rfl rfl rfl (by omega) (by omega) (zbf_in (by omega)) dL_law_859 ?_
                                                        refine lv_iconst (v := 2) hx hb dL_law_860 (by decide) ?_
                                                        refine z_iald (a := (zR2 qw k)) (n := 7) (f := (F k)) (j := 2) hx hb hK hr7 0 0 rfl rfl rfl (by omega) (by omega) dL_law_861 ?_
                                                        refine z_toi (y := (me k)) (hFf k 2 (by omega) (by omega)) ?_
                                                        refine lv_iconst (v := 1) hx hb dL_law_862 (by decide) ?_
                                                        refine lv_iadd hx hb dL_law_863 ?_
                                                        refine lv_irem hx hb dL_law_864 (zI_span0 hI hk) ?_
                                                        refine z_toi (y := zrem rd ((me k) + 1)) rfl ?_
                                                        refine lv_if_ne (tgt := 878) hx hb dL_law_865 (by decide) (fun c865 => ?_) (fun c865 => ?_)
                                                        · have hl : lv_has ls 25 [(22, .int 1), (13, .int (((hA lo c e g (0, g) k).1) + 1)), (21, .int (nI (k % 2))), (20, .int 1), (19, .int 0), (18, .int (zo (hd lo e k (c k)))), (17, .int (nI k)), (16, .int (nI (mo (zgP n me lo c e rd tk g) n k))), (15, .int (su (zgP n me lo c e rd tk g) k)), (14, .int (nI (ct (zgP n me lo c e rd tk g) k))), (3, .int (nI tm)), (0, .ref b0), (1, .ref b), (2, .ref o), (5, .int (nI n)), (6, .ref qw), (7, .ref qh), (8, .ref qt), (10, .int rd), (12, .int ((rN n me lo c e (rd, tk, g) 1).2.1 - tk))] := by rw [hhc]; exact hl
                                                          have hl : lv_has ls 25 [(3, .int (nI tm)), (0, .ref b0), (1, .ref b), (2, .ref o), (5, .int (nI n)), (6, .ref qw), (7, .ref qh), (8, .ref qt), (10, .int rd), (12, .int ((rN n me lo c e (rd, tk, g) 1).2.1 - tk)), (13, .int (((hA lo c e g (0, g) k).1) + 1)), (14, .int (nI (ct (zgP n me lo c e rd tk g) k))), (15, .int (su (zgP n me lo c e rd tk g) k)), (16, .int (nI (mo (zgP n me lo c e rd tk g) n k))), (17, .int (nI k)), (18, .int (zo (hd lo e k (c k)))), (22, .int 1)] := lv_sub hl [10, 11, 12, 13, 14, 15, 16, 17, 18, 19, 1, 9, 8, 7, 6, 5, 0] rfl
                                                          refine zlaw_T hfix hK4 hKw hX hb0 hb9 hbs hL hov2 hov3 hcl80 ck sk hck hsk tm htm n me lo c e rd tk g k (((hA lo c e g (0, g) k).1) + 1) 1 qw qh qt F hI hZ hV hN hn0 hZ1 hV1 hk hFf (zsv_n hk (zst_T6 hhc c423 c457) c865) H lo0 hS hC hW (fun ls hl => ?_) _ hl
                                                          refine lv_iinc (v := (nI (k + 1))) (lv' := [(17, .int (nI (k + 1))), (3, .int (nI tm)), (0, .ref b0), (1, .ref b), (2, .ref o), (5, .int (nI n)), (6, .ref qw), (7, .ref qh), (8, .ref qt), (10, .int rd), (12, .int ((rN n me lo c e (rd, tk, g) 1).2.1 - tk)), (13, .int (((hA lo c e g (0, g) k).1) + 1)), (14, .int (nI (ct (zgP n me lo c e rd tk g) (k + 1)))), (15, .int (su (zgP n me lo c e rd tk g) (k + 1))), (16, .int (nI (mo (zgP n me lo c e rd tk g) n (k + 1))))]) hx hb dL_law_1102 hl (k := 14) rfl (nI_1 _) (by decide) rfl (fun ls hl => ?_)
                                                          refine lv_goto (tgt := 387) hx hb dL_law_1105 (by decide) ?_
                                                          exact ih (k + 1) (by omega) (by omega) _ (rfl) _ (rfl) _ (rfl) _ (rfl) _ (hA_T hhc c423 c457) _ (lv_sub hl [0, 14, 13, 12, 11, 1, 2, 3, 4, 5, 6, 7, 8, 9, 10] rfl)
                                                        · refine lv_iconst (v := 0) hx hb dL_law_868 (by decide) ?_
                                                          refine lv_iload hx hb dL_law_869 (lv_at hl 0 rfl) ?_
                                                          refine lv_iconst (v := 1) hx hb dL_law_871 (by decide) ?_
                                                          refine lv_isub hx hb dL_law_872 ?_
                                                          refine va_mmax hx hb (by rw [hml]; exact hl.1.symm) hown hwd9 hwd10 hwd7 (hwd11) (Nat.le_of_ble_eq_true rfl) (Nat.le_of_ble_eq_true rfl) (hck) (hsk) dL_law_873 ?_
                                                          refine z_toi (y := zmax 0 (1 - 1)) rfl ?_
                                                          refine lv_istore (lv' := [(22, .int (zmax 0 (1 - 1))), (13, .int (((hA lo c e g (0, g) k).1) + 1)), (21, .int (nI (k % 2))), (20, .int 1), (19, .int 0), (18, .int (nI o9)), (17, .int (nI k)), (16, .int (nI (mo (zgP n me lo c e rd tk g) n k))), (15, .int (su (zgP n me lo c e rd tk g) k)), (14, .int (nI (ct (zgP n me lo c e rd tk g) k))), (3, .int (nI tm)), (0, .ref b0), (1, .ref b), (2, .ref o), (5, .int (nI n)), (6, .ref qw), (7, .ref qh), (8, .ref qt), (10, .int rd), (12, .int ((rN n me lo c e (rd, tk, g) 1).2.1 - tk))]) hx hb dL_law_876 hl (by decide) rfl (fun ls hl => ?_)
                                                          have hl : lv_has ls 25 [(22, .int (zmax 0 (1 - 1))), (13, .int (((hA lo c e g (0, g) k).1) + 1)), (21, .int (nI (k % 2))), (20, .int 1), (19, .int 0), (18, .int (zo (hd lo e k (c k)))), (17, .int (nI k)), (16, .int (nI (mo (zgP n me lo c e rd tk g) n k))), (15, .int (su (zgP n me lo c e rd tk g) k)), (14, .int (nI (ct (zgP n me lo c e rd tk g) k))), (3, .int (nI tm)), (0, .ref b0), (1, .ref b), (2, .ref o), (5, .int (nI n)), (6, .ref qw), (7, .ref qh), (8, .ref qt), (10, .int rd), (12, .int ((rN n me lo c e (rd, tk, g) 1).2.1 - tk))] := by rw [hhc]; exact hl
                                                          have hl : lv_has ls 25 [(3, .int (nI tm)), (0, .ref b0), (1, .ref b), (2, .ref o), (5, .int (nI n)), (6, .ref qw), (7, .ref qh), (8, .ref qt), (10, .int rd), (12, .int ((rN n me lo c e (rd, tk, g) 1).2.1 - tk)), (13, .int (((hA lo c e g (0, g) k).1) + 1)), (14, .int (nI (ct (zgP n me lo c e rd tk g) k))), (15, .int (su (zgP n me lo c e rd tk g) k)), (16, .int (nI (mo (zgP n me lo c e rd tk g) n k))), (17, .int (nI k)), (18, .int (zo (hd lo e k (c k)))), (22, .int (zmax 0 (1 - 1)))] := lv_sub hl [10, 11, 12, 13, 14, 15, 16, 17, 18, 19, 1, 9, 8, 7, 6, 5, 0] rfl
                                                          refine zlaw_T hfix hK4 hKw hX hb0 hb9 hbs hL hov2 hov3 hcl80 ck sk hck hsk tm htm n me lo c e rd tk g k (((hA lo c e g (0, g) k).1) + 1) (zmax 0 (1 - 1)) qw qh qt F hI hZ hV hN hn0 hZ1 hV1 hk hFf (zsv_y hk (zst_T6 hhc c423 c457) c865) H lo0 hS hC hW (fun ls hl => ?_) _ hl
                                                          refine lv_iinc (v := (nI (k + 1))) (lv' := [(17, .int (nI (k + 1))), (3, .int (nI tm)), (0, .ref b0), (1, .ref b), (2, .ref o), (5, .int (nI n)), (6, .ref qw), (7, .ref qh), (8, .ref qt), (10, .int rd), (12, .int ((rN n me lo c e (rd, tk, g) 1).2.1 - tk)), (13, .int (((hA lo c e g (0, g) k).1) + 1)), (14, .int (nI (ct (zgP n me lo c e rd tk g) (k + 1)))), (15, .int (su (zgP n me lo c e rd tk g) (k + 1))), (16, .int (nI (mo (zgP n me lo c e rd tk g) n (k + 1))))]) hx hb dL_law_1102 hl (k := 14) rfl (nI_1 _) (by decide) rfl (fun ls hl => ?_)
                                                          refine lv_goto (tgt := 387) hx hb dL_law_1105 (by decide) ?_
                                                          exact ih (k + 1) (by omega) (by omega) _ (rfl) _ (rfl) _ (rfl) _ (rfl) _ (hA_T hhc c423 c457) _ (lv_sub hl [0, 14, 13, 12, 11, 1, 2, 3, 4, 5, 6, 7, 8, 9, 10] rfl)
                                                    · exact absurd (by decide) c813
                                                  · have c798 := z_nle (a := 0) (b := o9) c798 (by omega) (by omega)
                                                    omega
                                                · exact absurd (by rw [hGf o9 (k % 2) 2 ho9 (by omega) (by omega), show k % 2 = 0 by omega]; exact z1_T2 hhc c423 c457 hk (by omega)) c695
                                              · have c666 := z_eq (a := k % 2) (b := 1) c666 (by omega) (by omega)
                                                omega
                                          · have c643 := z_eq (a := k % 2) (b := 1) c643 (by omega) (by omega)
                                            omega
                                      · have c612 := z_eq (a := k % 2) (b := 1) c612 (by omega) (by omega)
                                        omega
                                  · exact absurd (by rw [hGf k (1 - k % 2) 2 (by omega) (by omega) (by omega), show 1 - k % 2 = 1 by omega]; exact z1_oth hk (by omega) (by omega)) c596
            · refine lv_iconst (v := 1) hx hb dL_law_426 (by decide) ?_
              refine lv_goto (tgt := 431) hx hb dL_law_427 (by decide) ?_
              refine lv_istore (lv' := [(19, .int 1), (18, .int (nI o9)), (17, .int (nI k)), (16, .int (nI (mo (zgP n me lo c e rd tk g) n k))), (15, .int (su (zgP n me lo c e rd tk g) k)), (14, .int (nI (ct (zgP n me lo c e rd tk g) k))), (13, .int ((hA lo c e g (0, g) k).1)), (3, .int (nI tm)), (0, .ref b0), (1, .ref b), (2, .ref o), (5, .int (nI n)), (6, .ref qw), (7, .ref qh), (8, .ref qt), (10, .int rd), (12, .int ((rN n me lo c e (rd, tk, g) 1).2.1 - tk))]) hx hb dL_law_431 hl (by decide) rfl (fun ls hl => ?_)
              refine lv_iload hx hb dL_law_433 (lv_at hl 1 rfl) ?_
              refine lv_if_lt (tgt := 464) hx hb dL_law_435 (by decide) (fun c435 => ?_) (fun c435 => ?_)
              · have c435 := z_lt (a := o9) (b := 0) c435 (by omega) (by omega)
                omega
              · have c435 := z_nlt (a := o9) (b := 0) c435 (by omega) (by omega)
                refine lv_iload hx hb dL_law_438 (lv_at hl 0 rfl) ?_
                refine lv_if_ne (tgt := 464) hx hb dL_law_440 (by decide) (fun c440 => ?_) (fun c440 => ?_)
                · have c440 := z_ne (a := 1) (b := 0) c440 (by omega) (by omega)
                  refine lv_iconst (v := 0) hx hb dL_law_464 (by decide) ?_
                  refine lv_istore (lv' := [(20, .int 0), (19, .int 1), (18, .int (nI o9)), (17, .int (nI k)), (16, .int (nI (mo (zgP n me lo c e rd tk g) n k))), (15, .int (su (zgP n me lo c e rd tk g) k)), (14, .int (nI (ct (zgP n me lo c e rd tk g) k))), (13, .int ((hA lo c e g (0, g) k).1)), (3, .int (nI tm)), (0, .ref b0), (1, .ref b), (2, .ref o), (5, .int (nI n)), (6, .ref qw), (7, .ref qh), (8, .ref qt), (10, .int rd), (12, .int ((rN n me lo c e (rd, tk, g) 1).2.1 - tk))]) hx hb dL_law_465 hl (by decide) rfl (fun ls hl => ?_)
                  refine lv_iload hx hb dL_law_467 (lv_at hl 3 rfl) ?_
                  refine lv_iconst (v := 2) hx hb dL_law_469 (by decide) ?_
                  refine lv_irem hx hb dL_law_470 (by decide) ?_
                  refine z_toi (y := zrem (nI k) 2) rfl ?_
                  refine z_toi (y := nI (k % 2)) (zrem2 k (by omega)) ?_
                  refine lv_istore (lv' := [(21, .int (nI (k % 2))), (20, .int 0), (19, .int 1), (18, .int (nI o9)), (17, .int (nI k)), (16, .int (nI (mo (zgP n me lo c e rd tk g) n k))), (15, .int (su (zgP n me lo c e rd tk g) k)), (14, .int (nI (ct (zgP n me lo c e rd tk g) k))), (13, .int ((hA lo c e g (0, g) k).1)), (3, .int (nI tm)), (0, .ref b0), (1, .ref b), (2, .ref o), (5, .int (nI n)), (6, .ref qw), (7, .ref qh), (8, .ref qt), (10, .int rd), (12, .int ((rN n me lo c e (rd, tk, g) 1).2.1 - tk))]) hx hb dL_law_471 hl (by decide) rfl (fun ls hl => ?_)
                  refine lv_iload hx hb dL_law_473 (lv_at hl 8 rfl) ?_
                  refine lv_iload hx hb dL_law_475 (lv_at hl 1 rfl) ?_
                  refine lv_if_eq (tgt := 484) hx hb dL_law_477 (by decide) (fun c477 => ?_) (fun c477 => ?_)
                  · have c477 := z_eq (a := 0) (b := 0) c477 (by omega) (by omega)
                    refine lv_iconst (v := 0) hx hb dL_law_484 (by decide) ?_
                    refine lv_iadd hx hb dL_law_485 ?_
                    refine lv_istore (lv' := [(13, .int (((hA lo c e g (0, g) k).1) + 0)), (21, .int (nI (k % 2))), (20, .int 0), (19, .int 1), (18, .int (nI o9)), (17, .int (nI k)), (16, .int (nI (mo (zgP n me lo c e rd tk g) n k))), (15, .int (su (zgP n me lo c e rd tk g) k)), (14, .int (nI (ct (zgP n me lo c e rd tk g) k))), (3, .int (nI tm)), (0, .ref b0), (1, .ref b), (2, .ref o), (5, .int (nI n)), (6, .ref qw), (7, .ref qh), (8, .ref qt), (10, .int rd), (12, .int ((rN n me lo c e (rd, tk, g) 1).2.1 - tk))]) hx hb dL_law_486 hl (by decide) rfl (fun ls hl => ?_)
                    refine lv_aload_n hx hb dL_law_488 rfl (lv_at hl 11 rfl) ?_
                    refine lv_iload hx hb dL_law_489 (lv_at hl 5 rfl) ?_
                    refine lv_iconst (v := 0) hx hb dL_law_491 (by decide) ?_
                    refine z_ki (va_runV (As := [.int (nI k), .int 0]) (rest := []) hfix (zcX4_parrot_k l D cI H b n me lo c e ((rN n me lo c e (rd, tk, g) 1).1) ((rN n me lo c e (rd, tk, g) 1).2.1) (zgP n me lo c e rd tk g) k 0 hC hI (by omega) (by omega)) (cwV 2 hts gL_law_X4_parrot rfl rfl rfl (by decide +kernel) ⟨Nat.le_of_ble_eq_true rfl, Nat.le_of_ble_eq_true rfl⟩) (z_preV hK hK1 hC.1 (ci := 4) (q0 := 0) rfl rfl rfl) rfl rfl hl.1 rfl (lv_room (Nat.le_of_ble_eq_true rfl)) dL_law_492 ⟨by show ck + 0 ≤ 830515; omega, by show sk + 0 ≤ 6609922; omega⟩) ?_
                    refine lv_aload hx hb dL_law_495 (lv_at hl 16 rfl) ?_
                    refine lv_iload hx hb dL_law_497 (lv_at hl 5 rfl) ?_
                    refine z_iald (a := qt) (n := n) (f := T) (j := k) hx hb hK hT 0 0 rfl rfl rfl (by omega) (by omega) dL_law_499 ?_
                    refine lv_icmp_ne (tgt := 599) hx hb dL_law_500 (by decide) (fun c500 => ?_) (fun c500 => ?_)
                    · exact absurd (hTf k (by omega)).symm c500
                    · refine lv_aload_n hx hb dL_law_503 rfl (lv_at hl 11 rfl) ?_
                      refine lv_iload hx hb dL_law_504 (lv_at hl 5 rfl) ?_
                      refine lv_iload hx hb dL_law_506 (lv_at hl 1 rfl) ?_
                      refine lv_if_ne (tgt := 515) hx hb dL_law_508 (by decide) (fun c508 => ?_) (fun c508 => ?_)
                      · have c508 := z_ne (a := k % 2) (b := 0) c508 (by omega) (by omega)
                        refine lv_iconst (v := 0) hx hb dL_law_515 (by decide) ?_
                        refine lv_iconst (v := 0) hx hb dL_law_516 (by decide) ?_
                        refine z_ki (va_runV (As := [.int (nI k), .int 0, .int 0]) (rest := []) hfix (zcX4_half_k0 l D cI H b n me lo c e ((rN n me lo c e (rd, tk, g) 1).1) ((rN n me lo c e (rd, tk, g) 1).2.1) (zgP n me lo c e rd tk g) k 0 hC hI (by omega) (by omega)) (cwV 3 hts gL_law_X4_half rfl rfl rfl (by decide +kernel) ⟨Nat.le_of_ble_eq_true rfl, Nat.le_of_ble_eq_true rfl⟩) (z_preV hK hK1 hC.1 (ci := 4) (q0 := 0) rfl rfl rfl) rfl rfl hl.1 rfl (lv_room (Nat.le_of_ble_eq_true rfl)) dL_law_517 ⟨by show ck + 0 ≤ 830515; omega, by show sk + 0 ≤ 6609922; omega⟩) ?_
                        refine lv_aload hx hb dL_law_520 (lv_at hl 15 rfl) ?_
                        refine lv_iload hx hb dL_law_522 (lv_at hl 5 rfl) ?_
                        refine z_aald (a := qh) (n := n) (f := (zbf n (zR3 qh))) (j := k) hx hb hK4 hV3.1 0 3 rfl rfl rfl rfl (by omega) (by omega) (zbf_in (by omega)) dL_law_524 ?_
                        have hr29 : va_P D vwCl (zQr cA (zR3 qh k) 2 (zbf 2 (zR2 (zR3 qh k)))) H := (hV3.2 k (by omega)).1
                        refine lv_iconst (v := 1) hx hb dL_law_525 (by decide) ?_
                        refine lv_iload hx hb dL_law_526 (lv_at hl 1 rfl) ?_
                        refine lv_isub hx hb dL_law_528 ?_
                        refine z_toi (y := nI (1 - k % 2)) (pk_sub (a := 1) (by omega)) ?_
                        refine z_aald (a := (zR3 qh k)) (n := 2) (f := (zbf 2 (zR2 (zR3 qh k)))) (j := (1 - k % 2)) hx hb hK4 hr29 0 2 rfl rfl rfl rfl (by omega) (by omega) (zbf_in (by omega)) dL_law_529 ?_
                        have hr30 : va_P D vwCl (zAr cI (zR2 (zR3 qh k) (1 - k % 2)) 3 (G k (1 - k % 2))) H := (hV3.2 k (by omega)).2 (1 - k % 2) (by omega)
                        refine lv_iconst (v := 0) hx hb dL_law_530 (by decide) ?_
                        refine z_iald (a := (zR2 (zR3 qh k) (1 - k % 2))) (n := 3) (f := (G k (1 - k % 2))) (j := 0) hx hb hK hr30 0 0 rfl rfl rfl (by omega) (by omega) dL_law_531 ?_
                        refine lv_icmp_ne (tgt := 599) hx hb dL_law_532 (by decide) (fun c532 => ?_) (fun c532 => ?_)
                        · exact absurd (by rw [hGf k (1 - k % 2) 0 (by omega) (by omega) (by omega), show 1 - k % 2 = 0 by omega]; exact z1_oth hk (by omega) (by omega)) c532
                        · refine lv_aload_n hx hb dL_law_535 rfl (lv_at hl 11 rfl) ?_
                          refine lv_iload hx hb dL_law_536 (lv_at hl 5 rfl) ?_
                          refine lv_iload hx hb dL_law_538 (lv_at hl 1 rfl) ?_
                          refine lv_if_ne (tgt := 547) hx hb dL_law_540 (by decide) (fun c540 => ?_) (fun c540 => ?_)
                          · have c540 := z_ne (a := k % 2) (b := 0) c540 (by omega) (by omega)
                            refine lv_iconst (v := 0) hx hb dL_law_547 (by decide) ?_
                            refine lv_iconst (v := 1) hx hb dL_law_548 (by decide) ?_
                            refine z_ki (va_runV (As := [.int (nI k), .int 0, .int 1]) (rest := []) hfix (zcX4_half_k0 l D cI H b n me lo c e ((rN n me lo c e (rd, tk, g) 1).1) ((rN n me lo c e (rd, tk, g) 1).2.1) (zgP n me lo c e rd tk g) k 1 hC hI (by omega) (by omega)) (cwV 3 hts gL_law_X4_half rfl rfl rfl (by decide +kernel) ⟨Nat.le_of_ble_eq_true rfl, Nat.le_of_ble_eq_true rfl⟩) (z_preV hK hK1 hC.1 (ci := 4) (q0 := 0) rfl rfl rfl) rfl rfl hl.1 rfl (lv_room (Nat.le_of_ble_eq_true rfl)) dL_law_549 ⟨by show ck + 0 ≤ 830515; omega, by show sk + 0 ≤ 6609922; omega⟩) ?_
                            refine lv_aload hx hb dL_law_552 (lv_at hl 15 rfl) ?_
                            refine lv_iload hx hb dL_law_554 (lv_at hl 5 rfl) ?_
                            refine z_aald (a := qh) (n := n) (f := (zbf n (zR3 qh))) (j := k) hx hb hK4 hV3.1 0 3 rfl rfl rfl rfl (by omega) (by omega) (zbf_in (by omega)) dL_law_556 ?_
                            refine lv_iconst (v := 1) hx hb dL_law_557 (by decide) ?_
                            refine lv_iload hx hb dL_law_558 (lv_at hl 1 rfl) ?_
                            refine lv_isub hx hb dL_law_560 ?_
                            refine z_toi (y := nI (1 - k % 2)) (pk_sub (a := 1) (by omega)) ?_
                            refine z_aald (a := (zR3 qh k)) (n := 2) (f := (zbf 2 (zR2 (zR3 qh k)))) (j := (1 - k % 2)) hx hb hK4 hr29 0 2 rfl rfl rfl rfl (by omega) (by omega) (zbf_in (by omega)) dL_law_561 ?_
                            refine lv_iconst (v := 1) hx hb dL_law_562 (by decide) ?_
                            refine z_iald (a := (zR2 (zR3 qh k) (1 - k % 2))) (n := 3) (f := (G k (1 - k % 2))) (j := 1) hx hb hK hr30 0 0 rfl rfl rfl (by omega) (by omega) dL_law_563 ?_
                            refine lv_icmp_ne (tgt := 599) hx hb dL_law_564 (by decide) (fun c564 => ?_) (fun c564 => ?_)
                            · exact absurd (by rw [hGf k (1 - k % 2) 1 (by omega) (by omega) (by omega), show 1 - k % 2 = 0 by omega]; exact z1_oth hk (by omega) (by omega)) c564
                            · refine lv_aload_n hx hb dL_law_567 rfl (lv_at hl 11 rfl) ?_
                              refine lv_iload hx hb dL_law_568 (lv_at hl 5 rfl) ?_
                              refine lv_iload hx hb dL_law_570 (lv_at hl 1 rfl) ?_
                              refine lv_if_ne (tgt := 579) hx hb dL_law_572 (by decide) (fun c572 => ?_) (fun c572 => ?_)
                              · have c572 := z_ne (a := k % 2) (b := 0) c572 (by omega) (by omega)
                                refine lv_iconst (v := 0) hx hb dL_law_579 (by decide) ?_
                                refine lv_iconst (v := 2) hx hb dL_law_580 (by decide) ?_
                                refine z_ki (va_runV (As := [.int (nI k), .int 0, .int 2]) (rest := []) hfix (zcX4_half_k0 l D cI H b n me lo c e ((rN n me lo c e (rd, tk, g) 1).1) ((rN n me lo c e (rd, tk, g) 1).2.1) (zgP n me lo c e rd tk g) k 2 hC hI (by omega) (by omega)) (cwV 3 hts gL_law_X4_half rfl rfl rfl (by decide +kernel) ⟨Nat.le_of_ble_eq_true rfl, Nat.le_of_ble_eq_true rfl⟩) (z_preV hK hK1 hC.1 (ci := 4) (q0 := 0) rfl rfl rfl) rfl rfl hl.1 rfl (lv_room (Nat.le_of_ble_eq_true rfl)) dL_law_581 ⟨by show ck + 0 ≤ 830515; omega, by show sk + 0 ≤ 6609922; omega⟩) ?_
                                refine lv_aload hx hb dL_law_584 (lv_at hl 15 rfl) ?_
                                refine lv_iload hx hb dL_law_586 (lv_at hl 5 rfl) ?_
                                refine z_aald (a := qh) (n := n) (f := (zbf n (zR3 qh))) (j := k) hx hb hK4 hV3.1 0 3 rfl rfl rfl rfl (by omega) (by omega) (zbf_in (by omega)) dL_law_588 ?_
                                refine lv_iconst (v := 1) hx hb dL_law_589 (by decide) ?_
                                refine lv_iload hx hb dL_law_590 (lv_at hl 1 rfl) ?_
                                refine lv_isub hx hb dL_law_592 ?_
                                refine z_toi (y := nI (1 - k % 2)) (pk_sub (a := 1) (by omega)) ?_
                                refine z_aald (a := (zR3 qh k)) (n := 2) (f := (zbf 2 (zR2 (zR3 qh k)))) (j := (1 - k % 2)) hx hb hK4 hr29 0 2 rfl rfl rfl rfl (by omega) (by omega) (zbf_in (by omega)) dL_law_593 ?_
                                refine lv_iconst (v := 2) hx hb dL_law_594 (by decide) ?_
                                refine z_iald (a := (zR2 (zR3 qh k) (1 - k % 2))) (n := 3) (f := (G k (1 - k % 2))) (j := 2) hx hb hK hr30 0 0 rfl rfl rfl (by omega) (by omega) dL_law_595 ?_
                                refine lv_icmp_eq (tgt := 601) hx hb dL_law_596 (by decide) (fun c596 => ?_) (fun c596 => ?_)
                                · refine lv_iload hx hb dL_law_601 (lv_at hl 2 rfl) ?_
                                  refine lv_if_eq (tgt := 701) hx hb dL_law_603 (by decide) (fun c603 => ?_) (fun c603 => ?_)
                                  · have c603 := z_eq (a := 0) (b := 0) c603 (by omega) (by omega)
                                    refine lv_aload_n hx hb dL_law_701 rfl (lv_at hl 11 rfl) ?_
                                    refine lv_iload hx hb dL_law_702 (lv_at hl 5 rfl) ?_
                                    refine lv_iload hx hb dL_law_704 (lv_at hl 1 rfl) ?_
                                    refine lv_iconst (v := 1) hx hb dL_law_706 (by decide) ?_
                                    refine lv_icmp_ne (tgt := 714) hx hb dL_law_707 (by decide) (fun c707 => ?_) (fun c707 => ?_)
                                    · have c707 := z_ne (a := k % 2) (b := 1) c707 (by omega) (by omega)
                                      omega
                                    · have c707 := z_eq (a := k % 2) (b := 1) c707 (by omega) (by omega)
                                      refine lv_iconst (v := 1) hx hb dL_law_710 (by decide) ?_
                                      refine lv_goto (tgt := 715) hx hb dL_law_711 (by decide) ?_
                                      refine lv_iconst (v := 0) hx hb dL_law_715 (by decide) ?_
                                      refine z_ki (va_runV (As := [.int (nI k), .int 1, .int 0]) (rest := []) hfix (zcX4_half_k1 l D cI H b n me lo c e ((rN n me lo c e (rd, tk, g) 1).1) ((rN n me lo c e (rd, tk, g) 1).2.1) (zgP n me lo c e rd tk g) k 0 hC hI (by omega) (by omega)) (cwV 3 hts gL_law_X4_half rfl rfl rfl (by decide +kernel) ⟨Nat.le_of_ble_eq_true rfl, Nat.le_of_ble_eq_true rfl⟩) (z_preV hK hK1 hC.1 (ci := 4) (q0 := 0) rfl rfl rfl) rfl rfl hl.1 rfl (lv_room (Nat.le_of_ble_eq_true rfl)) dL_law_716 ⟨by show ck + 0 ≤ 830515; omega, by show sk + 0 ≤ 6609922; omega⟩) ?_
                                      refine lv_aload hx hb dL_law_719 (lv_at hl 15 rfl) ?_
                                      refine lv_iload hx hb dL_law_721 (lv_at hl 5 rfl) ?_
                                      refine z_aald (a := qh) (n := n) (f := (zbf n (zR3 qh))) (j := k) hx hb hK4 hV3.1 0 3 rfl rfl rfl rfl (by omega) (by omega) (zbf_in (by omega)) dL_law_723 ?_
                                      refine lv_iload hx hb dL_law_724 (lv_at hl 1 rfl) ?_
                                      refine z_aald (a := (zR3 qh k)) (n := 2) (f := (zbf 2 (zR2 (zR3 qh k)))) (j := (k % 2)) hx hb hK4 hr29 0 2 rfl rfl rfl rfl (by omega) (by omega) (zbf_in (by omega)) dL_law_726 ?_
                                      have hr31 : va_P D vwCl (zAr cI (zR2 (zR3 qh k) (k % 2)) 3 (G k (k % 2))) H := (hV3.2 k (by omega)).2 (k % 2) (by omega)
                                      refine lv_iconst (v := 0) hx hb dL_law_727 (by decide) ?_
                                      refine z_iald (a := (zR2 (zR3 qh k) (k % 2))) (n := 3) (f := (G k (k % 2))) (j := 0) hx hb hK hr31 0 0 rfl rfl rfl (by omega) (by omega) dL_law_728 ?_
                                      refine lv_icmp_ne (tgt := 794) hx hb dL_law_729 (by decide) (fun c729 => ?_) (fun c729 => ?_)
                                      · exact absurd (by rw [hGf k (k % 2) 0 (by omega) (by omega) (by omega), show k % 2 = 1 by omega]; exact zkp_th (zkp_A hhc c423) hk (by omega) (by omega)) c729
                                      · refine lv_aload_n hx hb dL_law_732 rfl (lv_at hl 11 rfl) ?_
                                        refine lv_iload hx hb dL_law_733 (lv_at hl 5 rfl) ?_
                                        refine lv_iload hx hb dL_law_735 (lv_at hl 1 rfl) ?_
                                        refine lv_iconst (v := 1) hx hb dL_law_737 (by decide) ?_
                                        refine lv_icmp_ne (tgt := 745) hx hb dL_law_738 (by decide) (fun c738 => ?_) (fun c738 => ?_)
                                        · have c738 := z_ne (a := k % 2) (b := 1) c738 (by omega) (by omega)
                                          omega
                                        · have c738 := z_eq (a := k % 2) (b := 1) c738 (by omega) (by omega)
                                          refine lv_iconst (v := 1) hx hb dL_law_741 (by decide) ?_
                                          refine lv_goto (tgt := 746) hx hb dL_law_742 (by decide) ?_
                                          refine lv_iconst (v := 1) hx hb dL_law_746 (by decide) ?_
                                          refine z_ki (va_runV (As := [.int (nI k), .int 1, .int 1]) (rest := []) hfix (zcX4_half_k1 l D cI H b n me lo c e ((rN n me lo c e (rd, tk, g) 1).1) ((rN n me lo c e (rd, tk, g) 1).2.1) (zgP n me lo c e rd tk g) k 1 hC hI (by omega) (by omega)) (cwV 3 hts gL_law_X4_half rfl rfl rfl (by decide +kernel) ⟨Nat.le_of_ble_eq_true rfl, Nat.le_of_ble_eq_true rfl⟩) (z_preV hK hK1 hC.1 (ci := 4) (q0 := 0) rfl rfl rfl) rfl rfl hl.1 rfl (lv_room (Nat.le_of_ble_eq_true rfl)) dL_law_747 ⟨by show ck + 0 ≤ 830515; omega, by show sk + 0 ≤ 6609922; omega⟩) ?_
                                          refine lv_aload hx hb dL_law_750 (lv_at hl 15 rfl) ?_
                                          refine lv_iload hx hb dL_law_752 (lv_at hl 5 rfl) ?_
                                          refine z_aald (a := qh) (n := n) (f := (zbf n (zR3 qh))) (j := k) hx hb hK4 hV3.1 0 3 rfl rfl rfl rfl (by omega) (by omega) (zbf_in (by omega)) dL_law_754 ?_
                                          refine lv_iload hx hb dL_law_755 (lv_at hl 1 rfl) ?_
                                          refine z_aald (a := (zR3 qh k)) (n := 2) (f := (zbf 2 (zR2 (zR3 qh k)))) (j := (k % 2)) hx hb hK4 hr29 0 2 rfl rfl rfl rfl (by omega) (by omega) (zbf_in (by omega)) dL_law_757 ?_
                                          refine lv_iconst (v := 1) hx hb dL_law_758 (by decide) ?_
                                          refine z_iald (a := (zR2 (zR3 qh k) (k % 2))) (n := 3) (f := (G k (k % 2))) (j := 1) hx hb hK hr31 0 0 rfl rfl rfl (by omega) (by omega) dL_law_759 ?_
                                          refine lv_icmp_ne (tgt := 794) hx hb dL_law_760 (by decide) (fun c760 => ?_) (fun c760 => ?_)
                                          · exact absurd (by rw [hGf k (k % 2) 1 (by omega) (by omega) (by omega), show k % 2 = 1 by omega]; exact zkp_th (zkp_A hhc c423) hk (by omega) (by omega)) c760
                                          · refine lv_aload_n hx hb dL_law_763 rfl (lv_at hl 11 rfl) ?_
                                            refine lv_iload hx hb dL_law_764 (lv_at hl 5 rfl) ?_
                                            refine lv_iload hx hb dL_law_766 (lv_at hl 1 rfl) ?_
                                            refine lv_iconst (v := 1) hx hb dL_law_768 (by decide) ?_
                                            refine lv_icmp_ne (tgt := 776) hx hb dL_law_769 (by decide) (fun c769 => ?_) (fun c769 => ?_)
                                            · have c769 := z_ne (a := k % 2) (b := 1) c769 (by omega) (by omega)
                                              omega
                                            · have c769 := z_eq (a := k % 2) (b := 1) c769 (by omega) (by omega)
                                              refine lv_iconst (v := 1) hx hb dL_law_772 (by decide) ?_
                                              refine lv_goto (tgt := 777) hx hb dL_law_773 (by decide) ?_
                                              refine lv_iconst (v := 2) hx hb dL_law_777 (by decide) ?_
                                              refine z_ki (va_runV (As := [.int (nI k), .int 1, .int 2]) (rest := []) hfix (zcX4_half_k1 l D cI H b n me lo c e ((rN n me lo c e (rd, tk, g) 1).1) ((rN n me lo c e (rd, tk, g) 1).2.1) (zgP n me lo c e rd tk g) k 2 hC hI (by omega) (by omega)) (cwV 3 hts gL_law_X4_half rfl rfl rfl (by decide +kernel) ⟨Nat.le_of_ble_eq_true rfl, Nat.le_of_ble_eq_true rfl⟩) (z_preV hK hK1 hC.1 (ci := 4) (q0 := 0) rfl rfl rfl) rfl rfl hl.1 rfl (lv_room (Nat.le_of_ble_eq_true rfl)) dL_law_778 ⟨by show ck + 0 ≤ 830515; omega, by show sk + 0 ≤ 6609922; omega⟩) ?_
                                              refine lv_aload hx hb dL_law_781 (lv_at hl 15 rfl) ?_
                                              refine lv_iload hx hb dL_law_783 (lv_at hl 5 rfl) ?_
                                              refine z_aald (a := qh) (n := n) (f := (zbf n (zR3 qh))) (j := k) hx hb hK4 hV3.1 0 3 rfl rfl rfl rfl (by omega) (by omega) (zbf_in (by omega)) dL_law_785 ?_
                                              refine lv_iload hx hb dL_law_786 (lv_at hl 1 rfl) ?_
                                              refine z_aald (a := (zR3 qh k)) (n := 2) (f := (zbf 2 (zR2 (zR3 qh k)))) (j := (k % 2)) hx hb hK4 hr29 0 2 rfl rfl rfl rfl (by omega) (by omega) (zbf_in (by omega)) dL_law_788 ?_
                                              refine lv_iconst (v := 2) hx hb dL_law_789 (by decide) ?_
                                              refine z_iald (a := (zR2 (zR3 qh k) (k % 2))) (n := 3) (f := (G k (k % 2))) (j := 2) hx hb hK hr31 0 0 rfl rfl rfl (by omega) (by omega) dL_law_790 ?_
                                              refine lv_icmp_eq (tgt := 796) hx hb dL_law_791 (by decide) (fun c791 => ?_) (fun c791 => ?_)
                                              · refine lv_iload hx hb dL_law_796 (lv_at hl 4 rfl) ?_
                                                refine lv_if_ge (tgt := 811) hx hb dL_law_798 (by decide) (fun c798 => ?_) (fun c798 => ?_)
                                                · have c798 := z_le (a := 0) (b := o9) c798 (by omega) (by omega)
                                                  refine lv_iload hx hb dL_law_811 (lv_at hl 3 rfl) ?_
                                                  refine lv_if_eq (tgt := 833) hx hb dL_law_813 (by decide) (fun c813 => ?_) (fun c813 => ?_)
                                                  · exact absurd c813 (by decide)
                                                  · have c813 := z_ne (a := 1) (b := 0) c813 (by omega) (by omega)
                                                    refine lv_bipush (v := 9) hx hb dL_law_816 (by decide) ?_
                                                    refine lv_aload hx hb dL_law_818 (lv_at hl 14 rfl) ?_
                                                    refine lv_iload hx hb dL_law_820 (lv_at hl 5 rfl) ?_
                                                    refine z_aald (a := qw) (n := n) (f := (zbf n (zR2 qw))) (j := k) hx hb hK4 hW.1 0 2 rfl rfl rfl rfl (by omega) (by omega) (zbf_in (by omega)) dL_law_822 ?_
                                                    refine lv_iconst (v := 1) hx hb dL_law_823 (by decide) ?_
                                                    refine z_iald (a := (zR2 qw k)) (n := 7) (f := (F k)) (j := 1) hx hb hK hr7 0 0 rfl rfl rfl (by omega) (by omega) dL_law_824 ?_
                                                    refine z_toi (y := (g 6 k)) (hFf k 1 (by omega) (by omega)) ?_
                                                    refine lv_iconst (v := 1) hx hb dL_law_825 (by decide) ?_
                                                    refine lv_iadd hx hb dL_law_826 ?_
                                                    refine va_mmin hx hb (by rw [hml]; exact hl.1.symm) hown hwd5 hwd6 hwd7 (hwd8) (Nat.le_of_ble_eq_true rfl) (Nat.le_of_ble_eq_true rfl) (hck) (hsk) dL_law_827 ?_
                                                    refine z_toi (y := zmin 9 ((g 6 k) + 1)) rfl ?_
                                                    refine lv_goto (tgt := 851) hx hb dL_law_830 (by decide) ?_
                                                    refine lv_istore (lv' := [(22, .int (zmin 9 ((g 6 k) + 1))), (13, .int (((hA lo c e g (0, g) k).1) + 0)), (21, .int (nI (k % 2))), (20, .int 0), (19, .int 1), (18, .int (nI o9)), (17, .int (nI k)), (16, .int (nI (mo (zgP n me lo c e rd tk g) n k))), (15, .int (su (zgP n me lo c e rd tk g) k)), (14, .int (nI (ct (zgP n me lo c e rd tk g) k))), (3, .int (nI tm)), (0, .ref b0), (1, .ref b), (2, .ref o), (5, .int (nI n)), (6, .ref qw), (7, .ref qh), (8, .ref qt), (10, .int rd), (12, .int ((rN n me lo c e (rd, tk, g) 1).2.1 - tk))]) hx hb dL_law_851 hl (by decide) rfl (fun ls hl => ?_)
                                                    refine lv_iload hx hb dL_law_853 (lv_at hl 18 rfl) ?_
                                                    refine lv_aload hx hb dL_law_855 (lv_at hl 15 rfl) ?_
                                                    refine lv_iload hx hb dL_law_857 (lv_at hl 6 rfl) ?_
                                                    refine z_aald (a := qw) (n := n) (f := (zbf n (zR2 qw))) (j := k) hx hb hK4 hW.1 0 2 rfl rfl rfl rfl (by omega) (by omega) (zbf_in (by omega)) dL_law_859 ?_
                                                    refine lv_iconst (v := 2) hx hb dL_law_860 (by decide) ?_
                                                    refine z_iald (a := (zR2 qw k)) (n := 7) (f := (F k)) (j := 2) hx hb hK hr7 0 0 rfl rfl rfl (by omega) (by omega) dL_law_861 ?_
                                                    refine z_toi (y := (me k)) (hFf k 2 (by omega) (by omega)) ?_
                                                    refine lv_iconst (v := 1) hx hb dL_law_862 (by decide) ?_
                                                    refine lv_iadd hx hb dL_law_863 ?_
                                                    refine lv_irem hx hb dL_law_864 (zI_span0 hI hk) ?_
                                                    refine z_toi (y := zrem rd ((me k) + 1)) rfl ?_
                                                    refine lv_if_ne (tgt := 878) hx hb dL_law_865 (by decide) (fun c865 => ?_) (fun c865 => ?_)
                                                    · have hl : lv_has ls 25 [(22, .int (zmin 9 ((g 6 k) + 1))), (13, .int (((hA lo c e g (0, g) k).1) + 0)), (21, .int (nI (k % 2))), (20, .int 0), (19, .int 1), (18, .int (zo (hd lo e k (c k)))), (17, .int (nI k)), (16, .int (nI (mo (zgP n me lo c e rd tk g) n k))), (15, .int (su (zgP n me lo c e rd tk g) k)), (14, .int (nI (ct (zgP n me lo c e rd tk g) k))), (3, .int (nI tm)), (0, .ref b0), (1, .ref b), (2, .ref o), (5, .int (nI n)), (6, .ref qw), (7, .ref qh), (8, .ref qt), (10, .int rd), (12, .int ((rN n me lo c e (rd, tk, g) 1).2.1 - tk))] := by rw [hhc]; exact hl
                                                      have hl : lv_has ls 25 [(3, .int (nI tm)), (0, .ref b0), (1, .ref b), (2, .ref o), (5, .int (nI n)), (6, .ref qw), (7, .ref qh), (8, .ref qt), (10, .int rd), (12, .int ((rN n me lo c e (rd, tk, g) 1).2.1 - tk)), (13, .int (((hA lo c e g (0, g) k).1) + 0)), (14, .int (nI (ct (zgP n me lo c e rd tk g) k))), (15, .int (su (zgP n me lo c e rd tk g) k)), (16, .int (nI (mo (zgP n me lo c e rd tk g) n k))), (17, .int (nI k)), (18, .int (zo (hd lo e k (c k)))), (22, .int (zmin 9 ((g 6 k) + 1)))] := lv_sub hl [10, 11, 12, 13, 14, 15, 16, 17, 18, 19, 1, 9, 8, 7, 6, 5, 0] rfl
                                                      refine zlaw_T hfix hK4 hKw hX hb0 hb9 hbs hL hov2 hov3 hcl80 ck sk hck hsk tm htm n me lo c e rd tk g k (((hA lo c e g (0, g) k).1) + 0) (zmin 9 ((g 6 k) + 1)) qw qh qt F hI hZ hV hN hn0 hZ1 hV1 hk hFf (zsv_n hk ((zkp_A hhc c423).2.1.trans (zmin_comm _ _)) c865) H lo0 hS hC hW (fun ls hl => ?_) _ hl
                                                      refine lv_iinc (v := (nI (k + 1))) (lv' := [(17, .int (nI (k + 1))), (3, .int (nI tm)), (0, .ref b0), (1, .ref b), (2, .ref o), (5, .int (nI n)), (6, .ref qw), (7, .ref qh), (8, .ref qt), (10, .int rd), (12, .int ((rN n me lo c e (rd, tk, g) 1).2.1 - tk)), (13, .int (((hA lo c e g (0, g) k).1) + 0)), (14, .int (nI (ct (zgP n me lo c e rd tk g) (k + 1)))), (15, .int (su (zgP n me lo c e rd tk g) (k + 1))), (16, .int (nI (mo (zgP n me lo c e rd tk g) n (k + 1))))]) hx hb dL_law_1102 hl (k := 14) rfl (nI_1 _) (by decide) rfl (fun ls hl => ?_)
                                                      refine lv_goto (tgt := 387) hx hb dL_law_1105 (by decide) ?_
                                                      exact ih (k + 1) (by omega) (by omega) _ (rfl) _ (rfl) _ (rfl) _ (rfl) _ (hA_kp (zkp_A hhc c423)) _ (lv_sub hl [0, 14, 13, 12, 11, 1, 2, 3, 4, 5, 6, 7, 8, 9, 10] rfl)
                                                    · refine lv_iconst (v := 0) hx hb dL_law_868 (by decide) ?_
                                                      refine lv_iload hx hb dL_law_869 (lv_at hl 0 rfl) ?_
                                                      refine lv_iconst (v := 1) hx hb dL_law_871 (by decide) ?_
                                                      refine lv_isub hx hb dL_law_872 ?_
                                                      refine va_mmax hx hb (by rw [hml]; exact hl.1.symm) hown hwd9 hwd10 hwd7 (hwd11) (Nat.le_of_ble_eq_true rfl) (Nat.le_of_ble_eq_true rfl) (hck) (hsk) dL_law_873 ?_
                                                      refine z_toi (y := zmax 0 ((zmin 9 ((g 6 k) + 1)) - 1)) rfl ?_
                                                      refine lv_istore (lv' := [(22, .int (zmax 0 ((zmin 9 ((g 6 k) + 1)) - 1))), (13, .int (((hA lo c e g (0, g) k).1) + 0)), (21, .int (nI (k % 2))), (20, .int 0), (19, .int 1), (18, .int (nI o9)), (17, .int (nI k)), (16, .int (nI (mo (zgP n me lo c e rd tk g) n k))), (15, .int (su (zgP n me lo c e rd tk g) k)), (14, .int (nI (ct (zgP n me lo c e rd tk g) k))), (3, .int (nI tm)), (0, .ref b0), (1, .ref b), (2, .ref o), (5, .int (nI n)), (6, .ref qw), (7, .ref qh), (8, .ref qt), (10, .int rd), (12, .int ((rN n me lo c e (rd, tk, g) 1).2.1 - tk))]) hx hb dL_law_876 hl (by decide) rfl (fun ls hl => ?_)
                                                      have hl : lv_has ls 25 [(22, .int (zmax 0 ((zmin 9 ((g 6 k) + 1)) - 1))), (13, .int (((hA lo c e g (0, g) k).1) + 0)), (21, .int (nI (k % 2))), (20, .int 0), (19, .int 1), (18, .int (zo (hd lo e k (c k)))), (17, .int (nI k)), (16, .int (nI (mo (zgP n me lo c e rd tk g) n k))), (15, .int (su (zgP n me lo c e rd tk g) k)), (14, .int (nI (ct (zgP n me lo c e rd tk g) k))), (3, .int (nI tm)), (0, .ref b0), (1, .ref b), (2, .ref o), (5, .int (nI n)), (6, .ref qw), (7, .ref qh), (8, .ref qt), (10, .int rd), (12, .int ((rN n me lo c e (rd, tk, g) 1).2.1 - tk))] := by rw [hhc]; exact hl
                                                      have hl : lv_has ls 25 [(3, .int (nI tm)), (0, .ref b0), (1, .ref b), (2, .ref o), (5, .int (nI n)), (6, .ref qw), (7, .ref qh), (8, .ref qt), (10, .int rd), (12, .int ((rN n me lo c e (rd, tk, g) 1).2.1 - tk)), (13, .int (((hA lo c e g (0, g) k).1) + 0)), (14, .int (nI (ct (zgP n me lo c e rd tk g) k))), (15, .int (su (zgP n me lo c e rd tk g) k)), (16, .int (nI (mo (zgP n me lo c e rd tk g) n k))), (17, .int (nI k)), (18, .int (zo (hd lo e k (c k)))), (22, .int (zmax 0 ((zmin 9 ((g 6 k) + 1)) - 1)))] := lv_sub hl [10, 11, 12, 13, 14, 15, 16, 17, 18, 19, 1, 9, 8, 7, 6, 5, 0] rfl
                                                      refine zlaw_T hfix hK4 hKw hX hb0 hb9 hbs hL hov2 hov3 hcl80 ck sk hck hsk tm htm n me lo c e rd tk g k (((hA lo c e g (0, g) k).1) + 0) (zmax 0 ((zmin 9 ((g 6 k) + 1)) - 1)) qw qh qt F hI hZ hV hN hn0 hZ1 hV1 hk hFf (zsv_y hk ((zkp_A hhc c423).2.1.trans (zmin_comm _ _)) c865) H lo0 hS hC hW (fun ls hl => ?_) _ hl
                                                      refine lv_iinc (v := (nI (k + 1))) (lv' := [(17, .int (nI (k + 1))), (3, .int (nI tm)), (0, .ref b0), (1, .ref b), (2, .ref o), (5, .int (nI n)), (6, .ref qw), (7, .ref qh), (8, .ref qt), (10, .int rd), (12, .int ((rN n me lo c e (rd, tk, g) 1).2.1 - tk)), (13, .int (((hA lo c e g (0, g) k).1) + 0)), (14, .int (nI (ct (zgP n me lo c e rd tk g) (k + 1)))), (15, .int (su (zgP n me lo c e rd tk g) (k + 1))), (16, .int (nI (mo (zgP n me lo c e rd tk g) n (k + 1))))]) hx hb dL_law_1102 hl (k := 14) rfl (nI_1 _) (by decide) rfl (fun ls hl => ?_)
                                                      refine lv_goto (tgt := 387) hx hb dL_law_1105 (by decide) ?_
                                                      exact ih (k + 1) (by omega) (by omega) _ (rfl) _ (rfl) _ (rfl) _ (rfl) _ (hA_kp (zkp_A hhc c423)) _ (lv_sub hl [0, 14, 13, 12, 11, 1, 2, 3, 4, 5, 6, 7, 8, 9, 10] rfl)
                                                · have c798 := z_nle (a := 0) (b := o9) c798 (by omega) (by omega)
                                                  omega
                                              · exact absurd (by rw [hGf k (k % 2) 2 (by omega) (by omega) (by omega), show k % 2 = 1 by omega]; exact zkp_th (zkp_A hhc c423) hk (by omega) (by omega)) c791
                                  · exact absurd (by decide) c603
                                · exact absurd (by rw [hGf k (1 - k % 2) 2 (by omega) (by omega) (by omega), show 1 - k % 2 = 0 by omega]; exact z1_oth hk (by omega) (by omega)) c596
                              · have c572 := z_eq (a := k % 2) (b := 0) c572 (by omega) (by omega)
                                exact absurd c572 c508
                          · have c540 := z_eq (a := k % 2) (b := 0) c540 (by omega) (by omega)
                            exact absurd c540 c508
                      · have c508 := z_eq (a := k % 2) (b := 0) c508 (by omega) (by omega)
                        refine lv_iconst (v := 1) hx hb dL_law_511 (by decide) ?_
                        refine lv_goto (tgt := 516) hx hb dL_law_512 (by decide) ?_
                        refine lv_iconst (v := 0) hx hb dL_law_516 (by decide) ?_
                        refine z_ki (va_runV (As := [.int (nI k), .int 1, .int 0]) (rest := []) hfix (zcX4_half_k1 l D cI H b n me lo c e ((rN n me lo c e (rd, tk, g) 1).1) ((rN n me lo c e (rd, tk, g) 1).2.1) (zgP n me lo c e rd tk g) k 0 hC hI (by omega) (by omega)) (cwV 3 hts gL_law_X4_half rfl rfl rfl (by decide +kernel) ⟨Nat.le_of_ble_eq_true rfl, Nat.le_of_ble_eq_true rfl⟩) (z_preV hK hK1 hC.1 (ci := 4) (q0 := 0) rfl rfl rfl) rfl rfl hl.1 rfl (lv_room (Nat.le_of_ble_eq_true rfl)) dL_law_517 ⟨by show ck + 0 ≤ 830515; omega, by show sk + 0 ≤ 6609922; omega⟩) ?_
                        refine lv_aload hx hb dL_law_520 (lv_at hl 15 rfl) ?_
                        refine lv_iload hx hb dL_law_522 (lv_at hl 5 rfl) ?_
                        refine z_aald (a := qh) (n := n) (f := (zbf n (zR3 qh))) (j := k) hx hb hK4 hV3.1 0 3 rfl rfl rfl rfl (by omega) (by omega) (zbf_in (by omega)) dL_law_524 ?_
                        have hr32 : va_P D vwCl (zQr cA (zR3 qh k) 2 (zbf 2 (zR2 (zR3 qh k)))) H := (hV3.2 k (by omega)).1
                        refine lv_iconst (v := 1) hx hb dL_law_525 (by decide) ?_
                        refine lv_iload hx hb dL_law_526 (lv_at hl 1 rfl) ?_
                        refine lv_isub hx hb dL_law_528 ?_
                        refine z_toi (y := nI (1 - k % 2)) (pk_sub (a := 1) (by omega)) ?_
                        refine z_aald (a := (zR3 qh k)) (n := 2) (f := (zbf 2 (zR2 (zR3 qh k)))) (j := (1 - k % 2)) hx hb hK4 hr32 0 2 rfl rfl rfl rfl (by omega) (by omega) (zbf_in (by omega)) dL_law_529 ?_
                        have hr33 : va_P D vwCl (zAr cI (zR2 (zR3 qh k) (1 - k % 2)) 3 (G k (1 - k % 2))) H := (hV3.2 k (by omega)).2 (1 - k % 2) (by omega)
                        refine lv_iconst (v := 0) hx hb dL_law_530 (by decide) ?_
                        refine z_iald (a := (zR2 (zR3 qh k) (1 - k % 2))) (n := 3) (f := (G k (1 - k % 2))) (j := 0) hx hb hK hr33 0 0 rfl rfl rfl (by omega) (by omega) dL_law_531 ?_
                        refine lv_icmp_ne (tgt := 599) hx hb dL_law_532 (by decide) (fun c532 => ?_) (fun c532 => ?_)
                        · exact absurd (by rw [hGf k (1 - k % 2) 0 (by omega) (by omega) (by omega), show 1 - k % 2 = 1 by omega]; exact z1_oth hk (by omega) (by omega)) c532
                        · refine lv_aload_n hx hb dL_law_535 rfl (lv_at hl 11 rfl) ?_
                          refine lv_iload hx hb dL_law_536 (lv_at hl 5 rfl) ?_
                          refine lv_iload hx hb dL_law_538 (lv_at hl 1 rfl) ?_
                          refine lv_if_ne (tgt := 547) hx hb dL_law_540 (by decide) (fun c540 => ?_) (fun c540 => ?_)
                          · have c540 := z_ne (a := k % 2) (b := 0) c540 (by omega) (by omega)
                            exact absurd c508 c540
                          · have c540 := z_eq (a := k % 2) (b := 0) c540 (by omega) (by omega)
                            refine lv_iconst (v := 1) hx hb dL_law_543 (by decide) ?_
                            refine lv_goto (tgt := 548) hx hb dL_law_544 (by decide) ?_
                            refine lv_iconst (v := 1) hx hb dL_law_548 (by decide) ?_
                            refine z_ki (va_runV (As := [.int (nI k), .int 1, .int 1]) (rest := []) hfix (zcX4_half_k1 l D cI H b n me lo c e ((rN n me lo c e (rd, tk, g) 1).1) ((rN n me lo c e (rd, tk, g) 1).2.1) (zgP n me lo c e rd tk g) k 1 hC hI (by omega) (by omega)) (cwV 3 hts gL_law_X4_half rfl rfl rfl (by decide +kernel) ⟨Nat.le_of_ble_eq_true rfl, Nat.le_of_ble_eq_true rfl⟩) (z_preV hK hK1 hC.1 (ci := 4) (q0 := 0) rfl rfl rfl) rfl rfl hl.1 rfl (lv_room (Nat.le_of_ble_eq_true rfl)) dL_law_549 ⟨by show ck + 0 ≤ 830515; omega, by show sk + 0 ≤ 6609922; omega⟩) ?_
                            refine lv_aload hx hb dL_law_552 (lv_at hl 15 rfl) ?_
                            refine lv_iload hx hb dL_law_554 (lv_at hl 5 rfl) ?_
                            refine z_aald (a := qh) (n := n) (f := (zbf n (zR3 qh))) (j := k) hx hb hK4 hV3.1 0 3 rfl rfl rfl rfl (by omega) (by omega) (zbf_in (by omega)) dL_law_556 ?_
                            refine lv_iconst (v := 1) hx hb dL_law_557 (by decide) ?_
                            refine lv_iload hx hb dL_law_558 (lv_at hl 1 rfl) ?_
                            refine lv_isub hx hb dL_law_560 ?_
                            refine z_toi (y := nI (1 - k % 2)) (pk_sub (a := 1) (by omega)) ?_
                            refine z_aald (a := (zR3 qh k)) (n := 2) (f := (zbf 2 (zR2 (zR3 qh k)))) (j := (1 - k % 2)) hx hb hK4 hr32 0 2 rfl rfl rfl rfl (by omega) (by omega) (zbf_in (by omega)) dL_law_561 ?_
                            refine lv_iconst (v := 1) hx hb dL_law_562 (by decide) ?_
                            refine z_iald (a := (zR2 (zR3 qh k) (1 - k % 2))) (n := 3) (f := (G k (1 - k % 2))) (j := 1) hx hb hK hr33 0 0 rfl rfl rfl (by omega) (by omega) dL_law_563 ?_
                            refine lv_icmp_ne (tgt := 599) hx hb dL_law_564 (by decide) (fun c564 => ?_) (fun c564 => ?_)
                            · exact absurd (by rw [hGf k (1 - k % 2) 1 (by omega) (by omega) (by omega), show 1 - k % 2 = 1 by omega]; exact z1_oth hk (by omega) (by omega)) c564
                            · refine lv_aload_n hx hb dL_law_567 rfl (lv_at hl 11 rfl) ?_
                              refine lv_iload hx hb dL_law_568 (lv_at hl 5 rfl) ?_
                              refine lv_iload hx hb dL_law_570 (lv_at hl 1 rfl) ?_
                              refine lv_if_ne (tgt := 579) hx hb dL_law_572 (by decide) (fun c572 => ?_) (fun c572 => ?_)
                              · have c572 := z_ne (a := k % 2) (b := 0) c572 (by omega) (by omega)
                                exact absurd c508 c572
                              · have c572 := z_eq (a := k % 2) (b := 0) c572 (by omega) (by omega)
                                refine lv_iconst (v := 1) hx hb dL_law_575 (by decide) ?_
                                refine lv_goto (tgt := 580) hx hb dL_law_576 (by decide) ?_
                                refine lv_iconst (v := 2) hx hb dL_law_580 (by decide) ?_
                                refine z_ki (va_runV (As := [.int (nI k), .int 1, .int 2]) (rest := []) hfix (zcX4_half_k1 l D cI H b n me lo c e ((rN n me lo c e (rd, tk, g) 1).1) ((rN n me lo c e (rd, tk, g) 1).2.1) (zgP n me lo c e rd tk g) k 2 hC hI (by omega) (by omega)) (cwV 3 hts gL_law_X4_half rfl rfl rfl (by decide +kernel) ⟨Nat.le_of_ble_eq_true rfl, Nat.le_of_ble_eq_true rfl⟩) (z_preV hK hK1 hC.1 (ci := 4) (q0 := 0) rfl rfl rfl) rfl rfl hl.1 rfl (lv_room (Nat.le_of_ble_eq_true rfl)) dL_law_581 ⟨by show ck + 0 ≤ 830515; omega, by show sk + 0 ≤ 6609922; omega⟩) ?_
                                refine lv_aload hx hb dL_law_584 (lv_at hl 15 rfl) ?_
                                refine lv_iload hx hb dL_law_586 (lv_at hl 5 rfl) ?_
                                refine z_aald (a := qh) (n := n) (f := (zbf n (zR3 qh))) (j := k) hx hb hK4 hV3.1 0 3 rfl rfl rfl rfl (by omega) (by omega) (zbf_in (by omega)) dL_law_588 ?_
                                refine lv_iconst (v := 1) hx hb dL_law_589 (by decide) ?_
                                refine lv_iload hx hb dL_law_590 (lv_at hl 1 rfl) ?_
                                refine lv_isub hx hb dL_law_592 ?_
                                refine z_toi (y := nI (1 - k % 2)) (pk_sub (a := 1) (by omega)) ?_
                                refine z_aald (a := (zR3 qh k)) (n := 2) (f := (zbf 2 (zR2 (zR3 qh k)))) (j := (1 - k % 2)) hx hb hK4 hr32 0 2 rfl rfl rfl rfl (by omega) (by omega) (zbf_in (by omega)) dL_law_593 ?_
                                refine lv_iconst (v := 2) hx hb dL_law_594 (by decide) ?_
                                refine z_iald (a := (zR2 (zR3 qh k) (1 - k % 2))) (n := 3) (f := (G k (1 - k % 2))) (j := 2) hx hb hK hr33 0 0 rfl rfl rfl (by omega) (by omega) dL_law_595 ?_
                                refine lv_icmp_eq (tgt := 601) hx hb dL_law_596 (by decide) (fun c596 => ?_) (fun c596 => ?_)
                                · refine lv_iload hx hb dL_law_601 (lv_at hl 2 rfl) ?_
                                  refine lv_if_eq (tgt := 701) hx hb dL_law_603 (by decide) (fun c603 => ?_) (fun c603 => ?_)
                                  · have c603 := z_eq (a := 0) (b := 0) c603 (by omega) (by omega)
                                    refine lv_aload_n hx hb dL_law_701 rfl (lv_at hl 11 rfl) ?_
                                    refine lv_iload hx hb dL_law_702 (lv_at hl 5 rfl) ?_
                                    refine lv_iload hx hb dL_law_704 (lv_at hl 1 rfl) ?_
                                    refine lv_iconst (v := 1) hx hb dL_law_706 (by decide) ?_
                                    refine lv_icmp_ne (tgt := 714) hx hb dL_law_707 (by decide) (fun c707 => ?_) (fun c707 => ?_)
                                    · have c707 := z_ne (a := k % 2) (b := 1) c707 (by omega) (by omega)
                                      refine lv_iconst (v := 0) hx hb dL_law_714 (by decide) ?_
                                      refine lv_iconst (v := 0) hx hb dL_law_715 (by decide) ?_
                                      refine z_ki (va_runV (As := [.int (nI k), .int 0, .int 0]) (rest := []) hfix (zcX4_half_k0 l D cI H b n me lo c e ((rN n me lo c e (rd, tk, g) 1).1) ((rN n me lo c e (rd, tk, g) 1).2.1) (zgP n me lo c e rd tk g) k 0 hC hI (by omega) (by omega)) (cwV 3 hts gL_law_X4_half rfl rfl rfl (by decide +kernel) ⟨Nat.le_of_ble_eq_true rfl, Nat.le_of_ble_eq_true rfl⟩) (z_preV hK hK1 hC.1 (ci := 4) (q0 := 0) rfl rfl rfl) rfl rfl hl.1 rfl (lv_room (Nat.le_of_ble_eq_true rfl)) dL_law_716 ⟨by show ck + 0 ≤ 830515; omega, by show sk + 0 ≤ 6609922; omega⟩) ?_
                                      refine lv_aload hx hb dL_law_719 (lv_at hl 15 rfl) ?_
                                      refine lv_iload hx hb dL_law_721 (lv_at hl 5 rfl) ?_
                                      refine z_aald (a := qh) (n := n) (f := (zbf n (zR3 qh))) (j := k) hx hb hK4 hV3.1 0 3 rfl rfl rfl rfl (by omega) (by omega) (zbf_in (by omega)) dL_law_723 ?_
                                      refine lv_iload hx hb dL_law_724 (lv_at hl 1 rfl) ?_
                                      refine z_aald (a := (zR3 qh k)) (n := 2) (f := (zbf 2 (zR2 (zR3 qh k)))) (j := (k % 2)) hx hb hK4 hr32 0 2 rfl rfl rfl rfl (by omega) (by omega) (zbf_in (by omega)) dL_law_726 ?_
                                      have hr34 : va_P D vwCl (zAr cI (zR2 (zR3 qh k) (k % 2)) 3 (G k (k % 2))) H := (hV3.2 k (by omega)).2 (k % 2) (by omega)
                                      refine lv_iconst (v := 0) hx hb dL_law_727 (by decide) ?_
                                      refine z_iald (a := (zR2 (zR3 qh k) (k % 2))) (n := 3) (f := (G k (k % 2))) (j := 0) hx hb hK hr34 0 0 rfl rfl rfl (by omega) (by omega) dL_law_728 ?_
                                      refine lv_icmp_ne (tgt := 794) hx hb dL_law_729 (by decide) (fun c729 => ?_) (fun c729 => ?_)
                                      · exact absurd (by rw [hGf k (k % 2) 0 (by omega) (by omega) (by omega), show k % 2 = 0 by omega]; exact zkp_th (zkp_A hhc c423) hk (by omega) (by omega)) c729
                                      · refine lv_aload_n hx hb dL_law_732 rfl (lv_at hl 11 rfl) ?_
                                        refine lv_iload hx hb dL_law_733 (lv_at hl 5 rfl) ?_
                                        refine lv_iload hx hb dL_law_735 (lv_at hl 1 rfl) ?_
                                        refine lv_iconst (v := 1) hx hb dL_law_737 (by decide) ?_
                                        refine lv_icmp_ne (tgt := 745) hx hb dL_law_738 (by decide) (fun c738 => ?_) (fun c738 => ?_)
                                        · have c738 := z_ne (a := k % 2) (b := 1) c738 (by omega) (by omega)
                                          refine lv_iconst (v := 0) hx hb dL_law_745 (by decide) ?_
                                          refine lv_iconst (v := 1) hx hb dL_law_746 (by decide) ?_
                                          refine z_ki (va_runV (As := [.int (nI k), .int 0, .int 1]) (rest := []) hfix (zcX4_half_k0 l D cI H b n me lo c e ((rN n me lo c e (rd, tk, g) 1).1) ((rN n me lo c e (rd, tk, g) 1).2.1) (zgP n me lo c e rd tk g) k 1 hC hI (by omega) (by omega)) (cwV 3 hts gL_law_X4_half rfl rfl rfl (by decide +kernel) ⟨Nat.le_of_ble_eq_true rfl, Nat.le_of_ble_eq_true rfl⟩) (z_preV hK hK1 hC.1 (ci := 4) (q0 := 0) rfl rfl rfl) rfl rfl hl.1 rfl (lv_room (Nat.le_of_ble_eq_true rfl)) dL_law_747 ⟨by show ck + 0 ≤ 830515; omega, by show sk + 0 ≤ 6609922; omega⟩) ?_
                                          refine lv_aload hx hb dL_law_750 (lv_at hl 15 rfl) ?_
                                          refine lv_iload hx hb dL_law_752 (lv_at hl 5 rfl) ?_
                                          refine z_aald (a := qh) (n := n) (f := (zbf n (zR3 qh))) (j := k) hx hb hK4 hV3.1 0 3 rfl rfl rfl rfl (by omega) (by omega) (zbf_in (by omega)) dL_law_754 ?_
                                          refine lv_iload hx hb dL_law_755 (lv_at hl 1 rfl) ?_
                                          refine z_aald (a := (zR3 qh k)) (n := 2) (f := (zbf 2 (zR2 (zR3 qh k)))) (j := (k % 2)) hx hb hK4 hr32 0 2 rfl rfl rfl rfl (by omega) (by omega) (zbf_in (by omega)) dL_law_757 ?_
                                          refine lv_iconst (v := 1) hx hb dL_law_758 (by decide) ?_
                                          refine z_iald (a := (zR2 (zR3 qh k) (k % 2))) (n := 3) (f := (G k (k % 2))) (j := 1) hx hb hK hr34 0 0 rfl rfl rfl (by omega) (by omega) dL_law_759 ?_
                                          refine lv_icmp_ne (tgt := 794) hx hb dL_law_760 (by decide) (fun c760 => ?_) (fun c760 => ?_)
                                          · exact absurd (by rw [hGf k (k % 2) 1 (by omega) (by omega) (by omega), show k % 2 = 0 by omega]; exact zkp_th (zkp_A hhc c423) hk (by omega) (by omega)) c760
                                          · refine lv_aload_n hx hb dL_law_763 rfl (lv_at hl 11 rfl) ?_
                                            refine lv_iload hx hb dL_law_764 (lv_at hl 5 rfl) ?_
                                            refine lv_iload hx hb dL_law_766 (lv_at hl 1 rfl) ?_
                                            refine lv_iconst (v := 1) hx hb dL_law_768 (by decide) ?_
                                            refine lv_icmp_ne (tgt := 776) hx hb dL_law_769 (by decide) (fun c769 => ?_) (fun c769 => ?_)
                                            · have c769 := z_ne (a := k % 2) (b := 1) c769 (by omega) (by omega)
                                              refine lv_iconst (v := 0) hx hb dL_law_776 (by decide) ?_
                                              refine lv_iconst (v := 2) hx hb dL_law_777 (by decide) ?_
                                              refine z_ki (va_runV (As := [.int (nI k), .int 0, .int 2]) (rest := []) hfix (zcX4_half_k0 l D cI H b n me lo c e ((rN n me lo c e (rd, tk, g) 1).1) ((rN n me lo c e (rd, tk, g) 1).2.1) (zgP n me lo c e rd tk g) k 2 hC hI (by omega) (by omega)) (cwV 3 hts gL_law_X4_half rfl rfl rfl (by decide +kernel) ⟨Nat.le_of_ble_eq_true rfl, Nat.le_of_ble_eq_true rfl⟩) (z_preV hK hK1 hC.1 (ci := 4) (q0 := 0) rfl rfl rfl) rfl rfl hl.1 rfl (lv_room (Nat.le_of_ble_eq_true rfl)) dL_law_778 ⟨by show ck + 0 ≤ 830515; omega, by show sk + 0 ≤ 6609922; omega⟩) ?_
                                              refine lv_aload hx hb dL_law_781 (lv_at hl 15 rfl) ?_
                                              refine lv_iload hx hb dL_law_783 (lv_at hl 5 rfl) ?_
                                              refine z_aald (a := qh) (n := n) (f := (zbf n (zR3 qh))) (j := k) hx hb hK4 hV3.1 0 3 rfl rfl rfl rfl (by omega) (by omega) (zbf_in (by omega)) dL_law_785 ?_
                                              refine lv_iload hx hb dL_law_786 (lv_at hl 1 rfl) ?_
                                              refine z_aald (a := (zR3 qh k)) (n := 2) (f := (zbf 2 (zR2 (zR3 qh k)))) (j := (k % 2)) hx hb hK4 hr32 0 2 rfl rfl rfl rfl (by omega) (by omega) (zbf_in (by omega)) dL_law_788 ?_
                                              refine lv_iconst (v := 2) hx hb dL_law_789 (by decide) ?_
                                              refine z_iald (a := (zR2 (zR3 qh k) (k % 2))) (n := 3) (f := (G k (k % 2))) (j := 2) hx hb hK hr34 0 0 rfl rfl rfl (by omega) (by omega) dL_law_790 ?_
                                              refine lv_icmp_eq (tgt := 796) hx hb dL_law_791 (by decide) (fun c791 => ?_) (fun c791 => ?_)
                                              · refine lv_iload hx hb dL_law_796 (lv_at hl 4 rfl) ?_
                                                refine lv_if_ge (tgt := 811) hx hb dL_law_798 (by decide) (fun c798 => ?_) (fun c798 => ?_)
                                                · have c798 := z_le (a := 0) (b := o9) c798 (by omega) (by omega)
                                                  refine lv_iload hx hb dL_law_811 (lv_at hl 3 rfl) ?_
                                                  refine lv_if_eq (tgt := 833) hx hb dL_law_813 (by decide) (fun c813 => ?_) (fun c813 => ?_)
                                                  · exact absurd c813 (by decide)
                                                  · have c813 := z_ne (a := 1) (b := 0) c813 (by omega) (by omega)
                                                    refine lv_bipush (v := 9) hx hb dL_law_816 (by decide) ?_
                                                    refine lv_aload hx hb dL_law_818 (lv_at hl 14 rfl) ?_
                                                    refine lv_iload hx hb dL_law_820 (lv_at hl 5 rfl) ?_
                                                    refine z_aald (a := qw) (n := n) (f := (zbf n (zR2 qw))) (j := k) hx hb hK4 hW.1 0 2 rfl rfl rfl rfl (by omega) (by omega) (zbf_in (by omega)) dL_law_822 ?_
                                                    refine lv_iconst (v := 1) hx hb dL_law_823 (by decide) ?_
                                                    refine z_iald (a := (zR2 qw k)) (n := 7) (f := (F k)) (j := 1) hx hb hK hr7 0 0 rfl rfl rfl (by omega) (by omega) dL_law_824 ?_
                                                    refine z_toi (y := (g 6 k)) (hFf k 1 (by omega) (by omega)) ?_
                                                    refine lv_iconst (v := 1) hx hb dL_law_825 (by decide) ?_
                                                    refine lv_iadd hx hb dL_law_826 ?_
                                                    refine va_mmin hx hb (by rw [hml]; exact hl.1.symm) hown hwd5 hwd6 hwd7 (hwd8) (Nat.le_of_ble_eq_true rfl) (Nat.le_of_ble_eq_true rfl) (hck) (hsk) dL_law_827 ?_
                                                    refine z_toi (y := zmin 9 ((g 6 k) + 1)) rfl ?_
                                                    refine lv_goto (tgt := 851) hx hb dL_law_830 (by decide) ?_
                                                    refine lv_istore (lv' := [(22, .int (zmin 9 ((g 6 k) + 1))), (13, .int (((hA lo c e g (0, g) k).1) + 0)), (21, .int (nI (k % 2))), (20, .int 0), (19, .int 1), (18, .int (nI o9)), (17, .int (nI k)), (16, .int (nI (mo (zgP n me lo c e rd tk g) n k))), (15, .int (su (zgP n me lo c e rd tk g) k)), (14, .int (nI (ct (zgP n me lo c e rd tk g) k))), (3, .int (nI tm)), (0, .ref b0), (1, .ref b), (2, .ref o), (5, .int (nI n)), (6, .ref qw), (7, .ref qh), (8, .ref qt), (10, .int rd), (12, .int ((rN n me lo c e (rd, tk, g) 1).2.1 - tk))]) hx hb dL_law_851 hl (by decide) rfl (fun ls hl => ?_)
                                                    refine lv_iload hx hb dL_law_853 (lv_at hl 18 rfl) ?_
                                                    refine lv_aload hx hb dL_law_855 (lv_at hl 15 rfl) ?_
                                                    refine lv_iload hx hb dL_law_857 (lv_at hl 6 rfl) ?_
                                                    refine z_aald (a := qw) (n := n) (f := (zbf n (zR2 qw))) (j := k) hx hb hK4 hW.1 0 2 rfl rfl rfl rfl (by omega) (by omega) (zbf_in (by omega)) dL_law_859 ?_
                                                    refine lv_iconst (v := 2) hx hb dL_law_860 (by decide) ?_
                                                    refine z_iald (a := (zR2 qw k)) (n := 7) (f := (F k)) (j := 2) hx hb hK hr7 0 0 rfl rfl rfl (by omega) (by omega) dL_law_861 ?_
                                                    refine z_toi (y := (me k)) (hFf k 2 (by omega) (by omega)) ?_
                                                    refine lv_iconst (v := 1) hx hb dL_law_862 (by decide) ?_
                                                    refine lv_iadd hx hb dL_law_863 ?_
                                                    refine lv_irem hx hb dL_law_864 (zI_span0 hI hk) ?_
                                                    refine z_toi (y := zrem rd ((me k) + 1)) rfl ?_
                                                    refine lv_if_ne (tgt := 878) hx hb dL_law_865 (by decide) (fun c865 => ?_) (fun c865 => ?_)
                                                    · have hl : lv_has ls 25 [(22, .int (zmin 9 ((g 6 k) + 1))), (13, .int (((hA lo c e g (0, g) k).1) + 0)), (21, .int (nI (k % 2))), (20, .int 0), (19, .int 1), (18, .int (zo (hd lo e k (c k)))), (17, .int (nI k)), (16, .int (nI (mo (zgP n me lo c e rd tk g) n k))), (15, .int (su (zgP n me lo c e rd tk g) k)), (14, .int (nI (ct (zgP n me lo c e rd tk g) k))), (3, .int (nI tm)), (0, .ref b0), (1, .ref b), (2, .ref o), (5, .int (nI n)), (6, .ref qw), (7, .ref qh), (8, .ref qt), (10, .int rd), (12, .int ((rN n me lo c e (rd, tk, g) 1).2.1 - tk))] := by rw [hhc]; exact hl
                                                      have hl : lv_has ls 25 [(3, .int (nI tm)), (0, .ref b0), (1, .ref b), (2, .ref o), (5, .int (nI n)), (6, .ref qw), (7, .ref qh), (8, .ref qt), (10, .int rd), (12, .int ((rN n me lo c e (rd, tk, g) 1).2.1 - tk)), (13, .int (((hA lo c e g (0, g) k).1) + 0)), (14, .int (nI (ct (zgP n me lo c e rd tk g) k))), (15, .int (su (zgP n me lo c e rd tk g) k)), (16, .int (nI (mo (zgP n me lo c e rd tk g) n k))), (17, .int (nI k)), (18, .int (zo (hd lo e k (c k)))), (22, .int (zmin 9 ((g 6 k) + 1)))] := lv_sub hl [10, 11, 12, 13, 14, 15, 16, 17, 18, 19, 1, 9, 8, 7, 6, 5, 0] rfl
                                                      refine zlaw_T hfix hK4 hKw hX hb0 hb9 hbs hL hov2 hov3 hcl80 ck sk hck hsk tm htm n me lo c e rd tk g k (((hA lo c e g (0, g) k).1) + 0) (zmin 9 ((g 6 k) + 1)) qw qh qt F hI hZ hV hN hn0 hZ1 hV1 hk hFf (zsv_n hk ((zkp_A hhc c423).2.1.trans (zmin_comm _ _)) c865) H lo0 hS hC hW (fun ls hl => ?_) _ hl
                                                      refine lv_iinc (v := (nI (k + 1))) (lv' := [(17, .int (nI (k + 1))), (3, .int (nI tm)), (0, .ref b0), (1, .ref b), (2, .ref o), (5, .int (nI n)), (6, .ref qw), (7, .ref qh), (8, .ref qt), (10, .int rd), (12, .int ((rN n me lo c e (rd, tk, g) 1).2.1 - tk)), (13, .int (((hA lo c e g (0, g) k).1) + 0)), (14, .int (nI (ct (zgP n me lo c e rd tk g) (k + 1)))), (15, .int (su (zgP n me lo c e rd tk g) (k + 1))), (16, .int (nI (mo (zgP n me lo c e rd tk g) n (k + 1))))]) hx hb dL_law_1102 hl (k := 14) rfl (nI_1 _) (by decide) rfl (fun ls hl => ?_)
                                                      refine lv_goto (tgt := 387) hx hb dL_law_1105 (by decide) ?_
                                                      exact ih (k + 1) (by omega) (by omega) _ (rfl) _ (rfl) _ (rfl) _ (rfl) _ (hA_kp (zkp_A hhc c423)) _ (lv_sub hl [0, 14, 13, 12, 11, 1, 2, 3, 4, 5, 6, 7, 8, 9, 10] rfl)
                                                    · refine lv_iconst (v := 0) hx hb dL_law_868 (by decide) ?_
                                                      refine lv_iload hx hb dL_law_869 (lv_at hl 0 rfl) ?_
                                                      refine lv_iconst (v := 1) hx hb dL_law_871 (by decide) ?_
                                                      refine lv_isub hx hb dL_law_872 ?_
                                                      refine va_mmax hx hb (by rw [hml]; exact hl.1.symm) hown hwd9 hwd10 hwd7 (hwd11) (Nat.le_of_ble_eq_true rfl) (Nat.le_of_ble_eq_true rfl) (hck) (hsk) dL_law_873 ?_
                                                      refine z_toi (y := zmax 0 ((zmin 9 ((g 6 k) + 1)) - 1)) rfl ?_
                                                      refine lv_istore (lv' := [(22, .int (zmax 0 ((zmin 9 ((g 6 k) + 1)) - 1))), (13, .int (((hA lo c e g (0, g) k).1) + 0)), (21, .int (nI (k % 2))), (20, .int 0), (19, .int 1), (18, .int (nI o9)), (17, .int (nI k)), (16, .int (nI (mo (zgP n me lo c e rd tk g) n k))), (15, .int (su (zgP n me lo c e rd tk g) k)), (14, .int (nI (ct (zgP n me lo c e rd tk g) k))), (3, .int (nI tm)), (0, .ref b0), (1, .ref b), (2, .ref o), (5, .int (nI n)), (6, .ref qw), (7, .ref qh), (8, .ref qt), (10, .int rd), (12, .int ((rN n me lo c e (rd, tk, g) 1).2.1 - tk))]) hx hb dL_law_876 hl (by decide) rfl (fun ls hl => ?_)
                                                      have hl : lv_has ls 25 [(22, .int (zmax 0 ((zmin 9 ((g 6 k) + 1)) - 1))), (13, .int (((hA lo c e g (0, g) k).1) + 0)), (21, .int (nI (k % 2))), (20, .int 0), (19, .int 1), (18, .int (zo (hd lo e k (c k)))), (17, .int (nI k)), (16, .int (nI (mo (zgP n me lo c e rd tk g) n k))), (15, .int (su (zgP n me lo c e rd tk g) k)), (14, .int (nI (ct (zgP n me lo c e rd tk g) k))), (3, .int (nI tm)), (0, .ref b0), (1, .ref b), (2, .ref o), (5, .int (nI n)), (6, .ref qw), (7, .ref qh), (8, .ref qt), (10, .int rd), (12, .int ((rN n me lo c e (rd, tk, g) 1).2.1 - tk))] := by rw [hhc]; exact hl
                                                      have hl : lv_has ls 25 [(3, .int (nI tm)), (0, .ref b0), (1, .ref b), (2, .ref o), (5, .int (nI n)), (6, .ref qw), (7, .ref qh), (8, .ref qt), (10, .int rd), (12, .int ((rN n me lo c e (rd, tk, g) 1).2.1 - tk)), (13, .int (((hA lo c e g (0, g) k).1) + 0)), (14, .int (nI (ct (zgP n me lo c e rd tk g) k))), (15, .int (su (zgP n me lo c e rd tk g) k)), (16, .int (nI (mo (zgP n me lo c e rd tk g) n k))), (17, .int (nI k)), (18, .int (zo (hd lo e k (c k)))), (22, .int (zmax 0 ((zmin 9 ((g 6 k) + 1)) - 1)))] := lv_sub hl [10, 11, 12, 13, 14, 15, 16, 17, 18, 19, 1, 9, 8, 7, 6, 5, 0] rfl
                                                      refine zlaw_T hfix hK4 hKw hX hb0 hb9 hbs hL hov2 hov3 hcl80 ck sk hck hsk tm htm n me lo c e rd tk g k (((hA lo c e g (0, g) k).1) + 0) (zmax 0 ((zmin 9 ((g 6 k) + 1)) - 1)) qw qh qt F hI hZ hV hN hn0 hZ1 hV1 hk hFf (zsv_y hk ((zkp_A hhc c423).2.1.trans (zmin_comm _ _)) c865) H lo0 hS hC hW (fun ls hl => ?_) _ hl
                                                      refine lv_iinc (v := (nI (k + 1))) (lv' := [(17, .int (nI (k + 1))), (3, .int (nI tm)), (0, .ref b0), (1, .ref b), (2, .ref o), (5, .int (nI n)), (6, .ref qw), (7, .ref qh), (8, .ref qt), (10, .int rd), (12, .int ((rN n me lo c e (rd, tk, g) 1).2.1 - tk)), (13, .int (((hA lo c e g (0, g) k).1) + 0)), (14, .int (nI (ct (zgP n me lo c e rd tk g) (k + 1)))), (15, .int (su (zgP n me lo c e rd tk g) (k + 1))), (16, .int (nI (mo (zgP n me lo c e rd tk g) n (k + 1))))]) hx hb dL_law_1102 hl (k := 14) rfl (nI_1 _) (by decide) rfl (fun ls hl => ?_)
                                                      refine lv_goto (tgt := 387) hx hb dL_law_1105 (by decide) ?_
                                                      exact ih (k + 1) (by omega) (by omega) _ (rfl) _ (rfl) _ (rfl) _ (rfl) _ (hA_kp (zkp_A hhc c423)) _ (lv_sub hl [0, 14, 13, 12, 11, 1, 2, 3, 4, 5, 6, 7, 8, 9, 10] rfl)
                                                · have c798 := z_nle (a := 0) (b := o9) c798 (by omega) (by omega)
                                                  omega
                                              · exact absurd (by rw [hGf k (k % 2) 2 (by omega) (by omega) (by omega), show k % 2 = 0 by omega]; exact zkp_th (zkp_A hhc c423) hk (by omega) (by omega)) c791
                                            · have c769 := z_eq (a := k % 2) (b := 1) c769 (by omega) (by omega)
                                              omega
                                        · have c738 := z_eq (a := k % 2) (b := 1) c738 (by omega) (by omega)
                                          omega
                                    · have c707 := z_eq (a := k % 2) (b := 1) c707 (by omega) (by omega)
                                      omega
                                  · exact absurd (by decide) c603
                                · exact absurd (by rw [hGf k (1 - k % 2) 2 (by omega) (by omega) (by omega), show 1 - k % 2 = 1 by omega]; exact z1_oth hk (by omega) (by omega)) c596
                  · exact absurd (by decide) c477
                · exact absurd c440 (by decide)
  exact loop387 _ 0 (Nat.lt_succ_self _) (by omega) _ (rfl) _ (rfl) _ (rfl) _ (rfl) _ (rfl) _ (lv_sub hl [0, 1, 2, 3, 4, 5, 6, 7, 8, 9, 10, 11, 12, 13, 14] rfl)
set_option maxHeartbeats 8000000 in
set_option maxRecDepth 100000 in
/-- the round itself -/
theorem zlaw_B3 {pg : Program} {l : Launch} {ev : Env} {s : State} {m : MethodId} {args : Array Value} {below : List Frame} {meth : Method} {cd : Code} {Q : State → Prop} {D : va_G} {cI cR cA cT : ClassId} {b o b0 L : Nat} {xs : Nat → Int32} (hfix : CallFix pg m cd cL_law 25 s args wsL_law RL) (hK4 : va_K D vwCl [(cI, .int), (cR, .object zBC), (cA, .array .int), (cT, .array (.array .int))] s) (hKw : zKw s) (hX : va_X b0 L xs s s.heap) (hb0 : b0 < s.heap.size) (hb9 : b + 61 ≤ o) (hbs : s.heap.size ≤ b) (hL : L ≤ 260) (hov2 : (Cond.arrayOver (.array .int)).before args s = true) (hov3 : (Cond.arrayOver (.array (.array .int))).before args s = true) (hcl80 : (Cond.classLink RL 80 "[[[I").before args s = true) (ck : Nat) (sk : Nat) (hck : ck ≤ 830515) (hsk : sk ≤ 6609922) (tm : Nat) (htm : tm < 40) (n : Nat) (me : Nat → Int32) (lo : Nat → Int32) (c : Nat → Nat) (e : Nat → Nat) (rd : Int32) (tk : Int32) (g : zG) (t : Nat) (ar : Nat) (B : Nat → Nat) (E : Nat → Nat) (qw : Nat) (qh : Nat) (qt : Nat) (F : Nat → Nat → Int32) (G : Nat → Nat → Nat → Int32) (T : Nat → Int32) (c3 : Nat) (s3 : Nat) (hI : zI n me lo c e) (hZ : zJ n g) (hV : zV n g) (hN : zNs c e) (hn0 : 0 < n) (hFf : ∀ i w, i < n → w < 7 → F i w = tp n g me lo c e i w) (hGf : ∀ i j w, i < n → j < 2 → w < 3 → G i j w = th g i j w) (hTf : ∀ i, i < n → T i = wd (zgP n me lo c e rd tk g) i) (hsp : zSp o qw n ar B E) (hc3 : c3 + 61 ≤ ck) (hs3 : s3 + 168 ≤ sk) (hq1 : o < qw) (hq2 : qw + 1 + n ≤ qh) (hq3 : qh + 1 + 3 * n ≤ qt) (hq4 : qt < t) (H : Heap) (lo0 : List Loc) (hS : va_S (fun q => b ≤ q) s.heap H lo0) (hO : va_P D vwCl [(o, .inr (6, [.ref ar, .int rd, .int tk]))] H) (hQ : va_P D vwCl (zQr cR ar n (zbf n B)) H) (hF : zFm D cI n B E me lo c e g H) (hC : zCW D cI b n me lo c e rd tk g H) (hW : zW2 D cI cA qw n 7 F H) (hV3 : zW3 D cI cA cT qh n G H) (hT : va_P D vwCl (zAr cI qt n T) H) (hsz : H.size = t) (kk : ∀ (n1 : Nat) (H1 : Heap) (lo1 : List Loc) (ls1 : Array Slot), 0 < n1 → zLs D cI cR b o n1 H1 → va_S (fun q => b ≤ q) s.heap H1 lo1 → lv_has ls1 25 [(3, .int (nI tm)), (0, .ref b0), (1, .ref b), (2, .ref o)] → W pg l ev room_1 s m args below meth cd H1 lo1 ck sk Q (F0 m 1177 ls1 [])) (ls : Array Slot) (hl : lv_has ls 25 [(3, .int (nI tm)), (0, .ref b0), (1, .ref b), (2, .ref o), (5, .int (nI n)), (6, .ref qw), (7, .ref qh), (8, .ref qt)]) : W pg l ev room_1 s m args below meth cd H lo0 (c3) (s3) Q (F0 m 283 ls []) := by
  obtain ⟨hx, hb, hml, hown, hts⟩ := id hfix
  have hK : va_K D vwCl [(cI, .int), (cR, .object zBC)] s := hK4.sub [0, 1] rfl
  have hK1 : va_K D vwCl [(cI, .int)] s := hK4.sub [0] rfl
  have hz : H.size ≤ H.size := Nat.le_refl _
  have hn := zI_n hI
  obtain ⟨⟨ho1, ho2, ho3⟩, -, -⟩ := id hsp
  refine lv_aload_n hx hb dL_law_283 rfl (lv_at hl 2 rfl) ?_
  refine z_mi (va_runV (As := []) (rest := []) hfix (zcX4_agrees_k l D cI H b n me lo c e rd tk g hC hI) (cwV 0 hts gL_law_X4_agrees rfl rfl rfl (by decide +kernel) ⟨Nat.le_of_ble_eq_true rfl, Nat.le_of_ble_eq_true rfl⟩) (z_preV hK hK1 hC.1 (ci := 4) (q0 := 0) rfl rfl rfl) rfl rfl hl.1 rfl (lv_room (Nat.le_of_ble_eq_true rfl)) dL_law_284 ⟨by show c3 + 0 ≤ 830515; omega, by show s3 + 0 ≤ 6609922; omega⟩) hS (fun q _ h => by simp only [zF] at h; show b ≤ q; omega) (fun q h => by simp only [zF] at h; show b ≤ q; omega) (fun H1 lo2 hB hz1 hk1 hS => ?_)
  have hz : H.size ≤ H1.size := by have h9 := hB.2; omega
  have hsz : H1.size = t := hB.2.trans hsz
  have hO3 := zOb_kept hO (fun q h1 h2 h3 => hk1 q h1 (by simp only [zF]; omega))
  have hQ4 := zQr_kept hQ (fun q h1 h2 h3 => hk1 q h1 (by simp only [zF]; omega))
  have hF5 := zFm_kept hsp hF (fun q h1 h2 h3 => hk1 q h1 (by simp only [zF]; omega))
  have hC6 : zCW D cI b n me lo c e rd tk g H1 := hB.1
  have hW7 := zW2_kept hW (fun q h1 h2 h3 => hk1 q h1 (by simp only [zF]; omega))
  have hV8 := zW3_kept hV3 (fun q h1 h2 h3 => hk1 q h1 (by simp only [zF]; omega))
  have hT9 := zAr_kept hT (fun q h1 h2 h3 => hk1 q h1 (by simp only [zF]; omega))
  refine lv_istore (lv' := [(9, .int (zo (fs (same n me lo c e (rd, tk, g)) 201))), (3, .int (nI tm)), (0, .ref b0), (1, .ref b), (2, .ref o), (5, .int (nI n)), (6, .ref qw), (7, .ref qh), (8, .ref qt)]) hx hb dL_law_287 hl (by decide) rfl (fun ls hl => ?_)
  refine lv_aload_n hx hb dL_law_289 rfl (lv_at hl 3 rfl) ?_
  refine lv_iconst (v := 0) hx hb dL_law_290 (by decide) ?_
  refine z_ki (va_runV (As := [.int 0]) (rest := []) hfix (zcX4_count_k l D cI H1 b n me lo c e rd tk g 0 hC6 hI (by omega)) (cwV 1 hts gL_law_X4_count rfl rfl rfl (by decide +kernel) ⟨Nat.le_of_ble_eq_true rfl, Nat.le_of_ble_eq_true rfl⟩) (z_preV hK hK1 hC6.1 (ci := 4) (q0 := 0) rfl rfl rfl) rfl rfl hl.1 rfl (lv_room (Nat.le_of_ble_eq_true rfl)) dL_law_291 ⟨by show c3 + 0 ≤ 830515; omega, by show s3 + 0 ≤ 6609922; omega⟩) ?_
  refine z_toi (y := rd) (rfl) ?_
  refine lv_istore (lv' := [(10, .int rd), (9, .int (zo (fs (same n me lo c e (rd, tk, g)) 201))), (3, .int (nI tm)), (0, .ref b0), (1, .ref b), (2, .ref o), (5, .int (nI n)), (6, .ref qw), (7, .ref qh), (8, .ref qt)]) hx hb dL_law_294 hl (by decide) rfl (fun ls hl => ?_)
  refine lv_aload_n hx hb dL_law_296 rfl (lv_at hl 4 rfl) ?_
  refine lv_iconst (v := 5) hx hb dL_law_297 (by decide) ?_
  refine z_ki (va_runV (As := [.int 5]) (rest := []) hfix (zcX4_count_k l D cI H1 b n me lo c e rd tk g 5 hC6 hI (by omega)) (cwV 1 hts gL_law_X4_count rfl rfl rfl (by decide +kernel) ⟨Nat.le_of_ble_eq_true rfl, Nat.le_of_ble_eq_true rfl⟩) (z_preV hK hK1 hC6.1 (ci := 4) (q0 := 0) rfl rfl rfl) rfl rfl hl.1 rfl (lv_room (Nat.le_of_ble_eq_true rfl)) dL_law_298 ⟨by show c3 + 0 ≤ 830515; omega, by show s3 + 0 ≤ 6609922; omega⟩) ?_
  refine z_toi (y := tk) (rfl) ?_
  refine lv_istore (lv' := [(11, .int tk), (10, .int rd), (9, .int (zo (fs (same n me lo c e (rd, tk, g)) 201))), (3, .int (nI tm)), (0, .ref b0), (1, .ref b), (2, .ref o), (5, .int (nI n)), (6, .ref qw), (7, .ref qh), (8, .ref qt)]) hx hb dL_law_301 hl (by decide) rfl (fun ls hl => ?_)
  refine lv_aload_n hx hb dL_law_303 rfl (lv_at hl 5 rfl) ?_
  refine lv_iconst (v := 1) hx hb dL_law_304 (by decide) ?_
  refine z_mi (va_runV (As := [.int 1]) (rest := []) hfix (zcX4_pass_k l D cI H1 b n me lo c e rd tk g 1 hC6 hI (by omega) (by omega)) (cwV 1 hts gL_law_X4_pass rfl rfl rfl (by decide +kernel) ⟨Nat.le_of_ble_eq_true rfl, Nat.le_of_ble_eq_true rfl⟩) (z_preV hK hK1 hC6.1 (ci := 4) (q0 := 0) rfl rfl rfl) rfl rfl hl.1 rfl (lv_room (Nat.le_of_ble_eq_true rfl)) dL_law_305 ⟨by show c3 + 0 ≤ 830515; omega, by show s3 + 0 ≤ 6609922; omega⟩) hS (fun q _ h => by simp only [zF] at h; show b ≤ q; omega) (fun q h => by simp only [zF] at h; show b ≤ q; omega) (fun H10 lo11 hB hz1 hk1 hS => ?_)
  have hz : H.size ≤ H10.size := by have h9 := hB.2; omega
  have hsz : H10.size = t := hB.2.trans hsz
  have hO12 := zOb_kept hO3 (fun q h1 h2 h3 => hk1 q h1 (by simp only [zF]; omega))
  have hQ13 := zQr_kept hQ4 (fun q h1 h2 h3 => hk1 q h1 (by simp only [zF]; omega))
  have hF14 := zFm_kept hsp hF5 (fun q h1 h2 h3 => hk1 q h1 (by simp only [zF]; omega))
  have hC15 : zCW D cI b n me lo c e ((rN n me lo c e (rd, tk, g) 1).1) ((rN n me lo c e (rd, tk, g) 1).2.1) (zgP n me lo c e rd tk g) H10 := hB.1
  have hW16 := zW2_kept hW7 (fun q h1 h2 h3 => hk1 q h1 (by simp only [zF]; omega))
  have hV17 := zW3_kept hV8 (fun q h1 h2 h3 => hk1 q h1 (by simp only [zF]; omega))
  have hT18 := zAr_kept hT9 (fun q h1 h2 h3 => hk1 q h1 (by simp only [zF]; omega))
  refine lv_istore (lv' := [(12, .int ((rN n me lo c e (rd, tk, g) 1).2.1 - tk)), (11, .int tk), (10, .int rd), (9, .int (zo (fs (same n me lo c e (rd, tk, g)) 201))), (3, .int (nI tm)), (0, .ref b0), (1, .ref b), (2, .ref o), (5, .int (nI n)), (6, .ref qw), (7, .ref qh), (8, .ref qt)]) hx hb dL_law_308 hl (by decide) rfl (fun ls hl => ?_)
  refine lv_aload_n hx hb dL_law_310 rfl (lv_at hl 7 rfl) ?_
  refine z_mi (va_runV (As := []) (rest := []) hfix (zcX6_pass l D cI cR H10 o t ar n B E me lo c e rd tk g (⟨hO12, hQ13, hF14, zSp_mono hsp (by omega)⟩) hI hsz hZ hV) (cwV 0 hts gL_law_X6_pass rfl rfl rfl (by decide +kernel) ⟨Nat.le_of_ble_eq_true rfl, Nat.le_of_ble_eq_true rfl⟩) (z_kpreV hKw hK hK hO12 (ci := 6) (q0 := 0) rfl rfl rfl) rfl rfl hl.1 rfl (lv_room (Nat.le_of_ble_eq_true rfl)) dL_law_311 ⟨by show c3 + 61 ≤ 830515; omega, by show s3 + 168 ≤ 6609922; omega⟩) hS (fun q _ h => by have h8 : @Eq Nat q o ∨ t ≤ q := h; show b ≤ q; omega) (fun q h => by have h8 : @Eq Nat q o ∨ t ≤ q := h; show b ≤ q; omega) (fun H19 lo20 hB hz1 hk1 hS => ?_)
  obtain ⟨⟨hOu21, hQu21, hFu21, hspu21⟩, hsz⟩ := hB
  have hz : H.size ≤ H19.size := by omega
  have hC22 := zCW_kept hC15 (fun q h1 h2 h3 => hk1 q h1 (fun h8 => by have h7 : q = o ∨ t ≤ q := h8; omega))
  have hW23 := zW2_kept hW16 (fun q h1 h2 h3 => hk1 q h1 (fun h8 => by have h7 : q = o ∨ t ≤ q := h8; omega))
  have hV24 := zW3_kept hV17 (fun q h1 h2 h3 => hk1 q h1 (fun h8 => by have h7 : q = o ∨ t ≤ q := h8; omega))
  have hT25 := zAr_kept hT18 (fun q h1 h2 h3 => hk1 q h1 (fun h8 => by have h7 : q = o ∨ t ≤ q := h8; omega))
  refine lv_pop hx hb dL_law_314 rfl ?_
  refine lv_aload_n hx hb dL_law_315 rfl (lv_at hl 6 rfl) ?_
  refine lv_iconst (v := 0) hx hb dL_law_316 (by decide) ?_
  refine z_ki (va_runV (As := [.int 0]) (rest := []) hfix (zcX4_count_k l D cI H19 b n me lo c e ((rN n me lo c e (rd, tk, g) 1).1) ((rN n me lo c e (rd, tk, g) 1).2.1) (zgP n me lo c e rd tk g) 0 hC22 hI (by omega)) (cwV 1 hts gL_law_X4_count rfl rfl rfl (by decide +kernel) ⟨Nat.le_of_ble_eq_true rfl, Nat.le_of_ble_eq_true rfl⟩) (z_preV hK hK1 hC22.1 (ci := 4) (q0 := 0) rfl rfl rfl) rfl rfl hl.1 rfl (lv_room (Nat.le_of_ble_eq_true rfl)) dL_law_317 ⟨by show c3 + 61 + 0 ≤ 830515; omega, by show s3 + 168 + 0 ≤ 6609922; omega⟩) ?_
  refine lv_iload hx hb dL_law_320 (lv_at hl 2 rfl) ?_
  refine lv_iconst (v := 1) hx hb dL_law_322 (by decide) ?_
  refine lv_iadd hx hb dL_law_323 ?_
  refine lv_icmp_ne (tgt := 370) hx hb dL_law_324 (by decide) (fun c324 => ?_) (fun c324 => ?_)
  · exact absurd rfl c324
  · refine lv_aload_n hx hb dL_law_327 rfl (lv_at hl 6 rfl) ?_
    refine lv_iconst (v := 5) hx hb dL_law_328 (by decide) ?_
    refine z_ki (va_runV (As := [.int 5]) (rest := []) hfix (zcX4_count_k l D cI H19 b n me lo c e ((rN n me lo c e (rd, tk, g) 1).1) ((rN n me lo c e (rd, tk, g) 1).2.1) (zgP n me lo c e rd tk g) 5 hC22 hI (by omega)) (cwV 1 hts gL_law_X4_count rfl rfl rfl (by decide +kernel) ⟨Nat.le_of_ble_eq_true rfl, Nat.le_of_ble_eq_true rfl⟩) (z_preV hK hK1 hC22.1 (ci := 4) (q0 := 0) rfl rfl rfl) rfl rfl hl.1 rfl (lv_room (Nat.le_of_ble_eq_true rfl)) dL_law_329 ⟨by show c3 + 61 + 0 ≤ 830515; omega, by show s3 + 168 + 0 ≤ 6609922; omega⟩) ?_
    refine lv_iload hx hb dL_law_332 (lv_at hl 1 rfl) ?_
    refine lv_iload hx hb dL_law_334 (lv_at hl 0 rfl) ?_
    refine lv_iadd hx hb dL_law_336 ?_
    refine lv_icmp_ne (tgt := 370) hx hb dL_law_337 (by decide) (fun c337 => ?_) (fun c337 => ?_)
    · exact absurd z_five c337
    · refine lv_iload hx hb dL_law_340 (lv_at hl 3 rfl) ?_
      refine lv_iconst (v := 1) hx hb dL_law_342 (by decide) ?_
      refine lv_icmp_le (tgt := 357) hx hb dL_law_343 (by decide) (fun c343 => ?_) (fun c343 => ?_)
      · refine lv_iload hx hb dL_law_357 (lv_at hl 3 rfl) ?_
        refine lv_iconst (v := 1) hx hb dL_law_359 (by decide) ?_
        refine lv_icmp_ne (tgt := 372) hx hb dL_law_360 (by decide) (fun c360 => ?_) (fun c360 => ?_)
        · refine W.widen (k := ck) (n := sk) (by omega) (by omega) ?_
          have hl : lv_has ls 25 [(3, .int (nI tm)), (0, .ref b0), (1, .ref b), (2, .ref o), (5, .int (nI n)), (6, .ref qw), (7, .ref qh), (8, .ref qt), (10, .int rd), (12, .int ((rN n me lo c e (rd, tk, g) 1).2.1 - tk))] := lv_sub hl [4, 5, 6, 7, 8, 9, 10, 11, 2, 0] rfl
          exact zlaw_C hfix hK4 hKw hX hb0 hb9 hbs hL hov2 hov3 hcl80 ck sk hck hsk tm htm n me lo c e rd tk g (t + 1 + 5 * n) t (zN t) E qw qh qt F G T hI hZ hV hN hn0 (zJ_rN hI (t := (rd, tk, g)) hZ 1) (zV_P hI hN hV) hFf hGf hTf hspu21 H19 lo20 hS hOu21 hQu21 hFu21 hC22 hW23 hV24 hT25 hsz kk _ hl
        · refine lv_aload_n hx hb dL_law_363 rfl (lv_at hl 6 rfl) ?_
          refine z_mi (va_runV (As := []) (rest := []) hfix (zcX4_agrees_k l D cI H19 b n me lo c e ((rN n me lo c e (rd, tk, g) 1).1) ((rN n me lo c e (rd, tk, g) 1).2.1) (zgP n me lo c e rd tk g) hC22 hI) (cwV 0 hts gL_law_X4_agrees rfl rfl rfl (by decide +kernel) ⟨Nat.le_of_ble_eq_true rfl, Nat.le_of_ble_eq_true rfl⟩) (z_preV hK hK1 hC22.1 (ci := 4) (q0 := 0) rfl rfl rfl) rfl rfl hl.1 rfl (lv_room (Nat.le_of_ble_eq_true rfl)) dL_law_364 ⟨by show c3 + 61 + 0 ≤ 830515; omega, by show s3 + 168 + 0 ≤ 6609922; omega⟩) hS (fun q _ h => by simp only [zF] at h; show b ≤ q; omega) (fun q h => by simp only [zF] at h; show b ≤ q; omega) (fun H26 lo27 hB hz1 hk1 hS => ?_)
          have hz : H.size ≤ H26.size := by have h9 := hB.2; omega
          have hsz : H26.size = t + 1 + 5 * n := hB.2.trans hsz
          have hOu28 := zOb_kept hOu21 (fun q h1 h2 h3 => hk1 q h1 (by simp only [zF]; omega))
          have hQu29 := zQr_kept hQu21 (fun q h1 h2 h3 => hk1 q h1 (by simp only [zF]; omega))
          have hFu30 := zFm_kept hspu21 hFu21 (fun q h1 h2 h3 => hk1 q h1 (by simp only [zF]; omega))
          have hC31 : zCW D cI b n me lo c e ((rN n me lo c e (rd, tk, g) 1).1) ((rN n me lo c e (rd, tk, g) 1).2.1) (zgP n me lo c e rd tk g) H26 := hB.1
          have hW32 := zW2_kept hW23 (fun q h1 h2 h3 => hk1 q h1 (by simp only [zF]; omega))
          have hV33 := zW3_kept hV24 (fun q h1 h2 h3 => hk1 q h1 (by simp only [zF]; omega))
          have hT34 := zAr_kept hT25 (fun q h1 h2 h3 => hk1 q h1 (by simp only [zF]; omega))
          refine lv_if_eq (tgt := 372) hx hb dL_law_367 (by decide) (fun c367 => ?_) (fun c367 => ?_)
          · refine W.widen (k := ck) (n := sk) (by omega) (by omega) ?_
            have hl : lv_has ls 25 [(3, .int (nI tm)), (0, .ref b0), (1, .ref b), (2, .ref o), (5, .int (nI n)), (6, .ref qw), (7, .ref qh), (8, .ref qt), (10, .int rd), (12, .int ((rN n me lo c e (rd, tk, g) 1).2.1 - tk))] := lv_sub hl [4, 5, 6, 7, 8, 9, 10, 11, 2, 0] rfl
            exact zlaw_C hfix hK4 hKw hX hb0 hb9 hbs hL hov2 hov3 hcl80 ck sk hck hsk tm htm n me lo c e rd tk g (t + 1 + 5 * n) t (zN t) E qw qh qt F G T hI hZ hV hN hn0 (zJ_rN hI (t := (rd, tk, g)) hZ 1) (zV_P hI hN hV) hFf hGf hTf hspu21 H26 lo27 hS hOu28 hQu29 hFu30 hC31 hW32 hV33 hT34 hsz kk _ hl
          · exact absurd (ag_one (n := n) (me := me) (lo := lo) (c := c) (e := e) (t := (rd, tk, g)) c360) c367
      · refine lv_aload_n hx hb dL_law_346 rfl (lv_at hl 6 rfl) ?_
        refine z_mi (va_runV (As := []) (rest := []) hfix (zcX4_agrees_k l D cI H19 b n me lo c e ((rN n me lo c e (rd, tk, g) 1).1) ((rN n me lo c e (rd, tk, g) 1).2.1) (zgP n me lo c e rd tk g) hC22 hI) (cwV 0 hts gL_law_X4_agrees rfl rfl rfl (by decide +kernel) ⟨Nat.le_of_ble_eq_true rfl, Nat.le_of_ble_eq_true rfl⟩) (z_preV hK hK1 hC22.1 (ci := 4) (q0 := 0) rfl rfl rfl) rfl rfl hl.1 rfl (lv_room (Nat.le_of_ble_eq_true rfl)) dL_law_347 ⟨by show c3 + 61 + 0 ≤ 830515; omega, by show s3 + 168 + 0 ≤ 6609922; omega⟩) hS (fun q _ h => by simp only [zF] at h; show b ≤ q; omega) (fun q h => by simp only [zF] at h; show b ≤ q; omega) (fun H35 lo36 hB hz1 hk1 hS => ?_)
        have hz : H.size ≤ H35.size := by have h9 := hB.2; omega
        have hsz : H35.size = t + 1 + 5 * n := hB.2.trans hsz
        have hOu37 := zOb_kept hOu21 (fun q h1 h2 h3 => hk1 q h1 (by simp only [zF]; omega))
        have hQu38 := zQr_kept hQu21 (fun q h1 h2 h3 => hk1 q h1 (by simp only [zF]; omega))
        have hFu39 := zFm_kept hspu21 hFu21 (fun q h1 h2 h3 => hk1 q h1 (by simp only [zF]; omega))
        have hC40 : zCW D cI b n me lo c e ((rN n me lo c e (rd, tk, g) 1).1) ((rN n me lo c e (rd, tk, g) 1).2.1) (zgP n me lo c e rd tk g) H35 := hB.1
        have hW41 := zW2_kept hW23 (fun q h1 h2 h3 => hk1 q h1 (by simp only [zF]; omega))
        have hV42 := zW3_kept hV24 (fun q h1 h2 h3 => hk1 q h1 (by simp only [zF]; omega))
        have hT43 := zAr_kept hT25 (fun q h1 h2 h3 => hk1 q h1 (by simp only [zF]; omega))
        refine lv_iload hx hb dL_law_350 (lv_at hl 3 rfl) ?_
        refine lv_iconst (v := 1) hx hb dL_law_352 (by decide) ?_
        refine lv_isub hx hb dL_law_353 ?_
        refine lv_icmp_ne (tgt := 370) hx hb dL_law_354 (by decide) (fun c354 => ?_) (fun c354 => ?_)
        · exact absurd (ag_gt (n := n) (me := me) (lo := lo) (c := c) (e := e) (t := (rd, tk, g)) (Int32.not_le.mp c343)) c354
        · refine lv_iload hx hb dL_law_357 (lv_at hl 3 rfl) ?_
          refine lv_iconst (v := 1) hx hb dL_law_359 (by decide) ?_
          refine lv_icmp_ne (tgt := 372) hx hb dL_law_360 (by decide) (fun c360 => ?_) (fun c360 => ?_)
          · refine W.widen (k := ck) (n := sk) (by omega) (by omega) ?_
            have hl : lv_has ls 25 [(3, .int (nI tm)), (0, .ref b0), (1, .ref b), (2, .ref o), (5, .int (nI n)), (6, .ref qw), (7, .ref qh), (8, .ref qt), (10, .int rd), (12, .int ((rN n me lo c e (rd, tk, g) 1).2.1 - tk))] := lv_sub hl [4, 5, 6, 7, 8, 9, 10, 11, 2, 0] rfl
            exact zlaw_C hfix hK4 hKw hX hb0 hb9 hbs hL hov2 hov3 hcl80 ck sk hck hsk tm htm n me lo c e rd tk g (t + 1 + 5 * n) t (zN t) E qw qh qt F G T hI hZ hV hN hn0 (zJ_rN hI (t := (rd, tk, g)) hZ 1) (zV_P hI hN hV) hFf hGf hTf hspu21 H35 lo36 hS hOu37 hQu38 hFu39 hC40 hW41 hV42 hT43 hsz kk _ hl
          · refine lv_aload_n hx hb dL_law_363 rfl (lv_at hl 6 rfl) ?_
            refine z_mi (va_runV (As := []) (rest := []) hfix (zcX4_agrees_k l D cI H35 b n me lo c e ((rN n me lo c e (rd, tk, g) 1).1) ((rN n me lo c e (rd, tk, g) 1).2.1) (zgP n me lo c e rd tk g) hC40 hI) (cwV 0 hts gL_law_X4_agrees rfl rfl rfl (by decide +kernel) ⟨Nat.le_of_ble_eq_true rfl, Nat.le_of_ble_eq_true rfl⟩) (z_preV hK hK1 hC40.1 (ci := 4) (q0 := 0) rfl rfl rfl) rfl rfl hl.1 rfl (lv_room (Nat.le_of_ble_eq_true rfl)) dL_law_364 ⟨by show c3 + 61 + 0 ≤ 830515; omega, by show s3 + 168 + 0 ≤ 6609922; omega⟩) hS (fun q _ h => by simp only [zF] at h; show b ≤ q; omega) (fun q h => by simp only [zF] at h; show b ≤ q; omega) (fun H44 lo45 hB hz1 hk1 hS => ?_)
            have hz : H.size ≤ H44.size := by have h9 := hB.2; omega
            have hsz : H44.size = t + 1 + 5 * n := hB.2.trans hsz
            have hOu46 := zOb_kept hOu37 (fun q h1 h2 h3 => hk1 q h1 (by simp only [zF]; omega))
            have hQu47 := zQr_kept hQu38 (fun q h1 h2 h3 => hk1 q h1 (by simp only [zF]; omega))
            have hFu48 := zFm_kept hspu21 hFu39 (fun q h1 h2 h3 => hk1 q h1 (by simp only [zF]; omega))
            have hC49 : zCW D cI b n me lo c e ((rN n me lo c e (rd, tk, g) 1).1) ((rN n me lo c e (rd, tk, g) 1).2.1) (zgP n me lo c e rd tk g) H44 := hB.1
            have hW50 := zW2_kept hW41 (fun q h1 h2 h3 => hk1 q h1 (by simp only [zF]; omega))
            have hV51 := zW3_kept hV42 (fun q h1 h2 h3 => hk1 q h1 (by simp only [zF]; omega))
            have hT52 := zAr_kept hT43 (fun q h1 h2 h3 => hk1 q h1 (by simp only [zF]; omega))
            refine lv_if_eq (tgt := 372) hx hb dL_law_367 (by decide) (fun c367 => ?_) (fun c367 => ?_)
            · refine W.widen (k := ck) (n := sk) (by omega) (by omega) ?_
              have hl : lv_has ls 25 [(3, .int (nI tm)), (0, .ref b0), (1, .ref b), (2, .ref o), (5, .int (nI n)), (6, .ref qw), (7, .ref qh), (8, .ref qt), (10, .int rd), (12, .int ((rN n me lo c e (rd, tk, g) 1).2.1 - tk))] := lv_sub hl [4, 5, 6, 7, 8, 9, 10, 11, 2, 0] rfl
              exact zlaw_C hfix hK4 hKw hX hb0 hb9 hbs hL hov2 hov3 hcl80 ck sk hck hsk tm htm n me lo c e rd tk g (t + 1 + 5 * n) t (zN t) E qw qh qt F G T hI hZ hV hN hn0 (zJ_rN hI (t := (rd, tk, g)) hZ 1) (zV_P hI hN hV) hFf hGf hTf hspu21 H44 lo45 hS hOu46 hQu47 hFu48 hC49 hW50 hV51 hT52 hsz kk _ hl
            · exact absurd (ag_one (n := n) (me := me) (lo := lo) (c := c) (e := e) (t := (rd, tk, g)) c360) c367
set_option maxHeartbeats 8000000 in
set_option maxRecDepth 100000 in
/-- what is told ahead of a round -/
theorem zlaw_B2 {pg : Program} {l : Launch} {ev : Env} {s : State} {m : MethodId} {args : Array Value} {below : List Frame} {meth : Method} {cd : Code} {Q : State → Prop} {D : va_G} {cI cR cA cT : ClassId} {b o b0 L : Nat} {xs : Nat → Int32} (hfix : CallFix pg m cd cL_law 25 s args wsL_law RL) (hK4 : va_K D vwCl [(cI, .int), (cR, .object zBC), (cA, .array .int), (cT, .array (.array .int))] s) (hKw : zKw s) (hX : va_X b0 L xs s s.heap) (hb0 : b0 < s.heap.size) (hb9 : b + 61 ≤ o) (hbs : s.heap.size ≤ b) (hL : L ≤ 260) (hov2 : (Cond.arrayOver (.array .int)).before args s = true) (hov3 : (Cond.arrayOver (.array (.array .int))).before args s = true) (hcl80 : (Cond.classLink RL 80 "[[[I").before args s = true) (ck : Nat) (sk : Nat) (hck : ck ≤ 830515) (hsk : sk ≤ 6609922) (tm : Nat) (htm : tm < 40) (n : Nat) (me : Nat → Int32) (lo : Nat → Int32) (c : Nat → Nat) (e : Nat → Nat) (rd : Int32) (tk : Int32) (g : zG) (t : Nat) (ar : Nat) (B : Nat → Nat) (E : Nat → Nat) (qw : Nat) (qh : Nat) (qt : Nat) (c3 : Nat) (s3 : Nat) (hI : zI n me lo c e) (hZ : zJ n g) (hV : zV n g) (hN : zNs c e) (hn0 : 0 < n) (hsp : zSp o qw n ar B E) (hc3 : c3 + 61 ≤ ck) (hs3 : s3 + 168 ≤ sk) (hq1 : o < qw) (hq2 : qw + 1 + n ≤ qh) (hq3 : qh + 1 + 3 * n ≤ qt) (hq4 : qt < t) (H : Heap) (lo0 : List Loc) (hS : va_S (fun q => b ≤ q) s.heap H lo0) (hO : va_P D vwCl [(o, .inr (6, [.ref ar, .int rd, .int tk]))] H) (hQ : va_P D vwCl (zQr cR ar n (zbf n B)) H) (hF : zFm D cI n B E me lo c e g H) (hC : zCW D cI b n me lo c e rd tk g H) (hW : zW2 D cI cA qw n 7 (fun _ _ => 0) H) (hV3 : zW3 D cI cA cT qh n (fun _ _ _ => 0) H) (hT : va_P D vwCl (zAr cI qt n (fun _ => 0)) H) (hsz : H.size = t) (kk : ∀ (n1 : Nat) (H1 : Heap) (lo1 : List Loc) (ls1 : Array Slot), 0 < n1 → zLs D cI cR b o n1 H1 → va_S (fun q => b ≤ q) s.heap H1 lo1 → lv_has ls1 25 [(3, .int (nI tm)), (0, .ref b0), (1, .ref b), (2, .ref o)] → W pg l ev room_1 s m args below meth cd H1 lo1 ck sk Q (F0 m 1177 ls1 [])) (ls : Array Slot) (hl : lv_has ls 25 [(3, .int (nI tm)), (0, .ref b0), (1, .ref b), (2, .ref o), (5, .int (nI n)), (6, .ref qw), (7, .ref qh), (8, .ref qt)]) : W pg l ev room_1 s m args below meth cd H lo0 (c3) (s3) Q (F0 m 95 ls []) := by
  obtain ⟨hx, hb, hml, hown, hts⟩ := id hfix
  have hK : va_K D vwCl [(cI, .int), (cR, .object zBC)] s := hK4.sub [0, 1] rfl
  have hK1 : va_K D vwCl [(cI, .int)] s := hK4.sub [0] rfl
  have hz : H.size ≤ H.size := Nat.le_refl _
  have hn := zI_n hI
  obtain ⟨⟨ho1, ho2, ho3⟩, -, -⟩ := id hsp
  refine lv_iconst (v := 0) hx hb dL_law_95 (by decide) ?_
  refine lv_istore (lv' := [(9, .int 0), (3, .int (nI tm)), (0, .ref b0), (1, .ref b), (2, .ref o), (5, .int (nI n)), (6, .ref qw), (7, .ref qh), (8, .ref qt)]) hx hb dL_law_96 hl (by decide) rfl (fun ls hl => ?_)
  have loop98 : ∀ (fu : Nat) (k : Nat) (F : Nat → Nat → Int32) (G : Nat → Nat → Nat → Int32) (T : Nat → Int32), n - k < fu → (k ≤ n) → (∀ i w, i < k → w < 7 → F i w = tp n g me lo c e i w) → (∀ i j w, i < k → j < 2 → w < 3 → G i j w = th g i j w) → (∀ i, i < k → T i = wd (zgP n me lo c e rd tk g) i) → ∀ (x9 : Int32), x9 = (nI k) → ∀ (H1 : Heap) (lo2 : List Loc), va_P D vwCl [(o, .inr (6, [.ref ar, .int rd, .int tk]))] H1 → va_P D vwCl (zQr cR ar n (zbf n B)) H1 → zFm D cI n B E me lo c e g H1 → zCW D cI b n me lo c e rd tk g H1 → zW2 D cI cA qw n 7 F H1 → zW3 D cI cA cT qh n G H1 → va_P D vwCl (zAr cI qt n T) H1 → (H1.size = t) → H.size ≤ H1.size → va_S (fun q => b ≤ q) s.heap H1 lo2 → ∀ ls : Array Slot, lv_has ls 25 [(9, .int x9), (3, .int (nI tm)), (0, .ref b0), (1, .ref b), (2, .ref o), (5, .int (nI n)), (6, .ref qw), (7, .ref qh), (8, .ref qt)] → W pg l ev room_1 s m args below meth cd H1 lo2 c3 s3 Q (F0 m 98 ls []) := by
    intro fu
    induction fu with
    | zero => intro k F G T hfu; exact absurd hfu (Nat.not_lt_zero _)
    | succ fu ih =>
      intro k F G T hfu hi98_0 hi98_1 hi98_2 hi98_3 x9 ex9 H1 lo2 hO3 hQ4 hF5 hC6 hW7 hV38 hT9 hh98_0 hz hS ls hl
      subst ex9
      have hsz := hh98_0
      refine lv_iload hx hb dL_law_98 (lv_at hl 0 rfl) ?_
      refine lv_iload hx hb dL_law_100 (lv_at hl 5 rfl) ?_
      refine lv_icmp_ge (tgt := 283) hx hb dL_law_102 (by decide) (fun c102 => ?_) (fun c102 => ?_)
      · have c102 := z_le (a := n) (b := k) c102 (by omega) (by omega)
        have hl : lv_has ls 25 [(3, .int (nI tm)), (0, .ref b0), (1, .ref b), (2, .ref o), (5, .int (nI n)), (6, .ref qw), (7, .ref qh), (8, .ref qt)] := lv_sub hl [1, 2, 3, 4, 5, 6, 7, 8] rfl
        exact zlaw_B3 hfix hK4 hKw hX hb0 hb9 hbs hL hov2 hov3 hcl80 ck sk hck hsk tm htm n me lo c e rd tk g t ar B E qw qh qt F G T c3 s3 hI hZ hV hN hn0 (fun i w h1 h2 => hi98_1 i w (by omega) h2) (fun i j w h1 h2 h3 => hi98_2 i j w (by omega) h2 h3) (fun i h1 => hi98_3 i (by omega)) hsp hc3 hs3 hq1 hq2 hq3 hq4 H1 lo2 hS hO3 hQ4 hF5 hC6 hW7 hV38 hT9 hsz kk _ hl
      · have c102 := z_nle (a := n) (b := k) c102 (by omega) (by omega)
        have hk : k < n := by omega
        refine lv_iconst (v := 0) hx hb dL_law_105 (by decide) ?_
        refine lv_istore (lv' := [(10, .int 0), (9, .int (nI k)), (3, .int (nI tm)), (0, .ref b0), (1, .ref b), (2, .ref o), (5, .int (nI n)), (6, .ref qw), (7, .ref qh), (8, .ref qt)]) hx hb dL_law_106 hl (by decide) rfl (fun ls hl => ?_)
        have loop108 : ∀ (fu : Nat) (u : Nat) (Fx : Nat → Nat → Int32), 7 - u < fu → (u ≤ 7) → (∀ i w, i < k → w < 7 → Fx i w = tp n g me lo c e i w) → (∀ w, w < u → Fx k w = tp n g me lo c e k w) → ∀ (x10 : Int32), x10 = (nI u) → ∀ (H10 : Heap) (lo11 : List Loc), va_P D vwCl [(o, .inr (6, [.ref ar, .int rd, .int tk]))] H10 → va_P D vwCl (zQr cR ar n (zbf n B)) H10 → zFm D cI n B E me lo c e g H10 → zCW D cI b n me lo c e rd tk g H10 → zW2 D cI cA qw n 7 Fx H10 → zW3 D cI cA cT qh n G H10 → va_P D vwCl (zAr cI qt n T) H10 → (H10.size = t) → H.size ≤ H10.size → va_S (fun q => b ≤ q) s.heap H10 lo11 → ∀ ls : Array Slot, lv_has ls 25 [(10, .int x10), (9, .int (nI k)), (3, .int (nI tm)), (0, .ref b0), (1, .ref b), (2, .ref o), (5, .int (nI n)), (6, .ref qw), (7, .ref qh), (8, .ref qt)] → W pg l ev room_1 s m args below meth cd H10 lo11 c3 s3 Q (F0 m 108 ls []) := by
          intro fu
          induction fu with
          | zero => intro u Fx hfu; exact absurd hfu (Nat.not_lt_zero _)
          | succ fu ih108 =>
            intro u Fx hfu hi108_0 hi108_1 hi108_2 x10 ex10 H10 lo11 hO12 hQ13 hF14 hC15 hW16 hV317 hT18 hh108_0 hz hS ls hl
            subst ex10
            have hsz := hh108_0
            refine lv_iload hx hb dL_law_108 (lv_at hl 0 rfl) ?_
            refine lv_bipush (v := 7) hx hb dL_law_110 (by decide) ?_
            refine lv_icmp_ge (tgt := 137) hx hb dL_law_112 (by decide) (fun c112 => ?_) (fun c112 => ?_)
            · have c112 := z_le (a := 7) (b := u) c112 (by omega) (by omega)
              have hu7 : u = 7 := by omega
              refine lv_iconst (v := 0) hx hb dL_law_137 (by decide) ?_
              refine lv_istore (lv' := [(10, .int 0), (9, .int (nI k)), (3, .int (nI tm)), (0, .ref b0), (1, .ref b), (2, .ref o), (5, .int (nI n)), (6, .ref qw), (7, .ref qh), (8, .ref qt)]) hx hb dL_law_138 hl (by decide) rfl (fun ls hl => ?_)
              have loop140 : ∀ (fu : Nat) (j : Nat) (Gx : Nat → Nat → Nat → Int32), 2 - j < fu → (j ≤ 2) → (∀ i j w, i < k → j < 2 → w < 3 → Gx i j w = th g i j w) → (∀ j9 w, j9 < j → w < 3 → Gx k j9 w = th g k j9 w) → ∀ (x10 : Int32), x10 = (nI j) → ∀ (H19 : Heap) (lo20 : List Loc), va_P D vwCl [(o, .inr (6, [.ref ar, .int rd, .int tk]))] H19 → va_P D vwCl (zQr cR ar n (zbf n B)) H19 → zFm D cI n B E me lo c e g H19 → zCW D cI b n me lo c e rd tk g H19 → zW2 D cI cA qw n 7 Fx H19 → zW3 D cI cA cT qh n Gx H19 → va_P D vwCl (zAr cI qt n T) H19 → (H19.size = t) → H.size ≤ H19.size → va_S (fun q => b ≤ q) s.heap H19 lo20 → ∀ ls : Array Slot, lv_has ls 25 [(10, .int x10), (9, .int (nI k)), (3, .int (nI tm)), (0, .ref b0), (1, .ref b), (2, .ref o), (5, .int (nI n)), (6, .ref qw), (7, .ref qh), (8, .ref qt)] → W pg l ev room_1 s m args below meth cd H19 lo20 c3 s3 Q (F0 m 140 ls []) := by
                intro fu
                induction fu with
                | zero => intro j Gx hfu; exact absurd hfu (Nat.not_lt_zero _)
                | succ fu ih140 =>
                  intro j Gx hfu hi140_0 hi140_1 hi140_2 x10 ex10 H19 lo20 hO21 hQ22 hF23 hC24 hW25 hV326 hT27 hh140_0 hz hS ls hl
                  subst ex10
                  have hsz := hh140_0
                  refine lv_iload hx hb dL_law_140 (lv_at hl 0 rfl) ?_
                  refine lv_iconst (v := 2) hx hb dL_law_142 (by decide) ?_
                  refine lv_icmp_ge (tgt := 197) hx hb dL_law_143 (by decide) (fun c143 => ?_) (fun c143 => ?_)
                  · have c143 := z_le (a := 2) (b := j) c143 (by omega) (by omega)
                    have hj2 : j = 2 := by omega
                    refine lv_aload hx hb dL_law_197 (lv_at hl 9 rfl) ?_
                    refine lv_iload hx hb dL_law_199 (lv_at hl 1 rfl) ?_
                    refine lv_aload_n hx hb dL_law_201 rfl (lv_at hl 4 rfl) ?_
                    refine lv_iconst (v := 1) hx hb dL_law_202 (by decide) ?_
                    refine lv_iload hx hb dL_law_203 (lv_at hl 1 rfl) ?_
                    refine z_mi (va_runV (As := [.int 1, .int (nI k)]) (rest := [.int (nI k), .ref qt]) hfix (zcX4_foresee_k l D cI H19 b n me lo c e rd tk g 1 k hC24 hI (by omega) (by omega) (by omega)) (cwV 2 hts gL_law_X4_foresee rfl rfl rfl (by decide +kernel) ⟨Nat.le_of_ble_eq_true rfl, Nat.le_of_ble_eq_true rfl⟩) (z_preV hK hK1 hC24.1 (ci := 4) (q0 := 0) rfl rfl rfl) rfl rfl hl.1 rfl (lv_room (Nat.le_of_ble_eq_true rfl)) dL_law_205 ⟨by show c3 + 0 ≤ 830515; omega, by show s3 + 0 ≤ 6609922; omega⟩) hS (fun q _ h => by simp only [zF] at h; show b ≤ q; omega) (fun q h => by simp only [zF] at h; show b ≤ q; omega) (fun H28 lo29 hB hz1 hk1 hS => ?_)
                    have hz : H.size ≤ H28.size := by have h9 := hB.2; omega
                    have hsz : H28.size = t := hB.2.trans hsz
                    have hO30 := zOb_kept hO21 (fun q h1 h2 h3 => hk1 q h1 (by simp only [zF]; omega))
                    have hQ31 := zQr_kept hQ22 (fun q h1 h2 h3 => hk1 q h1 (by simp only [zF]; omega))
                    have hF32 := zFm_kept hsp hF23 (fun q h1 h2 h3 => hk1 q h1 (by simp only [zF]; omega))
                    have hC33 : zCW D cI b n me lo c e rd tk g H28 := hB.1
                    have hW34 := zW2_kept hW25 (fun q h1 h2 h3 => hk1 q h1 (by simp only [zF]; omega))
                    have hV35 := zW3_kept hV326 (fun q h1 h2 h3 => hk1 q h1 (by simp only [zF]; omega))
                    have hT36 := zAr_kept hT27 (fun q h1 h2 h3 => hk1 q h1 (by simp only [zF]; omega))
                    refine z_iast (n := n) (f := T) (x := (wd (rN n me lo c e (rd, tk, g) 1).2.2 k)) (j := k) hx hb hK hT36 (by show b ≤ _; omega) hS 0 0 rfl rfl rfl (by omega) (by omega) dL_law_208 (fun H37 lo38 hP1 hz1 hk1 hS => ?_)
                    have hz : H.size ≤ H37.size := by omega
                    have hO39 := zOb_kept hO30 (fun q h1 h2 h3 => (fun q _ h => hk1 q h) q h1 (by omega))
                    have hQ40 := zQr_kept hQ31 (fun q h1 h2 h3 => (fun q _ h => hk1 q h) q h1 (by omega))
                    have hF41 := zFm_kept hsp hF32 (fun q h1 h2 h3 => (fun q _ h => hk1 q h) q h1 (by omega))
                    have hC42 := zCW_kept hC33 (fun q h1 h2 h3 => (fun q _ h => hk1 q h) q h1 (by omega))
                    have hW43 := zW2_kept hW34 (fun q h1 h2 h3 => (fun q _ h => hk1 q h) q h1 (by omega))
                    have hV44 := zW3_kept hV35 (fun q h1 h2 h3 => (fun q _ h => hk1 q h) q h1 (by omega))
                    have hT45 : va_P D vwCl (zAr cI qt n (upd T k (wd (rN n me lo c e (rd, tk, g) 1).2.2 k))) H37 := z_set zAr_c hT36 0 rfl hP1 (fun q _ h => hk1 q h)
                    refine lv_aload hx hb dL_law_209 (lv_at hl 7 rfl) ?_
                    refine lv_iload hx hb dL_law_211 (lv_at hl 1 rfl) ?_
                    refine z_aald (a := qw) (n := n) (f := (zbf n (zR2 qw))) (j := k) hx hb hK4 hW43.1 0 2 rfl rfl rfl rfl (by omega) (by omega) (zbf_in (by omega)) dL_law_213 ?_
                    have hr46 : va_P D vwCl (zAr cI (zR2 qw k) 7 (Fx k)) H37 := hW43.2 k (by omega)
                    refine lv_iconst (v := 0) hx hb dL_law_214 (by decide) ?_
                    refine z_iald (a := (zR2 qw k)) (n := 7) (f := (Fx k)) (j := 0) hx hb hK hr46 0 0 rfl rfl rfl (by omega) (by omega) dL_law_215 ?_
                    refine z_toi (y := (wd g k)) (hi108_2 0 (by omega)) ?_
                    refine lv_bipush (v := 100) hx hb dL_law_216 (by decide) ?_
                    refine lv_aload hx hb dL_law_218 (lv_at hl 8 rfl) ?_
                    refine lv_iload hx hb dL_law_220 (lv_at hl 1 rfl) ?_
                    refine z_aald (a := qh) (n := n) (f := (zbf n (zR3 qh))) (j := k) hx hb hK4 hV44.1 0 3 rfl rfl rfl rfl (by omega) (by omega) (zbf_in (by omega)) dL_law_222 ?_
                    have hr47 : va_P D vwCl (zQr cA (zR3 qh k) 2 (zbf 2 (zR2 (zR3 qh k)))) H37 := (hV44.2 k (by omega)).1
                    refine lv_iconst (v := 0) hx hb dL_law_223 (by decide) ?_
                    refine z_aald (a := (zR3 qh k)) (n := 2) (f := (zbf 2 (zR2 (zR3 qh k)))) (j := 0) hx hb hK4 hr47 0 2 rfl rfl rfl rfl (by omega) (by omega) (zbf_in (by omega)) dL_law_224 ?_
                    have hr48 : va_P D vwCl (zAr cI (zR2 (zR3 qh k) 0) 3 (Gx k 0)) H37 := (hV44.2 k (by omega)).2 0 (by omega)
                    refine lv_iconst (v := 0) hx hb dL_law_225 (by decide) ?_
                    refine z_iald (a := (zR2 (zR3 qh k) 0)) (n := 3) (f := (Gx k 0)) (j := 0) hx hb hK hr48 0 0 rfl rfl rfl (by omega) (by omega) dL_law_226 ?_
                    refine z_toi (y := (g 0 k)) (hi140_2 0 0 (by omega) (by omega)) ?_
                    refine lv_imul hx hb dL_law_227 ?_
                    refine lv_aload hx hb dL_law_228 (lv_at hl 8 rfl) ?_
                    refine lv_iload hx hb dL_law_230 (lv_at hl 1 rfl) ?_
                    refine z_aald (a := qh) (n := n) (f := (zbf n (zR3 qh))) (j := k) hx hb hK4 hV44.1 0 3 rfl rfl rfl rfl (by omega) (by omega) (zbf_in (by omega)) dL_law_232 ?_
                    refine lv_iconst (v := 1) hx hb dL_law_233 (by decide) ?_
                    refine z_aald (a := (zR3 qh k)) (n := 2) (f := (zbf 2 (zR2 (zR3 qh k)))) (j := 1) hx hb hK4 hr47 0 2 rfl rfl rfl rfl (by omega) (by omega) (zbf_in (by omega)) dL_law_234 ?_
                    have hr49 : va_P D vwCl (zAr cI (zR2 (zR3 qh k) 1) 3 (Gx k 1)) H37 := (hV44.2 k (by omega)).2 1 (by omega)
                    refine lv_iconst (v := 0) hx hb dL_law_235 (by decide) ?_
                    refine z_iald (a := (zR2 (zR3 qh k) 1)) (n := 3) (f := (Gx k 1)) (j := 0) hx hb hK hr49 0 0 rfl rfl rfl (by omega) (by omega) dL_law_236 ?_
                    refine z_toi (y := (g 1 k)) (hi140_2 1 0 (by omega) (by omega)) ?_
                    refine lv_iadd hx hb dL_law_237 ?_
                    refine lv_icmp_ne (tgt := 275) hx hb dL_law_238 (by decide) (fun c238 => ?_) (fun c238 => ?_)
                    · exact absurd (zb_wd g k).symm c238
                    · have hc4 := zI_c hI k
                      have hnn := zo_neg (r := hd lo e k (c k)) (fun q hq => by have := zI_hd hI hq; omega)
                      refine lv_aload hx hb dL_law_241 (lv_at hl 7 rfl) ?_
                      refine lv_iload hx hb dL_law_243 (lv_at hl 1 rfl) ?_
                      refine z_aald (a := qw) (n := n) (f := (zbf n (zR2 qw))) (j := k) hx hb hK4 hW43.1 0 2 rfl rfl rfl rfl (by omega) (by omega) (zbf_in (by omega)) dL_law_245 ?_
                      refine lv_bipush (v := 6) hx hb dL_law_246 (by decide) ?_
                      refine z_iald (a := (zR2 qw k)) (n := 7) (f := (Fx k)) (j := 6) hx hb hK hr46 0 0 rfl rfl rfl (by omega) (by omega) dL_law_248 ?_
                      refine z_toi (y := (zo (hd lo e k (c k)))) (hi108_2 6 (by omega)) ?_
                      refine lv_if_ge (tgt := 256) hx hb dL_law_249 (by decide) (fun c249 => ?_) (fun c249 => ?_)
                      · refine lv_iconst (v := 0) hx hb dL_law_256 (by decide) ?_
                        refine lv_aload hx hb dL_law_257 (lv_at hl 7 rfl) ?_
                        refine lv_iload hx hb dL_law_259 (lv_at hl 1 rfl) ?_
                        refine z_aald (a := qw) (n := n) (f := (zbf n (zR2 qw))) (j := k) hx hb hK4 hW43.1 0 2 rfl rfl rfl rfl (by omega) (by omega) (zbf_in (by omega)) dL_law_261 ?_
                        refine lv_iconst (v := 4) hx hb dL_law_262 (by decide) ?_
                        refine z_iald (a := (zR2 qw k)) (n := 7) (f := (Fx k)) (j := 4) hx hb hK hr46 0 0 rfl rfl rfl (by omega) (by omega) dL_law_263 ?_
                        refine z_toi (y := (nI (c k))) (hi108_2 4 (by omega)) ?_
                        refine lv_if_ne (tgt := 271) hx hb dL_law_264 (by decide) (fun c264 => ?_) (fun c264 => ?_)
                        · have c264 := z_ne (a := c k) (b := 0) c264 (by omega) (by omega)
                          refine lv_iconst (v := 0) hx hb dL_law_271 (by decide) ?_
                          refine lv_icmp_eq (tgt := 277) hx hb dL_law_272 (by decide) (fun c272 => ?_) (fun c272 => ?_)
                          · have c272 := z_eq (a := 0) (b := 0) c272 (by omega) (by omega)
                            refine lv_iinc (v := (nI (k + 1))) (lv' := [(9, .int (nI (k + 1))), (10, .int (nI j)), (3, .int (nI tm)), (0, .ref b0), (1, .ref b), (2, .ref o), (5, .int (nI n)), (6, .ref qw), (7, .ref qh), (8, .ref qt)]) hx hb dL_law_277 hl (k := 1) rfl (nI_1 _) (by decide) rfl (fun ls hl => ?_)
                            refine lv_goto (tgt := 98) hx hb dL_law_280 (by decide) ?_
                            exact ih (k + 1) Fx Gx (upd T k (wd (rN n me lo c e (rd, tk, g) 1).2.2 k)) (by omega) (by omega) (fun i w h1 h2 => by rcases Nat.lt_or_ge i k with h9 | h9 <;> first | exact hi108_1 i w h9 h2 | (rw [show i = k by omega]; exact hi108_2 w (by omega))) (fun i j w h1 h2 h3 => by rcases Nat.lt_or_ge i k with h9 | h9 <;> first | exact hi140_1 i j w h9 h2 h3 | (rw [show i = k by omega]; exact hi140_2 j w (by omega) h3)) (fun i h1 => by rcases Nat.lt_or_ge i k with h9 | h9 <;> first | exact (pk_un (by omega)).trans (hi98_3 i h9) | (rw [show i = k by omega]; exact pk_us)) _ (rfl) _ _ (hO39) (hQ40) (hF41) (hC42) (hW43) (hV44) (hT45) (by omega) hz hS _ (lv_sub hl [0, 2, 3, 4, 5, 6, 7, 8, 9] rfl)
                          · exact absurd (by decide) c272
                        · have c264 := z_eq (a := c k) (b := 0) c264 (by omega) (by omega)
                          exact absurd (hnn.mpr (hd_none c264)) (Int32.not_lt.mpr c249)
                      · refine lv_iconst (v := 1) hx hb dL_law_252 (by decide) ?_
                        refine lv_goto (tgt := 257) hx hb dL_law_253 (by decide) ?_
                        refine lv_aload hx hb dL_law_257 (lv_at hl 7 rfl) ?_
                        refine lv_iload hx hb dL_law_259 (lv_at hl 1 rfl) ?_
                        refine z_aald (a := qw) (n := n) (f := (zbf n (zR2 qw))) (j := k) hx hb hK4 hW43.1 0 2 rfl rfl rfl rfl (by omega) (by omega) (zbf_in (by omega)) dL_law_261 ?_
                        refine lv_iconst (v := 4) hx hb dL_law_262 (by decide) ?_
                        refine z_iald (a := (zR2 qw k)) (n := 7) (f := (Fx k)) (j := 4) hx hb hK hr46 0 0 rfl rfl rfl (by omega) (by omega) dL_law_263 ?_
                        refine z_toi (y := (nI (c k))) (hi108_2 4 (by omega)) ?_
                        refine lv_if_ne (tgt := 271) hx hb dL_law_264 (by decide) (fun c264 => ?_) (fun c264 => ?_)
                        · have c264 := z_ne (a := c k) (b := 0) c264 (by omega) (by omega)
                          exact absurd (hnn.mp (Int32.not_le.mp c249)) (hd_some c264)
                        · have c264 := z_eq (a := c k) (b := 0) c264 (by omega) (by omega)
                          refine lv_iconst (v := 1) hx hb dL_law_267 (by decide) ?_
                          refine lv_goto (tgt := 272) hx hb dL_law_268 (by decide) ?_
                          refine lv_icmp_eq (tgt := 277) hx hb dL_law_272 (by decide) (fun c272 => ?_) (fun c272 => ?_)
                          · have c272 := z_eq (a := 1) (b := 1) c272 (by omega) (by omega)
                            refine lv_iinc (v := (nI (k + 1))) (lv' := [(9, .int (nI (k + 1))), (10, .int (nI j)), (3, .int (nI tm)), (0, .ref b0), (1, .ref b), (2, .ref o), (5, .int (nI n)), (6, .ref qw), (7, .ref qh), (8, .ref qt)]) hx hb dL_law_277 hl (k := 1) rfl (nI_1 _) (by decide) rfl (fun ls hl => ?_)
                            refine lv_goto (tgt := 98) hx hb dL_law_280 (by decide) ?_
                            exact ih (k + 1) Fx Gx (upd T k (wd (rN n me lo c e (rd, tk, g) 1).2.2 k)) (by omega) (by omega) (fun i w h1 h2 => by rcases Nat.lt_or_ge i k with h9 | h9 <;> first | exact hi108_1 i w h9 h2 | (rw [show i = k by omega]; exact hi108_2 w (by omega))) (fun i j w h1 h2 h3 => by rcases Nat.lt_or_ge i k with h9 | h9 <;> first | exact hi140_1 i j w h9 h2 h3 | (rw [show i = k by omega]; exact hi140_2 j w (by omega) h3)) (fun i h1 => by rcases Nat.lt_or_ge i k with h9 | h9 <;> first | exact (pk_un (by omega)).trans (hi98_3 i h9) | (rw [show i = k by omega]; exact pk_us)) _ (rfl) _ _ (hO39) (hQ40) (hF41) (hC42) (hW43) (hV44) (hT45) (by omega) hz hS _ (lv_sub hl [0, 2, 3, 4, 5, 6, 7, 8, 9] rfl)
                          · exact absurd (by decide) c272
                  · have c143 := z_nle (a := 2) (b := j) c143 (by omega) (by omega)
                    refine lv_iconst (v := 0) hx hb dL_law_146 (by decide) ?_
                    refine lv_istore (lv' := [(11, .int 0), (10, .int (nI j)), (9, .int (nI k)), (3, .int (nI tm)), (0, .ref b0), (1, .ref b), (2, .ref o), (5, .int (nI n)), (6, .ref qw), (7, .ref qh), (8, .ref qt)]) hx hb dL_law_147 hl (by decide) rfl (fun ls hl => ?_)
                    have loop149 : ∀ (fu : Nat) (v : Nat) (Gy : Nat → Nat → Nat → Int32), 3 - v < fu → (v ≤ 3) → (∀ i j w, i < k → j < 2 → w < 3 → Gy i j w = th g i j w) → (∀ j9 w, j9 < j → w < 3 → Gy k j9 w = th g k j9 w) → (∀ w, w < v → Gy k j w = th g k j w) → ∀ (x11 : Int32), x11 = (nI v) → ∀ (H50 : Heap) (lo51 : List Loc), va_P D vwCl [(o, .inr (6, [.ref ar, .int rd, .int tk]))] H50 → va_P D vwCl (zQr cR ar n (zbf n B)) H50 → zFm D cI n B E me lo c e g H50 → zCW D cI b n me lo c e rd tk g H50 → zW2 D cI cA qw n 7 Fx H50 → zW3 D cI cA cT qh n Gy H50 → va_P D vwCl (zAr cI qt n T) H50 → (H50.size = t) → H.size ≤ H50.size → va_S (fun q => b ≤ q) s.heap H50 lo51 → ∀ ls : Array Slot, lv_has ls 25 [(11, .int x11), (10, .int (nI j)), (9, .int (nI k)), (3, .int (nI tm)), (0, .ref b0), (1, .ref b), (2, .ref o), (5, .int (nI n)), (6, .ref qw), (7, .ref qh), (8, .ref qt)] → W pg l ev room_1 s m args below meth cd H50 lo51 c3 s3 Q (F0 m 149 ls []) := by
                      intro fu
                      induction fu with
                      | zero => intro v Gy hfu; exact absurd hfu (Nat.not_lt_zero _)
                      | succ fu ih149 =>
                        intro v Gy hfu hi149_0 hi149_1 hi149_2 hi149_3 x11 ex11 H50 lo51 hO52 hQ53 hF54 hC55 hW56 hV357 hT58 hh149_0 hz hS ls hl
                        subst ex11
                        have hsz := hh149_0
                        refine lv_iload hx hb dL_law_149 (lv_at hl 0 rfl) ?_
                        refine lv_iconst (v := 3) hx hb dL_law_151 (by decide) ?_
                        refine lv_icmp_ge (tgt := 191) hx hb dL_law_152 (by decide) (fun c152 => ?_) (fun c152 => ?_)
                        · have c152 := z_le (a := 3) (b := v) c152 (by omega) (by omega)
                          have hv3 : v = 3 := by omega
                          refine lv_iinc (v := (nI (j + 1))) (lv' := [(10, .int (nI (j + 1))), (11, .int (nI v)), (9, .int (nI k)), (3, .int (nI tm)), (0, .ref b0), (1, .ref b), (2, .ref o), (5, .int (nI n)), (6, .ref qw), (7, .ref qh), (8, .ref qt)]) hx hb dL_law_191 hl (k := 1) rfl (nI_1 _) (by decide) rfl (fun ls hl => ?_)
                          refine lv_goto (tgt := 140) hx hb dL_law_194 (by decide) ?_
                          exact ih140 (j + 1) Gy (by omega) (by omega) (hi149_1) (fun j9 w h1 h2 => by rcases Nat.lt_or_ge j9 j with h9 | h9 <;> first | exact hi149_2 j9 w h9 h2 | (rw [show j9 = j by omega]; exact hi149_3 w (by omega))) _ (rfl) _ _ (hO52) (hQ53) (hF54) (hC55) (hW56) (hV357) (hT58) (by omega) hz hS _ (lv_sub hl [0, 2, 3, 4, 5, 6, 7, 8, 9, 10] rfl)
                        · have c152 := z_nle (a := 3) (b := v) c152 (by omega) (by omega)
                          refine lv_aload hx hb dL_law_155 (lv_at hl 9 rfl) ?_
                          refine lv_iload hx hb dL_law_157 (lv_at hl 2 rfl) ?_
                          refine z_aald (a := qh) (n := n) (f := (zbf n (zR3 qh))) (j := k) hx hb hK4 hV357.1 0 3 rfl rfl rfl rfl (by omega) (by omega) (zbf_in (by omega)) dL_law_159 ?_
                          have hr59 : va_P D vwCl (zQr cA (zR3 qh k) 2 (zbf 2 (zR2 (zR3 qh k)))) H50 := (hV357.2 k (by omega)).1
                          refine lv_iload hx hb dL_law_160 (lv_at hl 1 rfl) ?_
                          refine z_aald (a := (zR3 qh k)) (n := 2) (f := (zbf 2 (zR2 (zR3 qh k)))) (j := j) hx hb hK4 hr59 0 2 rfl rfl rfl rfl (by omega) (by omega) (zbf_in (by omega)) dL_law_162 ?_
                          have hr60 : va_P D vwCl (zAr cI (zR2 (zR3 qh k) j) 3 (Gy k j)) H50 := (hV357.2 k (by omega)).2 j (by omega)
                          refine lv_iload hx hb dL_law_163 (lv_at hl 0 rfl) ?_
                          refine lv_aload_n hx hb dL_law_165 rfl (lv_at hl 5 rfl) ?_
                          refine lv_iload hx hb dL_law_166 (lv_at hl 2 rfl) ?_
                          refine lv_iload hx hb dL_law_168 (lv_at hl 1 rfl) ?_
                          refine lv_iconst (v := 1) hx hb dL_law_170 (by decide) ?_
                          refine lv_icmp_ne (tgt := 178) hx hb dL_law_171 (by decide) (fun c171 => ?_) (fun c171 => ?_)
                          · have c171 := z_ne (a := j) (b := 1) c171 (by omega) (by omega)
                            refine lv_iconst (v := 0) hx hb dL_law_178 (by decide) ?_
                            refine lv_iload hx hb dL_law_179 (lv_at hl 0 rfl) ?_
                            refine z_ki (va_runV (As := [.int (nI k), .int 0, .int (nI v)]) (rest := [.int (nI v), .ref (zR2 (zR3 qh k) j)]) hfix (zcX4_half_k0 l D cI H50 b n me lo c e rd tk g k v hC55 hI (by omega) (by omega)) (cwV 3 hts gL_law_X4_half rfl rfl rfl (by decide +kernel) ⟨Nat.le_of_ble_eq_true rfl, Nat.le_of_ble_eq_true rfl⟩) (z_preV hK hK1 hC55.1 (ci := 4) (q0 := 0) rfl rfl rfl) rfl rfl hl.1 rfl (lv_room (Nat.le_of_ble_eq_true rfl)) dL_law_181 ⟨by show c3 + 0 ≤ 830515; omega, by show s3 + 0 ≤ 6609922; omega⟩) ?_
                            refine z_iast (n := 3) (f := (Gy k j)) (x := (th g k 0 v)) (j := v) hx hb hK hr60 (by show b ≤ qh + 1 + 3 * k + 1 + j; omega) hS 0 0 rfl rfl rfl (by omega) (by omega) dL_law_184 (fun H61 lo62 hP1 hz1 hk1 hS => ?_)
                            have hk1 : ∀ z : Nat, z ≠ qh + 1 + 3 * k + 1 + j → H61[z]? = H50[z]? := hk1
                            have hz : H.size ≤ H61.size := by omega
                            have hO63 := zOb_kept hO52 (fun q h1 h2 h3 => (fun z _ h => hk1 z h) q h1 (by omega))
                            have hQ64 := zQr_kept hQ53 (fun q h1 h2 h3 => (fun z _ h => hk1 z h) q h1 (by omega))
                            have hF65 := zFm_kept hsp hF54 (fun q h1 h2 h3 => (fun z _ h => hk1 z h) q h1 (by omega))
                            have hC66 := zCW_kept hC55 (fun q h1 h2 h3 => (fun z _ h => hk1 z h) q h1 (by omega))
                            have hW67 := zW2_kept hW56 (fun q h1 h2 h3 => (fun z _ h => hk1 z h) q h1 (by omega))
                            have hV68 : zW3 D cI cA cT qh n (zu3 Gy k j v (th g k 0 v)) H61 := zW3_set hV357 (by omega) (by omega) hP1 hk1
                            have hT69 := zAr_kept hT58 (fun q h1 h2 h3 => (fun z _ h => hk1 z h) q h1 (by omega))
                            refine lv_iinc (v := (nI (v + 1))) (lv' := [(11, .int (nI (v + 1))), (10, .int (nI j)), (9, .int (nI k)), (3, .int (nI tm)), (0, .ref b0), (1, .ref b), (2, .ref o), (5, .int (nI n)), (6, .ref qw), (7, .ref qh), (8, .ref qt)]) hx hb dL_law_185 hl (k := 0) rfl (nI_1 _) (by decide) rfl (fun ls hl => ?_)
                            refine lv_goto (tgt := 149) hx hb dL_law_188 (by decide) ?_
                            exact ih149 (v + 1) (zu3 Gy k j v (th g k 0 v)) (by omega) (by omega) (fun i j9 w h1 h2 h3 => by rw [zu3_n (by omega)]; exact hi149_1 i j9 w h1 h2 h3) (fun j9 w h1 h2 => by rw [zu3_n (by omega)]; exact hi149_2 j9 w h1 h2) (fun w h => by by_cases h9 : w = v <;> first | (subst h9; rw [zu3_s]; first | rw [show j = 0 by omega] | rw [show j = 1 by omega]) | (rw [zu3_n (by omega)]; exact hi149_3 w (by omega))) _ (rfl) _ _ (hO63) (hQ64) (hF65) (hC66) (hW67) (hV68) (hT69) (by omega) hz hS _ (lv_sub hl [0, 1, 2, 3, 4, 5, 6, 7, 8, 9, 10] rfl)
                          · have c171 := z_eq (a := j) (b := 1) c171 (by omega) (by omega)
                            refine lv_iconst (v := 1) hx hb dL_law_174 (by decide) ?_
                            refine lv_goto (tgt := 179) hx hb dL_law_175 (by decide) ?_
                            refine lv_iload hx hb dL_law_179 (lv_at hl 0 rfl) ?_
                            refine z_ki (va_runV (As := [.int (nI k), .int 1, .int (nI v)]) (rest := [.int (nI v), .ref (zR2 (zR3 qh k) j)]) hfix (zcX4_half_k1 l D cI H50 b n me lo c e rd tk g k v hC55 hI (by omega) (by omega)) (cwV 3 hts gL_law_X4_half rfl rfl rfl (by decide +kernel) ⟨Nat.le_of_ble_eq_true rfl, Nat.le_of_ble_eq_true rfl⟩) (z_preV hK hK1 hC55.1 (ci := 4) (q0 := 0) rfl rfl rfl) rfl rfl hl.1 rfl (lv_room (Nat.le_of_ble_eq_true rfl)) dL_law_181 ⟨by show c3 + 0 ≤ 830515; omega, by show s3 + 0 ≤ 6609922; omega⟩) ?_
                            refine z_iast (n := 3) (f := (Gy k j)) (x := (th g k 1 v)) (j := v) hx hb hK hr60 (by show b ≤ qh + 1 + 3 * k + 1 + j; omega) hS 0 0 rfl rfl rfl (by omega) (by omega) dL_law_184 (fun H70 lo71 hP1 hz1 hk1 hS => ?_)
                            have hk1 : ∀ z : Nat, z ≠ qh + 1 + 3 * k + 1 + j → H70[z]? = H50[z]? := hk1
                            have hz : H.size ≤ H70.size := by omega
                            have hO72 := zOb_kept hO52 (fun q h1 h2 h3 => (fun z _ h => hk1 z h) q h1 (by omega))
                            have hQ73 := zQr_kept hQ53 (fun q h1 h2 h3 => (fun z _ h => hk1 z h) q h1 (by omega))
                            have hF74 := zFm_kept hsp hF54 (fun q h1 h2 h3 => (fun z _ h => hk1 z h) q h1 (by omega))
                            have hC75 := zCW_kept hC55 (fun q h1 h2 h3 => (fun z _ h => hk1 z h) q h1 (by omega))
                            have hW76 := zW2_kept hW56 (fun q h1 h2 h3 => (fun z _ h => hk1 z h) q h1 (by omega))
                            have hV77 : zW3 D cI cA cT qh n (zu3 Gy k j v (th g k 1 v)) H70 := zW3_set hV357 (by omega) (by omega) hP1 hk1
                            have hT78 := zAr_kept hT58 (fun q h1 h2 h3 => (fun z _ h => hk1 z h) q h1 (by omega))
                            refine lv_iinc (v := (nI (v + 1))) (lv' := [(11, .int (nI (v + 1))), (10, .int (nI j)), (9, .int (nI k)), (3, .int (nI tm)), (0, .ref b0), (1, .ref b), (2, .ref o), (5, .int (nI n)), (6, .ref qw), (7, .ref qh), (8, .ref qt)]) hx hb dL_law_185 hl (k := 0) rfl (nI_1 _) (by decide) rfl (fun ls hl => ?_)
                            refine lv_goto (tgt := 149) hx hb dL_law_188 (by decide) ?_
                            exact ih149 (v + 1) (zu3 Gy k j v (th g k 1 v)) (by omega) (by omega) (fun i j9 w h1 h2 h3 => by rw [zu3_n (by omega)]; exact hi149_1 i j9 w h1 h2 h3) (fun j9 w h1 h2 => by rw [zu3_n (by omega)]; exact hi149_2 j9 w h1 h2) (fun w h => by by_cases h9 : w = v <;> first | (subst h9; rw [zu3_s]; first | rw [show j = 0 by omega] | rw [show j = 1 by omega]) | (rw [zu3_n (by omega)]; exact hi149_3 w (by omega))) _ (rfl) _ _ (hO72) (hQ73) (hF74) (hC75) (hW76) (hV77) (hT78) (by omega) hz hS _ (lv_sub hl [0, 1, 2, 3, 4, 5, 6, 7, 8, 9, 10] rfl)
                    exact loop149 _ 0 Gx (Nat.lt_succ_self _) (by omega) (hi140_1) (hi140_2) (fun w h => absurd h (Nat.not_lt_zero _)) _ (rfl) _ _ hO21 hQ22 hF23 hC24 hW25 hV326 hT27 (hsz) hz hS _ (lv_sub hl [0, 1, 2, 3, 4, 5, 6, 7, 8, 9, 10] rfl)
              exact loop140 _ 0 G (Nat.lt_succ_self _) (by omega) (hi98_2) (fun j9 w h => absurd h (Nat.not_lt_zero _)) _ (rfl) _ _ hO12 hQ13 hF14 hC15 hW16 hV317 hT18 (hsz) hz hS _ (lv_sub hl [0, 1, 2, 3, 4, 5, 6, 7, 8, 9] rfl)
            · have c112 := z_nle (a := 7) (b := u) c112 (by omega) (by omega)
              refine lv_aload hx hb dL_law_115 (lv_at hl 7 rfl) ?_
              refine lv_iload hx hb dL_law_117 (lv_at hl 1 rfl) ?_
              refine z_aald (a := qw) (n := n) (f := (zbf n (zR2 qw))) (j := k) hx hb hK4 hW16.1 0 2 rfl rfl rfl rfl (by omega) (by omega) (zbf_in (by omega)) dL_law_119 ?_
              have hr79 : va_P D vwCl (zAr cI (zR2 qw k) 7 (Fx k)) H10 := hW16.2 k (by omega)
              refine lv_iload hx hb dL_law_120 (lv_at hl 0 rfl) ?_
              refine lv_aload_n hx hb dL_law_122 rfl (lv_at hl 4 rfl) ?_
              refine lv_iload hx hb dL_law_123 (lv_at hl 1 rfl) ?_
              refine lv_iload hx hb dL_law_125 (lv_at hl 0 rfl) ?_
              refine z_ki (va_runV (As := [.int (nI k), .int (nI u)]) (rest := [.int (nI u), .ref (zR2 qw k)]) hfix (zcX4_parrot_k l D cI H10 b n me lo c e rd tk g k u hC15 hI (by omega) (by omega)) (cwV 2 hts gL_law_X4_parrot rfl rfl rfl (by decide +kernel) ⟨Nat.le_of_ble_eq_true rfl, Nat.le_of_ble_eq_true rfl⟩) (z_preV hK hK1 hC15.1 (ci := 4) (q0 := 0) rfl rfl rfl) rfl rfl hl.1 rfl (lv_room (Nat.le_of_ble_eq_true rfl)) dL_law_127 ⟨by show c3 + 0 ≤ 830515; omega, by show s3 + 0 ≤ 6609922; omega⟩) ?_
              refine z_iast (n := 7) (f := (Fx k)) (x := (tp n g me lo c e k u)) (j := u) hx hb hK hr79 (by show b ≤ qw + 1 + k; omega) hS 0 0 rfl rfl rfl (by omega) (by omega) dL_law_130 (fun H80 lo81 hP1 hz1 hk1 hS => ?_)
              have hk1 : ∀ z : Nat, z ≠ qw + 1 + k → H80[z]? = H10[z]? := hk1
              have hz : H.size ≤ H80.size := by omega
              have hO82 := zOb_kept hO12 (fun q h1 h2 h3 => (fun z _ h => hk1 z h) q h1 (by omega))
              have hQ83 := zQr_kept hQ13 (fun q h1 h2 h3 => (fun z _ h => hk1 z h) q h1 (by omega))
              have hF84 := zFm_kept hsp hF14 (fun q h1 h2 h3 => (fun z _ h => hk1 z h) q h1 (by omega))
              have hC85 := zCW_kept hC15 (fun q h1 h2 h3 => (fun z _ h => hk1 z h) q h1 (by omega))
              have hW86 : zW2 D cI cA qw n 7 (zu2 Fx k u (tp n g me lo c e k u)) H80 := zW2_set hW16 (by omega) hP1 hk1
              have hV87 := zW3_kept hV317 (fun q h1 h2 h3 => (fun z _ h => hk1 z h) q h1 (by omega))
              have hT88 := zAr_kept hT18 (fun q h1 h2 h3 => (fun z _ h => hk1 z h) q h1 (by omega))
              refine lv_iinc (v := (nI (u + 1))) (lv' := [(10, .int (nI (u + 1))), (9, .int (nI k)), (3, .int (nI tm)), (0, .ref b0), (1, .ref b), (2, .ref o), (5, .int (nI n)), (6, .ref qw), (7, .ref qh), (8, .ref qt)]) hx hb dL_law_131 hl (k := 0) rfl (nI_1 _) (by decide) rfl (fun ls hl => ?_)
              refine lv_goto (tgt := 108) hx hb dL_law_134 (by decide) ?_
              exact ih108 (u + 1) (zu2 Fx k u (tp n g me lo c e k u)) (by omega) (by omega) (fun i w h1 h2 => by rw [zu2_n (by omega)]; exact hi108_1 i w h1 h2) (fun w h => by by_cases h9 : w = u <;> first | (subst h9; exact zu2_s) | (rw [zu2_n (by omega)]; exact hi108_2 w (by omega))) _ (rfl) _ _ (hO82) (hQ83) (hF84) (hC85) (hW86) (hV87) (hT88) (by omega) hz hS _ (lv_sub hl [0, 1, 2, 3, 4, 5, 6, 7, 8, 9] rfl)
        exact loop108 _ 0 F (Nat.lt_succ_self _) (by omega) (hi98_1) (fun w h => absurd h (Nat.not_lt_zero _)) _ (rfl) _ _ hO3 hQ4 hF5 hC6 hW7 hV38 hT9 (hsz) hz hS _ (lv_sub hl [0, 1, 2, 3, 4, 5, 6, 7, 8, 9] rfl)
  exact loop98 _ 0 (fun _ _ => 0) (fun _ _ _ => 0) (fun _ => 0) (Nat.lt_succ_self _) (by omega) (fun i w h => absurd h (Nat.not_lt_zero _)) (fun i j w h => absurd h (Nat.not_lt_zero _)) (fun i h => absurd h (Nat.not_lt_zero _)) _ (rfl) _ _ hO hQ hF hC hW hV3 hT (hsz) hz hS _ (lv_sub hl [0, 1, 2, 3, 4, 5, 6, 7, 8] rfl)
set_option maxHeartbeats 8000000 in
set_option maxRecDepth 100000 in
/-- something is done; the arrays are made -/
theorem zlaw_B1 {pg : Program} {l : Launch} {ev : Env} {s : State} {m : MethodId} {args : Array Value} {below : List Frame} {meth : Method} {cd : Code} {Q : State → Prop} {D : va_G} {cI cR cA cT : ClassId} {b o b0 L : Nat} {xs : Nat → Int32} (hfix : CallFix pg m cd cL_law 25 s args wsL_law RL) (hK4 : va_K D vwCl [(cI, .int), (cR, .object zBC), (cA, .array .int), (cT, .array (.array .int))] s) (hKw : zKw s) (hX : va_X b0 L xs s s.heap) (hb0 : b0 < s.heap.size) (hb9 : b + 61 ≤ o) (hbs : s.heap.size ≤ b) (hL : L ≤ 260) (hov2 : (Cond.arrayOver (.array .int)).before args s = true) (hov3 : (Cond.arrayOver (.array (.array .int))).before args s = true) (hcl80 : (Cond.classLink RL 80 "[[[I").before args s = true) (ck : Nat) (sk : Nat) (hck : ck ≤ 830515) (hsk : sk ≤ 6609922) (tm : Nat) (htm : tm < 40) (n : Nat) (cl : Nat) (sl : Nat) (hn0 : 0 < n) (hcl : cl + 118 ≤ ck) (hsl : sl + 410 ≤ sk) (H : Heap) (lo0 : List Loc) (hS : va_S (fun q => b ≤ q) s.heap H lo0) (hLs : zLs D cI cR b o n H)  (kk : ∀ (n1 : Nat) (H1 : Heap) (lo1 : List Loc) (ls1 : Array Slot), 0 < n1 → zLs D cI cR b o n1 H1 → va_S (fun q => b ≤ q) s.heap H1 lo1 → lv_has ls1 25 [(3, .int (nI tm)), (0, .ref b0), (1, .ref b), (2, .ref o)] → W pg l ev room_1 s m args below meth cd H1 lo1 ck sk Q (F0 m 1177 ls1 [])) (ls : Array Slot) (hl : lv_has ls 25 [(3, .int (nI tm)), (0, .ref b0), (1, .ref b), (2, .ref o)]) : W pg l ev room_1 s m args below meth cd H lo0 (cl) (sl) Q (F0 m 28 ls []) := by
  obtain ⟨hx, hb, hml, hown, hts⟩ := id hfix
  have hK : va_K D vwCl [(cI, .int), (cR, .object zBC)] s := hK4.sub [0, 1] rfl
  have hK1 : va_K D vwCl [(cI, .int)] s := hK4.sub [0] rfl
  have hz : H.size ≤ H.size := Nat.le_refl _
  have hwd3 := hts _ (List.mem_of_getElem? (i := 3) rfl)
  have hwd4 := hts _ (List.mem_of_getElem? (i := 4) rfl)
  have hfI : s.vm.findClass "[I" = some cI := va_nm_int (hK4.2 0 _ rfl).2
  have hfA : s.vm.findClass "[[I" = some cA := by rw [← z_nmR]; exact (hK4.2 2 _ rfl).2
  have hfT : s.vm.findClass "[[[I" = some cT := by rw [← z_nmT]; exact (hK4.2 3 _ rfl).2
  obtain ⟨ar, B, E, me, lo, c, e, rd, tk, g, hSm, hC, hI, hZ, hV, hN⟩ := id hLs
  obtain ⟨t, hsz⟩ : ∃ q, q = H.size := ⟨_, rfl⟩
  have hsz : H.size = t := hsz.symm
  rw [hsz] at hSm
  obtain ⟨hO, hQ, hF, hsp⟩ := id hSm
  obtain ⟨⟨ho1, ho2, ho3⟩, -, -⟩ := id hsp
  have hn := zI_n hI
  refine lv_aload_n hx hb dL_law_28 rfl (lv_at hl 1 rfl) ?_
  refine lv_iload_n hx hb dL_law_29 rfl (lv_at hl 0 rfl) ?_
  refine lv_bipush (v := 16) hx hb dL_law_30 (by decide) ?_
  refine lv_irem hx hb dL_law_32 (by decide) ?_
  refine z_toi (y := zrem (nI tm) 16) rfl ?_
  refine z_toi (y := nI (tm % 16)) (pk_rem (d := 16) (by omega) (by decide) (by decide)) ?_
  refine z_ki (va_runS (As := [.ref b0, .int (nI (tm % 16))]) (rest := []) hfix (zcL_cell l D cI cR H b0 L xs (tm % 16) hL (by omega)) (va_cwS 2 hts gL_law_L_cell rfl rfl rfl (by decide +kernel) ⟨Nat.le_of_ble_eq_true rfl, Nat.le_of_ble_eq_true rfl⟩) (z_spreS hX hb0 (by show ¬ b ≤ b0; omega) hS hKw hK) rfl rfl hl.1 rfl (lv_room (Nat.le_of_ble_eq_true rfl)) dL_law_33 ⟨by show cl + 0 ≤ 830515; omega, by show sl + 0 ≤ 6609922; omega⟩) ?_
  refine lv_iload_n hx hb dL_law_36 rfl (lv_at hl 0 rfl) ?_
  refine lv_bipush (v := 16) hx hb dL_law_37 (by decide) ?_
  refine lv_idiv hx hb dL_law_39 (by decide) ?_
  refine z_toi (y := nI (tm / 16)) (pk_div (d := 16) (by omega) (by decide) (by decide)) ?_
  refine lv_iconst (v := 3) hx hb dL_law_40 (by decide) ?_
  refine lv_imul hx hb dL_law_41 ?_
  refine z_toi (y := nI ((tm / 16) * 3)) (pk_mul (tm / 16) 3) ?_
  refine lv_ishr hx hb dL_law_42 ?_
  refine lv_bipush (v := 97) hx hb dL_law_43 (by decide) ?_
  refine lv_iload_n hx hb dL_law_45 rfl (lv_at hl 0 rfl) ?_
  refine lv_imul hx hb dL_law_46 ?_
  refine z_toi (y := nI (tm * 97)) ((pk_mul 97 tm).trans (congrArg nI (Nat.mul_comm _ _))) ?_
  refine lv_iadd hx hb dL_law_47 ?_
  refine lv_istore (lv' := [(4, .int (((zce L xs (tm % 16)) >>> ((nI ((tm / 16) * 3)) &&& 31)) + (nI (tm * 97)))), (3, .int (nI tm)), (0, .ref b0), (1, .ref b), (2, .ref o)]) hx hb dL_law_48 hl (by decide) rfl (fun ls hl => ?_)
  obtain ⟨xv, hxv⟩ : ∃ xv, (((zce L xs (tm % 16)) >>> ((nI ((tm / 16) * 3)) &&& 31)) + (nI (tm * 97))) = xv := ⟨_, rfl⟩
  have hl : lv_has ls 25 [(4, .int xv), (3, .int (nI tm)), (0, .ref b0), (1, .ref b), (2, .ref o)] := by rw [hxv] at hl; exact hl
  refine lv_aload_n hx hb dL_law_50 rfl (lv_at hl 3 rfl) ?_
  refine lv_aload_n hx hb dL_law_51 rfl (lv_at hl 4 rfl) ?_
  refine lv_iload hx hb dL_law_52 (lv_at hl 0 rfl) ?_
  refine z_mi (va_runS (As := [.ref b, .ref o, .int xv]) (rest := []) hfix (zcL_act l D cI cR H o t ar n B E me lo c e rd tk g b xv (⟨hO, hQ, hF, hsp⟩) hI hC hZ hV hb9 hN (by omega) hn0) (va_cwS 3 hts gL_law_L_act rfl rfl rfl (by decide +kernel) ⟨Nat.le_of_ble_eq_true rfl, Nat.le_of_ble_eq_true rfl⟩) (z_kpreS hKw hK) rfl rfl hl.1 rfl (lv_room (Nat.le_of_ble_eq_true rfl)) dL_law_54 ⟨by show cl + 6 ≤ 830515; omega, by show sl + 26 ≤ 6609922; omega⟩) hS (fun q _ h => h) (fun q h => h) (fun H1 lo2 hB hz1 hk1 hS => ?_)
  clear hn0
  obtain ⟨n, hn0, hL1⟩ := hB
  have hz : H.size ≤ H1.size := by omega
  obtain ⟨ar, B, E, me, lo, c, e, rd, tk, g, hSm, hC, hI, hZ, hV, hN⟩ := id hL1
  obtain ⟨t, hsz⟩ : ∃ q, q = H1.size := ⟨_, rfl⟩
  have hsz : H1.size = t := hsz.symm
  rw [hsz] at hSm
  obtain ⟨hO, hQ, hF, hsp⟩ := id hSm
  obtain ⟨⟨ho1, ho2, ho3⟩, -, -⟩ := id hsp
  have hn := zI_n hI
  refine lv_if_ne (tgt := 62) hx hb dL_law_57 (by decide) (fun c57 => ?_) (fun c57 => ?_)
  · have c57 := z_ne (a := 1) (b := 0) c57 (by omega) (by omega)
    refine lv_aload_n hx hb dL_law_62 rfl (lv_at hl 3 rfl) ?_
    refine lv_iconst (v := 1) hx hb dL_law_63 (by decide) ?_
    refine z_ki (va_runV (As := [.int 1]) (rest := []) hfix (zcX4_count_k l D cI H1 b n me lo c e rd tk g 1 hC hI (by omega)) (cwV 1 hts gL_law_X4_count rfl rfl rfl (by decide +kernel) ⟨Nat.le_of_ble_eq_true rfl, Nat.le_of_ble_eq_true rfl⟩) (z_preV hK hK1 hC.1 (ci := 4) (q0 := 0) rfl rfl rfl) rfl rfl hl.1 rfl (lv_room (Nat.le_of_ble_eq_true rfl)) dL_law_64 ⟨by show cl + 6 + 0 ≤ 830515; omega, by show sl + 26 + 0 ≤ 6609922; omega⟩) ?_
    refine z_toi (y := nI n) (rfl) ?_
    refine lv_istore (lv' := [(5, .int (nI n)), (4, .int xv), (3, .int (nI tm)), (0, .ref b0), (1, .ref b), (2, .ref o)]) hx hb dL_law_67 hl (by decide) rfl (fun ls hl => ?_)
    refine lv_iload hx hb dL_law_69 (lv_at hl 0 rfl) ?_
    refine lv_bipush (v := 7) hx hb dL_law_71 (by decide) ?_
    refine z_mna2 (D := D) (cI := cI) (cR := cA) (N := n) (K := 7) hx hb hown hwd3 hov2 hwd4 hfI hfA rfl rfl (by omega) (by decide) (by show cl + 6 + (1 + n) ≤ 830515; omega) (by show sl + 26 + (n + n * 7) ≤ 6609922; omega) dL_law_73 (h := t) hsz (fun H3 hMa4 hz1 hk1 => ?_)
    have hS := z_Sgrow hS (by omega) (fun q h => hk1 q (by omega))
    have hsz : H3.size = (t + 1 + n) := by omega
    have hz : H.size ≤ H3.size := by omega
    have hO5 := zOb_kept hO (fun q h1 h2 h3 => (fun q (h9 : q < H1.size) (_ : True) => hk1 q (by omega)) q h1 (trivial))
    have hQ6 := zQr_kept hQ (fun q h1 h2 h3 => (fun q (h9 : q < H1.size) (_ : True) => hk1 q (by omega)) q h1 (trivial))
    have hF7 := zFm_kept hsp hF (fun q h1 h2 h3 => (fun q (h9 : q < H1.size) (_ : True) => hk1 q (by omega)) q h1 (trivial))
    have hC8 := zCW_kept hC (fun q h1 h2 h3 => (fun q (h9 : q < H1.size) (_ : True) => hk1 q (by omega)) q h1 (trivial))
    refine lv_astore (lv' := [(6, .ref t), (5, .int (nI n)), (4, .int xv), (3, .int (nI tm)), (0, .ref b0), (1, .ref b), (2, .ref o)]) hx hb dL_law_77 hl (by decide) rfl (fun ls hl => ?_)
    refine lv_iload hx hb dL_law_79 (lv_at hl 1 rfl) ?_
    refine lv_iconst (v := 2) hx hb dL_law_81 (by decide) ?_
    refine lv_iconst (v := 3) hx hb dL_law_82 (by decide) ?_
    refine z_mna3 (D := D) (cI := cI) (cR := cA) (cT := cT) (N := n) hx hb hown hcl80 hov3 hov2 hwd4 hfI hfA hfT rfl (by omega) (by show cl + 6 + 1 + n + (1 + 3 * n) ≤ 830515; omega) (by show sl + 26 + n + n * 7 + (n + n * 8) ≤ 6609922; omega) dL_law_83 (h := (t + 1 + n)) hsz (fun H9 hMa10 hz1 hk1 => ?_)
    have hS := z_Sgrow hS (by omega) (fun q h => hk1 q (by omega))
    have hsz : H9.size = (t + 1 + n + 1 + 3 * n) := by omega
    have hz : H.size ≤ H9.size := by omega
    have hO11 := zOb_kept hO5 (fun q h1 h2 h3 => (fun q (h9 : q < H3.size) (_ : True) => hk1 q (by omega)) q h1 (trivial))
    have hQ12 := zQr_kept hQ6 (fun q h1 h2 h3 => (fun q (h9 : q < H3.size) (_ : True) => hk1 q (by omega)) q h1 (trivial))
    have hF13 := zFm_kept hsp hF7 (fun q h1 h2 h3 => (fun q (h9 : q < H3.size) (_ : True) => hk1 q (by omega)) q h1 (trivial))
    have hC14 := zCW_kept hC8 (fun q h1 h2 h3 => (fun q (h9 : q < H3.size) (_ : True) => hk1 q (by omega)) q h1 (trivial))
    have hMa15 := zW2_kept hMa4 (fun q h1 h2 h3 => (fun q (h9 : q < H3.size) (_ : True) => hk1 q (by omega)) q h1 (trivial))
    refine lv_astore (lv' := [(7, .ref (t + 1 + n)), (6, .ref t), (5, .int (nI n)), (4, .int xv), (3, .int (nI tm)), (0, .ref b0), (1, .ref b), (2, .ref o)]) hx hb dL_law_87 hl (by decide) rfl (fun ls hl => ?_)
    refine lv_iload hx hb dL_law_89 (lv_at hl 2 rfl) ?_
    refine z_newi hx hb hwd4 hK 0 rfl (N := n) rfl (by omega) (by show _ ≤ 830515; omega) (by show _ ≤ 6609922; omega) dL_law_91 (h := (t + 1 + n + 1 + 3 * n) + 0) hsz (fun H16 hAr17 hz1 hk1 => ?_)
    have hS := z_Sgrow hS (by omega) (fun q h => hk1 q (by omega))
    have hsz : H16.size = (t + 1 + n + 1 + 3 * n) + 1 := by omega
    have hz : H.size ≤ H16.size := by omega
    have hO18 := zOb_kept hO11 (fun q h1 h2 h3 => (fun q (h9 : q < H9.size) (_ : True) => hk1 q (by omega)) q h1 (trivial))
    have hQ19 := zQr_kept hQ12 (fun q h1 h2 h3 => (fun q (h9 : q < H9.size) (_ : True) => hk1 q (by omega)) q h1 (trivial))
    have hF20 := zFm_kept hsp hF13 (fun q h1 h2 h3 => (fun q (h9 : q < H9.size) (_ : True) => hk1 q (by omega)) q h1 (trivial))
    have hC21 := zCW_kept hC14 (fun q h1 h2 h3 => (fun q (h9 : q < H9.size) (_ : True) => hk1 q (by omega)) q h1 (trivial))
    have hMa22 := zW2_kept hMa15 (fun q h1 h2 h3 => (fun q (h9 : q < H9.size) (_ : True) => hk1 q (by omega)) q h1 (trivial))
    have hMa23 := zW3_kept hMa10 (fun q h1 h2 h3 => (fun q (h9 : q < H9.size) (_ : True) => hk1 q (by omega)) q h1 (trivial))
    refine lv_astore (lv' := [(8, .ref (t + 1 + n + 1 + 3 * n)), (7, .ref (t + 1 + n)), (6, .ref t), (5, .int (nI n)), (4, .int xv), (3, .int (nI tm)), (0, .ref b0), (1, .ref b), (2, .ref o)]) hx hb dL_law_93 hl (by decide) rfl (fun ls hl => ?_)
    refine W.widen (k := cl + 57) (n := sl + 242) (by omega) (by omega) ?_
    have hl : lv_has ls 25 [(3, .int (nI tm)), (0, .ref b0), (1, .ref b), (2, .ref o), (5, .int (nI n)), (6, .ref t), (7, .ref (t + 1 + n)), (8, .ref (t + 1 + n + 1 + 3 * n))] := lv_sub hl [5, 6, 7, 8, 3, 2, 1, 0] rfl
    exact zlaw_B2 hfix hK4 hKw hX hb0 hb9 hbs hL hov2 hov3 hcl80 ck sk hck hsk tm htm n me lo c e rd tk g (t + 1 + n + 1 + 3 * n + 1) ar B E t (t + 1 + n) (t + 1 + n + 1 + 3 * n) (cl + 57) (sl + 242) hI hZ hV hN hn0 hsp (by omega) (by omega) ho3 (Nat.le_refl _) (by omega) (by omega) H16 lo2 hS hO18 hQ19 hF20 hC21 hMa22 hMa23 hAr17 hsz kk _ hl
  · exact absurd c57 (by decide)
set_option maxHeartbeats 8000000 in
set_option maxRecDepth 100000 in
/-- forty times; and the last look -/
theorem zlaw_M {pg : Program} {l : Launch} {ev : Env} {s : State} {m : MethodId} {args : Array Value} {below : List Frame} {meth : Method} {cd : Code} {Q : State → Prop} {D : va_G} {cI cR cA cT : ClassId} {b o b0 L : Nat} {xs : Nat → Int32} (hfix : CallFix pg m cd cL_law 25 s args wsL_law RL) (hK4 : va_K D vwCl [(cI, .int), (cR, .object zBC), (cA, .array .int), (cT, .array (.array .int))] s) (hKw : zKw s) (hX : va_X b0 L xs s s.heap) (hb0 : b0 < s.heap.size) (hb9 : b + 61 ≤ o) (hbs : s.heap.size ≤ b) (hL : L ≤ 260) (hov2 : (Cond.arrayOver (.array .int)).before args s = true) (hov3 : (Cond.arrayOver (.array (.array .int))).before args s = true) (hcl80 : (Cond.classLink RL 80 "[[[I").before args s = true) (c0 : Nat) (s0 : Nat) (hc0 : c0 + 4800 ≤ 830515) (hs0 : s0 + 16600 ≤ 6609922) (H : Heap) (lo0 : List Loc) (hS : va_S (fun q => b ≤ q) s.heap H lo0) (hLs0 : ∃ n1, 0 < n1 ∧ zLs D cI cR b o n1 H)  (kend : ∀ (H1 : Heap) (ls1 : Array Slot), W pg l ev room_1 s m args below meth cd H1 [] 830515 6609922 Q (F0 m 1188 ls1 [.int 1])) (ls : Array Slot) (hl : lv_has ls 25 [(0, .ref b0), (1, .ref b), (2, .ref o)]) : W pg l ev room_1 s m args below meth cd H lo0 (c0) (s0) Q (F0 m 20 ls []) := by
  obtain ⟨hx, hb, hml, hown, hts⟩ := id hfix
  have hK : va_K D vwCl [(cI, .int), (cR, .object zBC)] s := hK4.sub [0, 1] rfl
  have hK1 : va_K D vwCl [(cI, .int)] s := hK4.sub [0] rfl
  have hz : H.size ≤ H.size := Nat.le_refl _
  refine lv_iconst (v := 0) hx hb dL_law_20 (by decide) ?_
  refine lv_istore_n (lv' := [(3, .int 0), (0, .ref b0), (1, .ref b), (2, .ref o)]) hx hb dL_law_21 rfl hl (by decide) rfl (fun ls hl => ?_)
  have loop22 : ∀ (fu : Nat) (tm : Nat), 40 - tm < fu → (tm ≤ 40) → ∀ (x3 : Int32), x3 = (nI tm) → ∀ (H1 : Heap) (lo2 : List Loc), (∃ n1, 0 < n1 ∧ zLs D cI cR b o n1 H1) → va_S (fun q => b ≤ q) s.heap H1 lo2 → ∀ ls : Array Slot, lv_has ls 25 [(3, .int x3), (0, .ref b0), (1, .ref b), (2, .ref o)] → W pg l ev room_1 s m args below meth cd H1 lo2 (c0 + 118 * tm) (s0 + 410 * tm) Q (F0 m 22 ls []) := by
    intro fu
    induction fu with
    | zero => intro tm hfu; exact absurd hfu (Nat.not_lt_zero _)
    | succ fu ih =>
      intro tm hfu hi22_0 x3 ex3 H1 lo2 hh22_0 hS ls hl
      subst ex3
      refine lv_iload_n hx hb dL_law_22 rfl (lv_at hl 0 rfl) ?_
      refine lv_bipush (v := 40) hx hb dL_law_23 (by decide) ?_
      refine lv_icmp_ge (tgt := 1183) hx hb dL_law_25 (by decide) (fun c25 => ?_) (fun c25 => ?_)
      · have c25 := z_le (a := 40) (b := tm) c25 (by omega) (by omega)
        obtain ⟨n, hn0, hLs⟩ := hh22_0
        obtain ⟨ar, B, E, me, lo, c, e, rd, tk, g, hSm, hC, hI, hZ, hV, hN⟩ := id hLs
        obtain ⟨t, hsz⟩ : ∃ q, q = H1.size := ⟨_, rfl⟩
        have hsz : H1.size = t := hsz.symm
        rw [hsz] at hSm
        obtain ⟨hO, hQ, hF, hsp⟩ := id hSm
        obtain ⟨⟨ho1, ho2, ho3⟩, -, -⟩ := id hsp
        have hn := zI_n hI
        refine lv_aload_n hx hb dL_law_1183 rfl (lv_at hl 3 rfl) ?_
        refine lv_aload_n hx hb dL_law_1184 rfl (lv_at hl 2 rfl) ?_
        refine z_mi (va_runV (As := [.ref b]) (rest := []) hfix (zcX6_isSame l D cI cR H1 o t ar n B E me lo c e rd tk g b (⟨hO, hQ, hF, hsp⟩) hI (by omega) hC hZ hV hb9) (cwV 1 hts gL_law_X6_isSame rfl rfl rfl (by decide +kernel) ⟨Nat.le_of_ble_eq_true rfl, Nat.le_of_ble_eq_true rfl⟩) (z_kpreV hKw hK hK hO (ci := 6) (q0 := 0) rfl rfl rfl) rfl rfl hl.1 rfl (lv_room (Nat.le_of_ble_eq_true rfl)) dL_law_1185 ⟨by show c0 + 118 * tm + 13 ≤ 830515; omega, by show s0 + 410 * tm + 90 ≤ 6609922; omega⟩) hS (fun q _ h => by have h8 : t ≤ q := h; show b ≤ q; omega) (fun q h => by have h8 : t ≤ q := h; show b ≤ q; omega) (fun H3 lo4 hB hz1 hk1 hS => ?_)
        refine va_forget (fun q h => Nat.le_trans hbs (hS.2.2 q h)) ?_
        refine W.widen (k := 830515) (n := 6609922) (by omega) (by omega) ?_
        exact kend _ ls
      · have c25 := z_nle (a := 40) (b := tm) c25 (by omega) (by omega)
        obtain ⟨n, hn0, hLs⟩ := hh22_0
        have hl : lv_has ls 25 [(3, .int (nI tm)), (0, .ref b0), (1, .ref b), (2, .ref o)] := lv_sub hl [0, 1, 2, 3] rfl
        refine zlaw_B1 hfix hK4 hKw hX hb0 hb9 hbs hL hov2 hov3 hcl80 (c0 + 118 * (tm + 1)) (s0 + 410 * (tm + 1)) (by omega) (by omega) tm (by omega) n (c0 + 118 * tm) (s0 + 410 * tm) hn0 (by omega) (by omega) H1 lo2 hS hLs (fun n1 H8 lo8 ls hn1 hL8 hS hl => ?_) _ hl
        refine lv_iinc (v := (nI (tm + 1))) (lv' := [(3, .int (nI (tm + 1))), (0, .ref b0), (1, .ref b), (2, .ref o)]) hx hb dL_law_1177 hl (k := 0) rfl (nI_1 _) (by decide) rfl (fun ls hl => ?_)
        refine lv_goto (tgt := 22) hx hb dL_law_1180 (by decide) ?_
        exact ih (tm + 1) (by omega) (by omega) _ (rfl) _ _ (⟨n1, hn1, hL8⟩) hS _ (lv_sub hl [0, 1, 2, 3] rfl)
  refine W.widen (k := c0 + 118 * 0) (n := s0 + 410 * 0) (by omega) (by omega) ?_
  exact loop22 _ 0 (Nat.lt_succ_self _) (by omega) _ (rfl) _ _ (hLs0) hS _ (lv_sub hl [0, 1, 2, 3] rfl)
