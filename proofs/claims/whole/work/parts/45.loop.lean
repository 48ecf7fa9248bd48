theorem z_and31 (x : Int32) : ∃ j, j < 32 ∧ x &&& 31 = nI j := by
  refine ⟨(x &&& 31).toBitVec.toNat, ?_, ?_⟩
  · rw [Int32.toBitVec_and, BitVec.toNat_and]
    have h : x.toBitVec.toNat &&& (31 : Int32).toBitVec.toNat ≤ (31 : Int32).toBitVec.toNat := Nat.and_le_right
    have h2 : (31 : Int32).toBitVec.toNat = 31 := by decide
    omega
  · apply Int32.toBitVec_inj.mp
    show _ = BitVec.ofNat 32 (x &&& 31).toBitVec.toNat
    rw [BitVec.ofNat_toNat]
    simp
theorem z_big : ∀ j, j < 32 → 18 ≤ j → ((nI j).toInt < 0 ∨ 17 < (nI j).toInt) := by decide +kernel
theorem z_le4 {L i : Nat} (hL : L ≤ 2048) (hi : i ≤ 2048) : (nI L - 4 < nI i) ↔ L < i + 4 := by
  rw [Int32.lt_iff_toInt_lt, show (4 : Int32) = nI 4 from rfl, pk_sub_toInt (by omega) (by omega), nI_toInt (by omega)]
  omega
set_option maxHeartbeats 4000000 in
set_option maxRecDepth 100000 in
theorem zlaw_loop {pg : Program} {l : Launch} {ev : Env} {s : State} {m : MethodId} {below : List Frame} {meth : Method} {cd : Code} {D : va_G} {cI cL cR : ClassId} {b0 L : Nat} {xs : Nat → Int32} {Q : State → Prop} {b : Nat}  (hfix : CallFix pg m cd cL_law 9 s #[.ref b0] wsL_law RL) (hK : va_K D vwCl [(cI, .int), (cL, .long), (cR, .array .int)] s) (hKw : zKw s) (hE : zE s.heap.size s) (hlt : l.stackTraces = false) (hX0 : va_X b0 L xs s s.heap) (hb0 : b0 < s.heap.size) (hbs : s.heap.size ≤ b) (hL : L ≤ 2048) (kend : ∀ (H1 : Heap) (ls1 : Array Slot), W pg l ev room_1 s m #[Value.ref b0] below meth cd H1 [] 601024 7293033 Q (F0 m 1144 ls1 [.int 1])) : ∀ (fu k : Nat), L - 4 * k < fu → 4 * k ≤ L → ∀ (n : Nat) (me lo : Nat → Int32) (c e : Nat → Nat) (rd tk : Int32) (g : zG) (H : Heap) (ls : Array Slot), zLW D cI cL b n me lo c e rd tk g H → va_S (fun q => s.heap.size ≤ q) s.heap H [] → lv_has ls 9 [(4, .int (nI (4 * k))), (3, .ref (b + 66)), (2, .ref (b + 61)), (1, .ref b), (0, .ref b0)] → W pg l ev room_1 s m #[Value.ref b0] below meth cd H [] (67 + 16 * k) (700 + 214 * k) Q (F0 m 23 ls []) := by
  intro fu
  induction fu with
  | zero => intro k hfu; exact absurd hfu (Nat.not_lt_zero _)
  | succ fu ih =>
    intro k hfu hk n me lo c e rd tk g H ls hW hS hl
    obtain ⟨hC, ⟨f, hO⟩, ⟨tn, bf, hM⟩, hI, hZ⟩ := hW
    obtain ⟨hx, hb, hml, hown, hts⟩ := id hfix
    have hbA : ¬ (fun q : Nat => s.heap.size ≤ q) b0 := Nat.not_le.mpr hb0
    have hKi : va_K D vwCl [(cI, .int)] s := hK.sub [0] rfl
    have hKl : va_K D vwCl [(cI, .int), (cL, .long)] s := hK.sub [0, 1] rfl
    have hKq : va_K D vwCl [(cI, .int), (cR, .array .int)] s := hK.sub [0, 2] rfl
    have hsz := hS.1
    refine lv_iload hx hb dL_law_23 (lv_at hl 0 rfl) ?_
    refine lv_aload_n hx hb dL_law_25 rfl (lv_at hl 4 rfl) ?_
    refine va_slen hx hb hX0 hb0 hbA hS dL_law_26 ?_
    refine z_toi (y := nI L) rfl ?_
    refine lv_iconst (v := 4) hx hb dL_law_27 (by decide) ?_
    refine lv_isub hx hb dL_law_28 ?_
    refine lv_icmp_gt (tgt := 1143) hx hb dL_law_29 (by decide) (fun c29 => ?_) (fun c29 => ?_)
    · refine lv_iconst (v := 1) hx hb dL_law_1143 (by decide) ?_
      refine W.widen (k := 601024) (n := 7293033) (by omega) (by omega) ?_
      exact kend H ls
    · have hi : 4 * k + 4 ≤ L := by
        have h9 : ¬ L < 4 * k + 4 := fun h => c29 ((z_le4 hL (by omega)).mpr h)
        omega
      have kk : zLK pg l ev s m below meth cd D cI cL b0 Q b (4 * k) (67 + 16 * k) (700 + 214 * k) := by
        intro n1 me1 lo1 c1 e1 rd1 tk1 g1 H1 ls1 hW1 hS1 hl1
        refine lv_iinc (v := nI (4 * (k + 1))) (lv' := [(4, .int (nI (4 * (k + 1)))), (3, .ref (b + 66)), (2, .ref (b + 61)), (1, .ref b), (0, .ref b0)]) hx hb dL_law_1137 hl1 (k := 0) rfl (nI_add (4 * k) 4) (by decide) rfl (fun ls hl => ?_)
        refine lv_goto (tgt := 23) hx hb dL_law_1140 (by decide) ?_
        refine W.widen (k := 67 + 16 * (k + 1)) (n := 700 + 214 * (k + 1)) (by omega) (by omega) ?_
        exact ih (k + 1) (by omega) (by omega) n1 me1 lo1 c1 e1 rd1 tk1 g1 H1 ls hW1 hS1 (lv_sub hl [0, 1, 2, 3, 4] rfl)
      refine lv_aload_n hx hb dL_law_32 rfl (lv_at hl 4 rfl) ?_
      refine lv_iload hx hb dL_law_33 (lv_at hl 0 rfl) ?_
      refine va_sld hx hb hX0 hb0 hbA hS (vp_in_nI (by omega) (by omega)) dL_law_35 ?_
      refine lv_bipush (v := 31) hx hb dL_law_36 (by decide) ?_
      refine lv_iand hx hb dL_law_38 ?_
      obtain ⟨j, hj, ej⟩ := z_and31 (xs (nI (4 * k)).toNatClampNeg)
      refine z_toi (y := nI j) ej ?_
      by_cases h18 : 18 ≤ j
      · refine lv_tableOut (x := nI j) (tgt := 1137) hx hb dL_law_39 (z_big j hj h18) (by decide) ?_
        refine W.widen (k := 67 + 16 * k + 16) (n := 700 + 214 * k + 214) (by omega) (by omega) ?_
        exact kk n me lo c e rd tk g H ls ⟨hC, ⟨f, hO⟩, ⟨tn, bf, hM⟩, hI, hZ⟩ hS hl
      · rcases (show j = 0 ∨ j = 1 ∨ j = 2 ∨ j = 3 ∨ j = 4 ∨ j = 5 ∨ j = 6 ∨ j = 7 ∨ j = 8 ∨ j = 9 ∨ j = 10 ∨ j = 11 ∨ j = 12 ∨ j = 13 ∨ j = 14 ∨ j = 15 ∨ j = 16 ∨ j = 17 by omega) with rfl | rfl | rfl | rfl | rfl | rfl | rfl | rfl | rfl | rfl | rfl | rfl | rfl | rfl | rfl | rfl | rfl | rfl
        · refine lv_tableIn (x := nI 0) (off := 85) (tgt := 124) hx hb dL_law_39 (by decide) (by decide) (by rfl) (by decide) ?_
          exact zlc_come hfix hK hKw hE hlt hX0 hb0 hbs hC hM hO hI hZ hS hi hL (by omega) (by omega) hl kk
        · refine lv_tableIn (x := nI 1) (off := 153) (tgt := 192) hx hb dL_law_39 (by decide) (by decide) (by rfl) (by decide) ?_
          exact zlc_listen hfix hK hKw hE hlt hX0 hb0 hbs hC hM hO hI hZ hS hi hL (by omega) (by omega) hl kk
        · refine lv_tableIn (x := nI 2) (off := 221) (tgt := 260) hx hb dL_law_39 (by decide) (by decide) (by rfl) (by decide) ?_
          exact zlc_raise hfix hK hKw hE hlt hX0 hb0 hbs hC hM hO hI hZ hS hi hL (by omega) (by omega) hl kk
        · refine lv_tableIn (x := nI 3) (off := 289) (tgt := 328) hx hb dL_law_39 (by decide) (by decide) (by rfl) (by decide) ?_
          exact zlc_whisper hfix hK hKw hE hlt hX0 hb0 hbs hC hM hO hI hZ hS hi hL (by omega) (by omega) hl kk
        · refine lv_tableIn (x := nI 4) (off := 369) (tgt := 408) hx hb dL_law_39 (by decide) (by decide) (by rfl) (by decide) ?_
          exact zlc_parrot hfix hK hKw hE hlt hX0 hb0 hbs hC hM hO hI hZ hS hi hL (by omega) (by omega) hl kk
        · refine lv_tableIn (x := nI 5) (off := 437) (tgt := 476) hx hb dL_law_39 (by decide) (by decide) (by rfl) (by decide) ?_
          exact zlc_half hfix hK hKw hE hlt hX0 hb0 hbs hC hM hO hI hZ hS hi hL (by omega) (by omega) hl kk
        · refine lv_tableIn (x := nI 6) (off := 533) (tgt := 572) hx hb dL_law_39 (by decide) (by decide) (by rfl) (by decide) ?_
          exact zlc_hears hfix hK hKw hE hlt hX0 hb0 hbs hC hM hO hI hZ hS hi hL (by omega) (by omega) hl kk
        · refine lv_tableIn (x := nI 7) (off := 601) (tgt := 640) hx hb dL_law_39 (by decide) (by decide) (by rfl) (by decide) ?_
          exact zlc_votes hfix hK hKw hE hlt hX0 hb0 hbs hC hM hO hI hZ hS hi hL (by omega) (by omega) hl kk
        · refine lv_tableIn (x := nI 8) (off := 657) (tgt := 696) hx hb dL_law_39 (by decide) (by decide) (by rfl) (by decide) ?_
          exact zlc_verdict hfix hK hKw hE hlt hX0 hb0 hbs hC hM hO hI hZ hS hi hL (by omega) (by omega) hl kk
        · refine lv_tableIn (x := nI 9) (off := 670) (tgt := 709) hx hb dL_law_39 (by decide) (by decide) (by rfl) (by decide) ?_
          exact zlc_left hfix hK hKw hE hlt hX0 hb0 hbs hC hM hO hI hZ hS hi hL (by omega) (by omega) hl kk
        · refine lv_tableIn (x := nI 10) (off := 726) (tgt := 765) hx hb dL_law_39 (by decide) (by decide) (by rfl) (by decide) ?_
          exact zlc_count hfix hK hKw hE hlt hX0 hb0 hbs hC hM hO hI hZ hS hi hL (by omega) (by omega) hl kk
        · refine lv_tableIn (x := nI 11) (off := 782) (tgt := 821) hx hb dL_law_39 (by decide) (by decide) (by rfl) (by decide) ?_
          exact zlc_pass hfix hK hKw hE hlt hX0 hb0 hbs hC hM hO hI hZ hS hi hL (by omega) (by omega) hl kk
        · refine lv_tableIn (x := nI 12) (off := 838) (tgt := 877) hx hb dL_law_39 (by decide) (by decide) (by rfl) (by decide) ?_
          exact zlc_agrees hfix hK hKw hE hlt hX0 hb0 hbs hC hM hO hI hZ hS hi hL (by omega) (by omega) hl kk
        · refine lv_tableIn (x := nI 13) (off := 851) (tgt := 890) hx hb dL_law_39 (by decide) (by decide) (by rfl) (by decide) ?_
          exact zlc_foresee hfix hK hKw hE hlt hX0 hb0 hbs hC hM hO hI hZ hS hi hL (by omega) (by omega) hl kk
        · refine lv_tableIn (x := nI 14) (off := 919) (tgt := 958) hx hb dL_law_39 (by decide) (by decide) (by rfl) (by decide) ?_
          exact zlc_advise hfix hK hKw hE hlt hX0 hb0 hbs hC hM hO hI hZ hS hi hL (by omega) (by omega) hl kk
        · refine lv_tableIn (x := nI 15) (off := 987) (tgt := 1026) hx hb dL_law_39 (by decide) (by decide) (by rfl) (by decide) ?_
          exact zlc_source hfix hK hKw hE hlt hX0 hb0 hbs hC hM hO hI hZ hS hi hL (by omega) (by omega) hl kk
        · refine lv_tableIn (x := nI 16) (off := 1043) (tgt := 1082) hx hb dL_law_39 (by decide) (by decide) (by rfl) (by decide) ?_
          exact zlc_mean hfix hK hKw hE hlt hX0 hb0 hbs hC hM hO hI hZ hS hi hL (by omega) (by omega) hl kk
        · refine lv_tableIn (x := nI 17) (off := 1084) (tgt := 1123) hx hb dL_law_39 (by decide) (by decide) (by rfl) (by decide) ?_
          exact zlc_digest hfix hK hKw hE hlt hX0 hb0 hbs hC hM hO hI hZ hS hi hL (by omega) (by omega) hl kk
