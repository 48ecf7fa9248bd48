set_option maxHeartbeats 4000000 in
set_option maxRecDepth 100000 in
/-- zlv_come_ok -/
theorem zlv_come_ok {pg : Program} {l : Launch} {ev : Env} {s : State} {m : MethodId} {below : List Frame} {meth : Method} {cd : Code} {D : va_G} {cI cL cR : ClassId} {b0 L : Nat} {xs : Nat → Int32} {Q : State → Prop} {H : Heap} {b n : Nat} {me lo : Nat → Int32} {c e : Nat → Nat} {rd tk tn : Int32} {g : zG} {bf : Nat → Int32} {f : Nat → Int64} {i cells slots : Nat} {ls : Array Slot} (hfix : CallFix pg m cd cL_law 9 s #[.ref b0] wsL_law RL) (hK : va_K D vwCl [(cI, .int), (cL, .long), (cR, .array .int)] s) (hKw : zKw s) (hE : zE s.heap.size s) (hlt : l.stackTraces = false) (hX0 : va_X b0 L xs s s.heap) (hb0 : b0 < s.heap.size) (hbs : s.heap.size ≤ b) (hC : zCW D cI b n me lo c e rd tk g H) (hM : va_P D vwCl (zMo cI (b + 61) tn n (jf g me lo c) bf (zn e) (nm rd tk)) H) (hO : va_P D vwCl [(b + 66, .inl (cL, 1, .inr (.inl f)))] H) (hI : zI n me lo c e) (hZ : zJ n g) (hS : va_S (fun q => s.heap.size ≤ q) s.heap H []) (hi : i + 4 ≤ L) (hL : L ≤ 2048) (hcell : cells + 16 ≤ 601024) (hslot : slots + 214 ≤ 7293033) (hl : lv_has ls 9 [(4, .int (nI i)), (3, .ref (b + 66)), (2, .ref (b + 61)), (1, .ref b), (0, .ref b0)]) (kk : zLK pg l ev s m below meth cd D cI cL b0 Q b i cells slots) (m9 : Nat) (x : Nat) (hm1 : 1 ≤ m9) (hm2 : m9 ≤ 9) (hx1 : 1 ≤ x) (hx2 : x ≤ 5) (hn12 : n < 12) (h1 : xs (i + 1) = (nI m9)) (h2 : xs (i + 2) = (nI x)) : W pg l ev room_1 s m #[Value.ref b0] below meth cd H [] cells slots Q (F0 m 124 ls []) := by
  obtain ⟨hx, hb, hml, hown, hts⟩ := id hfix
  have hbA : ¬ (fun q : Nat => s.heap.size ≤ q) b0 := Nat.not_le.mpr hb0
  have hKi : va_K D vwCl [(cI, .int)] s := hK.sub [0] rfl
  have hKl : va_K D vwCl [(cI, .int), (cL, .long)] s := hK.sub [0, 1] rfl
  have hKq : va_K D vwCl [(cI, .int), (cR, .array .int)] s := hK.sub [0, 2] rfl
  have hsz := hS.1
  refine lv_aload_n hx hb dL_law_124 rfl (lv_at hl 3 rfl) ?_
  refine lv_aload_n hx hb dL_law_125 rfl (lv_at hl 4 rfl) ?_
  refine lv_iload hx hb dL_law_126 (lv_at hl 0 rfl) ?_
  refine lv_iconst (v := 1) hx hb dL_law_128 (by decide) ?_
  refine lv_iadd hx hb dL_law_129 ?_
  refine z_toi (y := nI (i + 1)) (nI_add i 1) ?_
  refine va_sld hx hb hX0 hb0 hbA hS (vp_in_nI (by omega) (by omega)) dL_law_130 ?_
  refine z_toi (y := (nI m9)) (by rw [nI_clamp (by omega)]; exact h1) ?_
  refine lv_aload_n hx hb dL_law_131 rfl (lv_at hl 4 rfl) ?_
  refine lv_iload hx hb dL_law_132 (lv_at hl 0 rfl) ?_
  refine lv_iconst (v := 2) hx hb dL_law_134 (by decide) ?_
  refine lv_iadd hx hb dL_law_135 ?_
  refine z_toi (y := nI (i + 2)) (nI_add i 2) ?_
  refine va_sld hx hb hX0 hb0 hbA hS (vp_in_nI (by omega) (by omega)) dL_law_136 ?_
  refine z_toi (y := (nI x)) (by rw [nI_clamp (by omega)]; exact h2) ?_
  refine lv_aload_n hx hb dL_law_137 rfl (lv_at hl 1 rfl) ?_
  refine z_mi (vx_runSW (As := [.ref b, .int (nI m9), .int (nI x), .ref (b + 66)]) (rest := []) hfix (zcL_come_k l D cI cL H s.heap.size (b + 66) f b n me lo c e rd tk g m9 x hC hI hm1 hm2 hx1 hx2 hn12 hO (by omega)) (vx_cwSW 4 hts gL_law_L_come rfl rfl rfl (by decide +kernel) ⟨Nat.le_of_ble_eq_true rfl, Nat.le_of_ble_eq_true rfl⟩) (z_xpreS hE (fun q h1 h2 => hS.2.1 q h1 h2) hKl) rfl rfl hl.1 rfl (lv_room (Nat.le_of_ble_eq_true rfl)) dL_law_138 ⟨by show cells + 0 ≤ 601024; omega, by show slots + 0 ≤ 7293033; omega⟩) hS (fun z _ h => by have h9 : zF b (b + 61) z ∨ @Eq Nat z (b + 66) := h; have h8 := hS.1; show s.heap.size ≤ z; simp only [zF] at h9; omega) (fun z h => by have h9 : zF b (b + 61) z ∨ @Eq Nat z (b + 66) := h; have h8 := hS.1; show s.heap.size ≤ z; simp only [zF] at h9; omega) (fun H1 lo1 hB hz1 hk1 hS => ?_)
  refine va_forget (fun q h => hS.2.2 q h) ?_
  have hS : va_S (fun q => s.heap.size ≤ q) s.heap H1 [] := ⟨hS.1, hS.2.1, fun z h => absurd h List.not_mem_nil⟩
  have hM1 := zMo_kept hM (fun z h1 h2 h3 => hk1 z h1 (fun h4 => by have h9 : zF b (b + 61) z ∨ @Eq Nat z (b + 66) := h4; simp only [zF] at h9; omega))
  have hC1 := hB.1
  have hO1 := hB.2.1
  refine lv_istore (lv' := [(5, .int 0), (4, .int (nI i)), (3, .ref (b + 66)), (2, .ref (b + 61)), (1, .ref b), (0, .ref b0)]) hx hb dL_law_141 hl (by decide) rfl (fun ls hl => ?_)
  refine lv_aload_n hx hb dL_law_143 rfl (lv_at hl 3 rfl) ?_
  refine lv_aload_n hx hb dL_law_144 rfl (lv_at hl 5 rfl) ?_
  refine lv_iload hx hb dL_law_145 (lv_at hl 1 rfl) ?_
  refine lv_iconst (v := 1) hx hb dL_law_147 (by decide) ?_
  refine lv_iadd hx hb dL_law_148 ?_
  refine z_toi (y := nI (i + 1)) (nI_add i 1) ?_
  refine va_sld hx hb hX0 hb0 hbA hS (vp_in_nI (by omega) (by omega)) dL_law_149 ?_
  refine z_toi (y := (nI m9)) (by rw [nI_clamp (by omega)]; exact h1) ?_
  refine lv_aload_n hx hb dL_law_150 rfl (lv_at hl 5 rfl) ?_
  refine lv_iload hx hb dL_law_151 (lv_at hl 1 rfl) ?_
  refine lv_iconst (v := 2) hx hb dL_law_153 (by decide) ?_
  refine lv_iadd hx hb dL_law_154 ?_
  refine z_toi (y := nI (i + 2)) (nI_add i 2) ?_
  refine va_sld hx hb hX0 hb0 hbA hS (vp_in_nI (by omega) (by omega)) dL_law_155 ?_
  refine z_toi (y := (nI x)) (by rw [nI_clamp (by omega)]; exact h2) ?_
  refine z_mi (va_runV (As := [.int (nI m9), .int (nI x)]) (rest := []) hfix (zcX5_come_k l D cI H1 (b + 61) tn n g me lo c bf e rd tk m9 x hM1 hI hm1 hm2 hx1 hx2 hn12) (cwV 2 hts gL_law_X5_come rfl rfl rfl (by decide +kernel) ⟨Nat.le_of_ble_eq_true rfl, Nat.le_of_ble_eq_true rfl⟩) (z_preV hK hKi hM1 (ci := 5) (q0 := 0) rfl rfl rfl) rfl rfl hl.1 rfl (lv_room (Nat.le_of_ble_eq_true rfl)) dL_law_156 ⟨by show cells + 0 + 1 ≤ 601024; omega, by show slots + 0 + 10 ≤ 7293033; omega⟩) hS (fun z _ h => by have h9 : zF (b + 61) (b + 61 + 5) z ∨ H1.size ≤ z := h; have h8 := hS.1; show s.heap.size ≤ z; simp only [zF] at h9; omega) (fun z h => by have h9 : zF (b + 61) (b + 61 + 5) z ∨ H1.size ≤ z := h; have h8 := hS.1; show s.heap.size ≤ z; simp only [zF] at h9; omega) (fun H2 lo2 hB hz2 hk2 hS => ?_)
  refine va_forget (fun q h => hS.2.2 q h) ?_
  have hS : va_S (fun q => s.heap.size ≤ q) s.heap H2 [] := ⟨hS.1, hS.2.1, fun z h => absurd h List.not_mem_nil⟩
  obtain ⟨hM2, hB9⟩ := hB
  have hC2 := zCW_kept hC1 (fun z h1 h2 h3 => hk2 z h1 (fun h4 => by have h9 : zF (b + 61) (b + 61 + 5) z ∨ H1.size ≤ z := h4; simp only [zF] at h9; omega))
  have hO2 := zOb_kept hO1 (fun z h1 h2 h3 => hk2 z h1 (fun h4 => by have h9 : zF (b + 61) (b + 61 + 5) z ∨ H1.size ≤ z := h4; simp only [zF] at h9; omega))
  refine lv_istore (lv' := [(6, .int (nI n)), (5, .int 0), (4, .int (nI i)), (3, .ref (b + 66)), (2, .ref (b + 61)), (1, .ref b), (0, .ref b0)]) hx hb dL_law_159 hl (by decide) rfl (fun ls hl => ?_)
  refine lv_aload_n hx hb dL_law_161 rfl (lv_at hl 4 rfl) ?_
  refine z_ki (va_runV (As := []) (rest := []) hfix (zcX5_thrown l D cI H2 _ _ _ _ _ _ _ hM2) (cwV 0 hts gL_law_X5_thrown rfl rfl rfl (by decide +kernel) ⟨Nat.le_of_ble_eq_true rfl, Nat.le_of_ble_eq_true rfl⟩) (z_preV hK hKi hM2 (ci := 5) (q0 := 0) rfl rfl rfl) rfl rfl hl.1 rfl (lv_room (Nat.le_of_ble_eq_true rfl)) dL_law_162 ⟨by show cells + 0 + 1 + 0 ≤ 601024; omega, by show slots + 0 + 10 + 0 ≤ 7293033; omega⟩) ?_
  refine lv_iload hx hb dL_law_165 (lv_at hl 1 rfl) ?_
  refine lv_icmp_eq (tgt := 172) hx hb dL_law_167 (by decide) (fun c9 => ?_) (fun c9 => absurd rfl c9)
  refine lv_iload hx hb dL_law_172 (lv_at hl 1 rfl) ?_
  refine lv_if_ne (tgt := 189) hx hb dL_law_174 (by decide) (fun c9 => absurd rfl c9) (fun c9 => ?_)
  refine lv_aload_n hx hb dL_law_177 rfl (lv_at hl 3 rfl) ?_
  refine lv_iconst (v := 0) hx hb dL_law_178 (by decide) ?_
  refine va_lald hx hb hK hO2 0 1 rfl rfl (vp_in_nI (n := 0) (by decide) (by decide)) dL_law_179 ?_
  refine z_tol (y := ((nI n)).toInt64) (by rfl) ?_
  refine lv_iload hx hb dL_law_180 (lv_at hl 0 rfl) ?_
  refine lv_i2l (v := ((nI n)).toInt64) hx hb dL_law_182 rfl ?_
  refine W.lcmp hx hb dL_law_183 ?_
  refine z_toi (y := 0) ((lg_cmp_eq _ _).mpr rfl) ?_
  refine lv_if_eq (tgt := 189) hx hb dL_law_184 (by decide) (fun c9 => ?_) (fun c9 => absurd rfl c9)
  refine lv_goto (tgt := 1137) hx hb dL_law_189 (by decide) ?_
  refine W.widen (k := cells + 16) (n := slots + 214) (by omega) (by omega) ?_
  exact kk _ _ _ _ _ _ _ _ _ _ ⟨hC2, ⟨_, hO2⟩, ⟨_, _, hM2⟩, zI_come hI hn12 hm1 hm2 hx1 hx2, zJ_come hZ⟩ hS (lv_sub hl [2, 3, 4, 5, 6] rfl)
set_option maxHeartbeats 4000000 in
set_option maxRecDepth 100000 in
/-- zlv_come_b1 -/
theorem zlv_come_b1 {pg : Program} {l : Launch} {ev : Env} {s : State} {m : MethodId} {below : List Frame} {meth : Method} {cd : Code} {D : va_G} {cI cL cR : ClassId} {b0 L : Nat} {xs : Nat → Int32} {Q : State → Prop} {H : Heap} {b n : Nat} {me lo : Nat → Int32} {c e : Nat → Nat} {rd tk tn : Int32} {g : zG} {bf : Nat → Int32} {f : Nat → Int64} {i cells slots : Nat} {ls : Array Slot} (hfix : CallFix pg m cd cL_law 9 s #[.ref b0] wsL_law RL) (hK : va_K D vwCl [(cI, .int), (cL, .long), (cR, .array .int)] s) (hKw : zKw s) (hE : zE s.heap.size s) (hlt : l.stackTraces = false) (hX0 : va_X b0 L xs s s.heap) (hb0 : b0 < s.heap.size) (hbs : s.heap.size ≤ b) (hC : zCW D cI b n me lo c e rd tk g H) (hM : va_P D vwCl (zMo cI (b + 61) tn n (jf g me lo c) bf (zn e) (nm rd tk)) H) (hO : va_P D vwCl [(b + 66, .inl (cL, 1, .inr (.inl f)))] H) (hI : zI n me lo c e) (hZ : zJ n g) (hS : va_S (fun q => s.heap.size ≤ q) s.heap H []) (hi : i + 4 ≤ L) (hL : L ≤ 2048) (hcell : cells + 16 ≤ 601024) (hslot : slots + 214 ≤ 7293033) (hl : lv_has ls 9 [(4, .int (nI i)), (3, .ref (b + 66)), (2, .ref (b + 61)), (1, .ref b), (0, .ref b0)]) (kk : zLK pg l ev s m below meth cd D cI cL b0 Q b i cells slots) (x : Int32) (y : Int32) (hx9 : x < 1 ∨ ¬ x ≤ 9) (h1 : xs (i + 1) = x) (h2 : xs (i + 2) = y) : W pg l ev room_1 s m #[Value.ref b0] below meth cd H [] cells slots Q (F0 m 124 ls []) := by
  obtain ⟨hx, hb, hml, hown, hts⟩ := id hfix
  have hbA : ¬ (fun q : Nat => s.heap.size ≤ q) b0 := Nat.not_le.mpr hb0
  have hKi : va_K D vwCl [(cI, .int)] s := hK.sub [0] rfl
  have hKl : va_K D vwCl [(cI, .int), (cL, .long)] s := hK.sub [0, 1] rfl
  have hKq : va_K D vwCl [(cI, .int), (cR, .array .int)] s := hK.sub [0, 2] rfl
  have hsz := hS.1
  refine lv_aload_n hx hb dL_law_124 rfl (lv_at hl 3 rfl) ?_
  refine lv_aload_n hx hb dL_law_125 rfl (lv_at hl 4 rfl) ?_
  refine lv_iload hx hb dL_law_126 (lv_at hl 0 rfl) ?_
  refine lv_iconst (v := 1) hx hb dL_law_128 (by decide) ?_
  refine lv_iadd hx hb dL_law_129 ?_
  refine z_toi (y := nI (i + 1)) (nI_add i 1) ?_
  refine va_sld hx hb hX0 hb0 hbA hS (vp_in_nI (by omega) (by omega)) dL_law_130 ?_
  refine z_toi (y := x) (by rw [nI_clamp (by omega)]; exact h1) ?_
  refine lv_aload_n hx hb dL_law_131 rfl (lv_at hl 4 rfl) ?_
  refine lv_iload hx hb dL_law_132 (lv_at hl 0 rfl) ?_
  refine lv_iconst (v := 2) hx hb dL_law_134 (by decide) ?_
  refine lv_iadd hx hb dL_law_135 ?_
  refine z_toi (y := nI (i + 2)) (nI_add i 2) ?_
  refine va_sld hx hb hX0 hb0 hbA hS (vp_in_nI (by omega) (by omega)) dL_law_136 ?_
  refine z_toi (y := y) (by rw [nI_clamp (by omega)]; exact h2) ?_
  refine lv_aload_n hx hb dL_law_137 rfl (lv_at hl 1 rfl) ?_
  refine z_mi (vx_runSW (As := [.ref b, .int x, .int y, .ref (b + 66)]) (rest := []) hfix (zcL_come_b1 l D cI cL H s.heap.size (b + 66) hlt hS.1 b n me lo c e rd tk g x y hC hI hx9) (vx_cwSW 4 hts gL_law_L_come rfl rfl rfl (by decide +kernel) ⟨Nat.le_of_ble_eq_true rfl, Nat.le_of_ble_eq_true rfl⟩) (z_xpreS hE (fun q h1 h2 => hS.2.1 q h1 h2) hKl) rfl rfl hl.1 rfl (lv_room (Nat.le_of_ble_eq_true rfl)) dL_law_138 ⟨by show cells + 1 ≤ 601024; omega, by show slots + 6 ≤ 7293033; omega⟩) hS (fun z _ h => by have h9 : H.size ≤ z := h; have h8 := hS.1; show s.heap.size ≤ z; omega) (fun z h => by have h9 : H.size ≤ z := h; have h8 := hS.1; show s.heap.size ≤ z; omega) (fun H1 lo1 hB hz1 hk1 hS => ?_)
  refine va_forget (fun q h => hS.2.2 q h) ?_
  have hS : va_S (fun q => s.heap.size ≤ q) s.heap H1 [] := ⟨hS.1, hS.2.1, fun z h => absurd h List.not_mem_nil⟩
  have hM1 := zMo_kept hM (fun z h1 h2 h3 => hk1 z h1 (fun h4 => by have h9 : H.size ≤ z := h4; omega))
  have hC1 := zCW_kept hC (fun z h1 h2 h3 => hk1 z h1 (fun h4 => by have h9 : H.size ≤ z := h4; omega))
  have hO1 := zOb_kept hO (fun z h1 h2 h3 => hk1 z h1 (fun h4 => by have h9 : H.size ≤ z := h4; omega))
  refine lv_istore (lv' := [(5, .int 1), (4, .int (nI i)), (3, .ref (b + 66)), (2, .ref (b + 61)), (1, .ref b), (0, .ref b0)]) hx hb dL_law_141 hl (by decide) rfl (fun ls hl => ?_)
  refine lv_aload_n hx hb dL_law_143 rfl (lv_at hl 3 rfl) ?_
  refine lv_aload_n hx hb dL_law_144 rfl (lv_at hl 5 rfl) ?_
  refine lv_iload hx hb dL_law_145 (lv_at hl 1 rfl) ?_
  refine lv_iconst (v := 1) hx hb dL_law_147 (by decide) ?_
  refine lv_iadd hx hb dL_law_148 ?_
  refine z_toi (y := nI (i + 1)) (nI_add i 1) ?_
  refine va_sld hx hb hX0 hb0 hbA hS (vp_in_nI (by omega) (by omega)) dL_law_149 ?_
  refine z_toi (y := x) (by rw [nI_clamp (by omega)]; exact h1) ?_
  refine lv_aload_n hx hb dL_law_150 rfl (lv_at hl 5 rfl) ?_
  refine lv_iload hx hb dL_law_151 (lv_at hl 1 rfl) ?_
  refine lv_iconst (v := 2) hx hb dL_law_153 (by decide) ?_
  refine lv_iadd hx hb dL_law_154 ?_
  refine z_toi (y := nI (i + 2)) (nI_add i 2) ?_
  refine va_sld hx hb hX0 hb0 hbA hS (vp_in_nI (by omega) (by omega)) dL_law_155 ?_
  refine z_toi (y := y) (by rw [nI_clamp (by omega)]; exact h2) ?_
  refine z_mi (va_runV (As := [.int x, .int y]) (rest := []) hfix (zcX5_come_b1 l D cI H1 (b + 61) tn n g me lo c bf e rd tk x y hM1 hI hx9) (cwV 2 hts gL_law_X5_come rfl rfl rfl (by decide +kernel) ⟨Nat.le_of_ble_eq_true rfl, Nat.le_of_ble_eq_true rfl⟩) (z_preV hK hKi hM1 (ci := 5) (q0 := 0) rfl rfl rfl) rfl rfl hl.1 rfl (lv_room (Nat.le_of_ble_eq_true rfl)) dL_law_156 ⟨by show cells + 1 + 0 ≤ 601024; omega, by show slots + 6 + 0 ≤ 7293033; omega⟩) hS (fun z _ h => by have h9 : zF (b + 61) (b + 61 + 5) z := h; have h8 := hS.1; show s.heap.size ≤ z; simp only [zF] at h9; omega) (fun z h => by have h9 : zF (b + 61) (b + 61 + 5) z := h; have h8 := hS.1; show s.heap.size ≤ z; simp only [zF] at h9; omega) (fun H2 lo2 hB hz2 hk2 hS => ?_)
  refine va_forget (fun q h => hS.2.2 q h) ?_
  have hS : va_S (fun q => s.heap.size ≤ q) s.heap H2 [] := ⟨hS.1, hS.2.1, fun z h => absurd h List.not_mem_nil⟩
  obtain ⟨hM2, hB9⟩ := hB
  have hC2 := zCW_kept hC1 (fun z h1 h2 h3 => hk2 z h1 (fun h4 => by have h9 : zF (b + 61) (b + 61 + 5) z := h4; simp only [zF] at h9; omega))
  have hO2 := zOb_kept hO1 (fun z h1 h2 h3 => hk2 z h1 (fun h4 => by have h9 : zF (b + 61) (b + 61 + 5) z := h4; simp only [zF] at h9; omega))
  refine lv_istore (lv' := [(6, .int 0), (5, .int 1), (4, .int (nI i)), (3, .ref (b + 66)), (2, .ref (b + 61)), (1, .ref b), (0, .ref b0)]) hx hb dL_law_159 hl (by decide) rfl (fun ls hl => ?_)
  refine lv_aload_n hx hb dL_law_161 rfl (lv_at hl 4 rfl) ?_
  refine z_ki (va_runV (As := []) (rest := []) hfix (zcX5_thrown l D cI H2 _ _ _ _ _ _ _ hM2) (cwV 0 hts gL_law_X5_thrown rfl rfl rfl (by decide +kernel) ⟨Nat.le_of_ble_eq_true rfl, Nat.le_of_ble_eq_true rfl⟩) (z_preV hK hKi hM2 (ci := 5) (q0 := 0) rfl rfl rfl) rfl rfl hl.1 rfl (lv_room (Nat.le_of_ble_eq_true rfl)) dL_law_162 ⟨by show cells + 1 + 0 + 0 ≤ 601024; omega, by show slots + 6 + 0 + 0 ≤ 7293033; omega⟩) ?_
  refine lv_iload hx hb dL_law_165 (lv_at hl 1 rfl) ?_
  refine lv_icmp_eq (tgt := 172) hx hb dL_law_167 (by decide) (fun c9 => ?_) (fun c9 => absurd rfl c9)
  refine lv_iload hx hb dL_law_172 (lv_at hl 1 rfl) ?_
  refine lv_if_ne (tgt := 189) hx hb dL_law_174 (by decide) (fun c9 => ?_) (fun c9 => absurd c9 (by decide))
  refine lv_goto (tgt := 1137) hx hb dL_law_189 (by decide) ?_
  refine W.widen (k := cells + 16) (n := slots + 214) (by omega) (by omega) ?_
  exact kk _ _ _ _ _ _ _ _ _ _ ⟨hC2, ⟨_, hO2⟩, ⟨_, _, hM2⟩, hI, hZ⟩ hS (lv_sub hl [2, 3, 4, 5, 6] rfl)
set_option maxHeartbeats 4000000 in
set_option maxRecDepth 100000 in
/-- zlv_come_b2 -/
theorem zlv_come_b2 {pg : Program} {l : Launch} {ev : Env} {s : State} {m : MethodId} {below : List Frame} {meth : Method} {cd : Code} {D : va_G} {cI cL cR : ClassId} {b0 L : Nat} {xs : Nat → Int32} {Q : State → Prop} {H : Heap} {b n : Nat} {me lo : Nat → Int32} {c e : Nat → Nat} {rd tk tn : Int32} {g : zG} {bf : Nat → Int32} {f : Nat → Int64} {i cells slots : Nat} {ls : Array Slot} (hfix : CallFix pg m cd cL_law 9 s #[.ref b0] wsL_law RL) (hK : va_K D vwCl [(cI, .int), (cL, .long), (cR, .array .int)] s) (hKw : zKw s) (hE : zE s.heap.size s) (hlt : l.stackTraces = false) (hX0 : va_X b0 L xs s s.heap) (hb0 : b0 < s.heap.size) (hbs : s.heap.size ≤ b) (hC : zCW D cI b n me lo c e rd tk g H) (hM : va_P D vwCl (zMo cI (b + 61) tn n (jf g me lo c) bf (zn e) (nm rd tk)) H) (hO : va_P D vwCl [(b + 66, .inl (cL, 1, .inr (.inl f)))] H) (hI : zI n me lo c e) (hZ : zJ n g) (hS : va_S (fun q => s.heap.size ≤ q) s.heap H []) (hi : i + 4 ≤ L) (hL : L ≤ 2048) (hcell : cells + 16 ≤ 601024) (hslot : slots + 214 ≤ 7293033) (hl : lv_has ls 9 [(4, .int (nI i)), (3, .ref (b + 66)), (2, .ref (b + 61)), (1, .ref b), (0, .ref b0)]) (kk : zLK pg l ev s m below meth cd D cI cL b0 Q b i cells slots) (m9 : Nat) (y : Int32) (hm1 : 1 ≤ m9) (hm2 : m9 ≤ 9) (hx9 : y < 1 ∨ ¬ y ≤ 5) (h1 : xs (i + 1) = (nI m9)) (h2 : xs (i + 2) = y) : W pg l ev room_1 s m #[Value.ref b0] below meth cd H [] cells slots Q (F0 m 124 ls []) := by
  obtain ⟨hx, hb, hml, hown, hts⟩ := id hfix
  have hbA : ¬ (fun q : Nat => s.heap.size ≤ q) b0 := Nat.not_le.mpr hb0
  have hKi : va_K D vwCl [(cI, .int)] s := hK.sub [0] rfl
  have hKl : va_K D vwCl [(cI, .int), (cL, .long)] s := hK.sub [0, 1] rfl
  have hKq : va_K D vwCl [(cI, .int), (cR, .array .int)] s := hK.sub [0, 2] rfl
  have hsz := hS.1
  refine lv_aload_n hx hb dL_law_124 rfl (lv_at hl 3 rfl) ?_
  refine lv_aload_n hx hb dL_law_125 rfl (lv_at hl 4 rfl) ?_
  refine lv_iload hx hb dL_law_126 (lv_at hl 0 rfl) ?_
  refine lv_iconst (v := 1) hx hb dL_law_128 (by decide) ?_
  refine lv_iadd hx hb dL_law_129 ?_
  refine z_toi (y := nI (i + 1)) (nI_add i 1) ?_
  refine va_sld hx hb hX0 hb0 hbA hS (vp_in_nI (by omega) (by omega)) dL_law_130 ?_
  refine z_toi (y := (nI m9)) (by rw [nI_clamp (by omega)]; exact h1) ?_
  refine lv_aload_n hx hb dL_law_131 rfl (lv_at hl 4 rfl) ?_
  refine lv_iload hx hb dL_law_132 (lv_at hl 0 rfl) ?_
  refine lv_iconst (v := 2) hx hb dL_law_134 (by decide) ?_
  refine lv_iadd hx hb dL_law_135 ?_
  refine z_toi (y := nI (i + 2)) (nI_add i 2) ?_
  refine va_sld hx hb hX0 hb0 hbA hS (vp_in_nI (by omega) (by omega)) dL_law_136 ?_
  refine z_toi (y := y) (by rw [nI_clamp (by omega)]; exact h2) ?_
  refine lv_aload_n hx hb dL_law_137 rfl (lv_at hl 1 rfl) ?_
  refine z_mi (vx_runSW (As := [.ref b, .int (nI m9), .int y, .ref (b + 66)]) (rest := []) hfix (zcL_come_b2 l D cI cL H s.heap.size (b + 66) hlt hS.1 b n me lo c e rd tk g m9 y hC hI hm1 hm2 hx9) (vx_cwSW 4 hts gL_law_L_come rfl rfl rfl (by decide +kernel) ⟨Nat.le_of_ble_eq_true rfl, Nat.le_of_ble_eq_true rfl⟩) (z_xpreS hE (fun q h1 h2 => hS.2.1 q h1 h2) hKl) rfl rfl hl.1 rfl (lv_room (Nat.le_of_ble_eq_true rfl)) dL_law_138 ⟨by show cells + 1 ≤ 601024; omega, by show slots + 6 ≤ 7293033; omega⟩) hS (fun z _ h => by have h9 : H.size ≤ z := h; have h8 := hS.1; show s.heap.size ≤ z; omega) (fun z h => by have h9 : H.size ≤ z := h; have h8 := hS.1; show s.heap.size ≤ z; omega) (fun H1 lo1 hB hz1 hk1 hS => ?_)
  refine va_forget (fun q h => hS.2.2 q h) ?_
  have hS : va_S (fun q => s.heap.size ≤ q) s.heap H1 [] := ⟨hS.1, hS.2.1, fun z h => absurd h List.not_mem_nil⟩
  have hM1 := zMo_kept hM (fun z h1 h2 h3 => hk1 z h1 (fun h4 => by have h9 : H.size ≤ z := h4; omega))
  have hC1 := zCW_kept hC (fun z h1 h2 h3 => hk1 z h1 (fun h4 => by have h9 : H.size ≤ z := h4; omega))
  have hO1 := zOb_kept hO (fun z h1 h2 h3 => hk1 z h1 (fun h4 => by have h9 : H.size ≤ z := h4; omega))
  refine lv_istore (lv' := [(5, .int 1), (4, .int (nI i)), (3, .ref (b + 66)), (2, .ref (b + 61)), (1, .ref b), (0, .ref b0)]) hx hb dL_law_141 hl (by decide) rfl (fun ls hl => ?_)
  refine lv_aload_n hx hb dL_law_143 rfl (lv_at hl 3 rfl) ?_
  refine lv_aload_n hx hb dL_law_144 rfl (lv_at hl 5 rfl) ?_
  refine lv_iload hx hb dL_law_145 (lv_at hl 1 rfl) ?_
  refine lv_iconst (v := 1) hx hb dL_law_147 (by decide) ?_
  refine lv_iadd hx hb dL_law_148 ?_
  refine z_toi (y := nI (i + 1)) (nI_add i 1) ?_
  refine va_sld hx hb hX0 hb0 hbA hS (vp_in_nI (by omega) (by omega)) dL_law_149 ?_
  refine z_toi (y := (nI m9)) (by rw [nI_clamp (by omega)]; exact h1) ?_
  refine lv_aload_n hx hb dL_law_150 rfl (lv_at hl 5 rfl) ?_
  refine lv_iload hx hb dL_law_151 (lv_at hl 1 rfl) ?_
  refine lv_iconst (v := 2) hx hb dL_law_153 (by decide) ?_
  refine lv_iadd hx hb dL_law_154 ?_
  refine z_toi (y := nI (i + 2)) (nI_add i 2) ?_
  refine va_sld hx hb hX0 hb0 hbA hS (vp_in_nI (by omega) (by omega)) dL_law_155 ?_
  refine z_toi (y := y) (by rw [nI_clamp (by omega)]; exact h2) ?_
  refine z_mi (va_runV (As := [.int (nI m9), .int y]) (rest := []) hfix (zcX5_come_b2 l D cI H1 (b + 61) tn n g me lo c bf e rd tk m9 y hM1 hI hm1 hm2 hx9) (cwV 2 hts gL_law_X5_come rfl rfl rfl (by decide +kernel) ⟨Nat.le_of_ble_eq_true rfl, Nat.le_of_ble_eq_true rfl⟩) (z_preV hK hKi hM1 (ci := 5) (q0 := 0) rfl rfl rfl) rfl rfl hl.1 rfl (lv_room (Nat.le_of_ble_eq_true rfl)) dL_law_156 ⟨by show cells + 1 + 0 ≤ 601024; omega, by show slots + 6 + 0 ≤ 7293033; omega⟩) hS (fun z _ h => by have h9 : zF (b + 61) (b + 61 + 5) z := h; have h8 := hS.1; show s.heap.size ≤ z; simp only [zF] at h9; omega) (fun z h => by have h9 : zF (b + 61) (b + 61 + 5) z := h; have h8 := hS.1; show s.heap.size ≤ z; simp only [zF] at h9; omega) (fun H2 lo2 hB hz2 hk2 hS => ?_)
  refine va_forget (fun q h => hS.2.2 q h) ?_
  have hS : va_S (fun q => s.heap.size ≤ q) s.heap H2 [] := ⟨hS.1, hS.2.1, fun z h => absurd h List.not_mem_nil⟩
  obtain ⟨hM2, hB9⟩ := hB
  have hC2 := zCW_kept hC1 (fun z h1 h2 h3 => hk2 z h1 (fun h4 => by have h9 : zF (b + 61) (b + 61 + 5) z := h4; simp only [zF] at h9; omega))
  have hO2 := zOb_kept hO1 (fun z h1 h2 h3 => hk2 z h1 (fun h4 => by have h9 : zF (b + 61) (b + 61 + 5) z := h4; simp only [zF] at h9; omega))
  refine lv_istore (lv' := [(6, .int 0), (5, .int 1), (4, .int (nI i)), (3, .ref (b + 66)), (2, .ref (b + 61)), (1, .ref b), (0, .ref b0)]) hx hb dL_law_159 hl (by decide) rfl (fun ls hl => ?_)
  refine lv_aload_n hx hb dL_law_161 rfl (lv_at hl 4 rfl) ?_
  refine z_ki (va_runV (As := []) (rest := []) hfix (zcX5_thrown l D cI H2 _ _ _ _ _ _ _ hM2) (cwV 0 hts gL_law_X5_thrown rfl rfl rfl (by decide +kernel) ⟨Nat.le_of_ble_eq_true rfl, Nat.le_of_ble_eq_true rfl⟩) (z_preV hK hKi hM2 (ci := 5) (q0 := 0) rfl rfl rfl) rfl rfl hl.1 rfl (lv_room (Nat.le_of_ble_eq_true rfl)) dL_law_162 ⟨by show cells + 1 + 0 + 0 ≤ 601024; omega, by show slots + 6 + 0 + 0 ≤ 7293033; omega⟩) ?_
  refine lv_iload hx hb dL_law_165 (lv_at hl 1 rfl) ?_
  refine lv_icmp_eq (tgt := 172) hx hb dL_law_167 (by decide) (fun c9 => ?_) (fun c9 => absurd rfl c9)
  refine lv_iload hx hb dL_law_172 (lv_at hl 1 rfl) ?_
  refine lv_if_ne (tgt := 189) hx hb dL_law_174 (by decide) (fun c9 => ?_) (fun c9 => absurd c9 (by decide))
  refine lv_goto (tgt := 1137) hx hb dL_law_189 (by decide) ?_
  refine W.widen (k := cells + 16) (n := slots + 214) (by omega) (by omega) ?_
  exact kk _ _ _ _ _ _ _ _ _ _ ⟨hC2, ⟨_, hO2⟩, ⟨_, _, hM2⟩, hI, hZ⟩ hS (lv_sub hl [2, 3, 4, 5, 6] rfl)
set_option maxHeartbeats 4000000 in
set_option maxRecDepth 100000 in
/-- zlv_come_b3 -/
theorem zlv_come_b3 {pg : Program} {l : Launch} {ev : Env} {s : State} {m : MethodId} {below : List Frame} {meth : Method} {cd : Code} {D : va_G} {cI cL cR : ClassId} {b0 L : Nat} {xs : Nat → Int32} {Q : State → Prop} {H : Heap} {b n : Nat} {me lo : Nat → Int32} {c e : Nat → Nat} {rd tk tn : Int32} {g : zG} {bf : Nat → Int32} {f : Nat → Int64} {i cells slots : Nat} {ls : Array Slot} (hfix : CallFix pg m cd cL_law 9 s #[.ref b0] wsL_law RL) (hK : va_K D vwCl [(cI, .int), (cL, .long), (cR, .array .int)] s) (hKw : zKw s) (hE : zE s.heap.size s) (hlt : l.stackTraces = false) (hX0 : va_X b0 L xs s s.heap) (hb0 : b0 < s.heap.size) (hbs : s.heap.size ≤ b) (hC : zCW D cI b n me lo c e rd tk g H) (hM : va_P D vwCl (zMo cI (b + 61) tn n (jf g me lo c) bf (zn e) (nm rd tk)) H) (hO : va_P D vwCl [(b + 66, .inl (cL, 1, .inr (.inl f)))] H) (hI : zI n me lo c e) (hZ : zJ n g) (hS : va_S (fun q => s.heap.size ≤ q) s.heap H []) (hi : i + 4 ≤ L) (hL : L ≤ 2048) (hcell : cells + 16 ≤ 601024) (hslot : slots + 214 ≤ 7293033) (hl : lv_has ls 9 [(4, .int (nI i)), (3, .ref (b + 66)), (2, .ref (b + 61)), (1, .ref b), (0, .ref b0)]) (kk : zLK pg l ev s m below meth cd D cI cL b0 Q b i cells slots) (m9 : Nat) (x : Nat) (hm1 : 1 ≤ m9) (hm2 : m9 ≤ 9) (hx1 : 1 ≤ x) (hx2 : x ≤ 5) (hn12 : ¬ n < 12) (h1 : xs (i + 1) = (nI m9)) (h2 : xs (i + 2) = (nI x)) : W pg l ev room_1 s m #[Value.ref b0] below meth cd H [] cells slots Q (F0 m 124 ls []) := by
  obtain ⟨hx, hb, hml, hown, hts⟩ := id hfix
  have hbA : ¬ (fun q : Nat => s.heap.size ≤ q) b0 := Nat.not_le.mpr hb0
  have hKi : va_K D vwCl [(cI, .int)] s := hK.sub [0] rfl
  have hKl : va_K D vwCl [(cI, .int), (cL, .long)] s := hK.sub [0, 1] rfl
  have hKq : va_K D vwCl [(cI, .int), (cR, .array .int)] s := hK.sub [0, 2] rfl
  have hsz := hS.1
  refine lv_aload_n hx hb dL_law_124 rfl (lv_at hl 3 rfl) ?_
  refine lv_aload_n hx hb dL_law_125 rfl (lv_at hl 4 rfl) ?_
  refine lv_iload hx hb dL_law_126 (lv_at hl 0 rfl) ?_
  refine lv_iconst (v := 1) hx hb dL_law_128 (by decide) ?_
  refine lv_iadd hx hb dL_law_129 ?_
  refine z_toi (y := nI (i + 1)) (nI_add i 1) ?_
  refine va_sld hx hb hX0 hb0 hbA hS (vp_in_nI (by omega) (by omega)) dL_law_130 ?_
  refine z_toi (y := (nI m9)) (by rw [nI_clamp (by omega)]; exact h1) ?_
  refine lv_aload_n hx hb dL_law_131 rfl (lv_at hl 4 rfl) ?_
  refine lv_iload hx hb dL_law_132 (lv_at hl 0 rfl) ?_
  refine lv_iconst (v := 2) hx hb dL_law_134 (by decide) ?_
  refine lv_iadd hx hb dL_law_135 ?_
  refine z_toi (y := nI (i + 2)) (nI_add i 2) ?_
  refine va_sld hx hb hX0 hb0 hbA hS (vp_in_nI (by omega) (by omega)) dL_law_136 ?_
  refine z_toi (y := (nI x)) (by rw [nI_clamp (by omega)]; exact h2) ?_
  refine lv_aload_n hx hb dL_law_137 rfl (lv_at hl 1 rfl) ?_
  refine z_mi (vx_runSW (As := [.ref b, .int (nI m9), .int (nI x), .ref (b + 66)]) (rest := []) hfix (zcL_come_b3 l D cI cL H s.heap.size (b + 66) hlt hS.1 b n me lo c e rd tk g m9 x hC hI hm1 hm2 hx1 hx2 hn12) (vx_cwSW 4 hts gL_law_L_come rfl rfl rfl (by decide +kernel) ⟨Nat.le_of_ble_eq_true rfl, Nat.le_of_ble_eq_true rfl⟩) (z_xpreS hE (fun q h1 h2 => hS.2.1 q h1 h2) hKl) rfl rfl hl.1 rfl (lv_room (Nat.le_of_ble_eq_true rfl)) dL_law_138 ⟨by show cells + 1 ≤ 601024; omega, by show slots + 6 ≤ 7293033; omega⟩) hS (fun z _ h => by have h9 : H.size ≤ z := h; have h8 := hS.1; show s.heap.size ≤ z; omega) (fun z h => by have h9 : H.size ≤ z := h; have h8 := hS.1; show s.heap.size ≤ z; omega) (fun H1 lo1 hB hz1 hk1 hS => ?_)
  refine va_forget (fun q h => hS.2.2 q h) ?_
  have hS : va_S (fun q => s.heap.size ≤ q) s.heap H1 [] := ⟨hS.1, hS.2.1, fun z h => absurd h List.not_mem_nil⟩
  have hM1 := zMo_kept hM (fun z h1 h2 h3 => hk1 z h1 (fun h4 => by have h9 : H.size ≤ z := h4; omega))
  have hC1 := zCW_kept hC (fun z h1 h2 h3 => hk1 z h1 (fun h4 => by have h9 : H.size ≤ z := h4; omega))
  have hO1 := zOb_kept hO (fun z h1 h2 h3 => hk1 z h1 (fun h4 => by have h9 : H.size ≤ z := h4; omega))
  refine lv_istore (lv' := [(5, .int 2), (4, .int (nI i)), (3, .ref (b + 66)), (2, .ref (b + 61)), (1, .ref b), (0, .ref b0)]) hx hb dL_law_141 hl (by decide) rfl (fun ls hl => ?_)
  refine lv_aload_n hx hb dL_law_143 rfl (lv_at hl 3 rfl) ?_
  refine lv_aload_n hx hb dL_law_144 rfl (lv_at hl 5 rfl) ?_
  refine lv_iload hx hb dL_law_145 (lv_at hl 1 rfl) ?_
  refine lv_iconst (v := 1) hx hb dL_law_147 (by decide) ?_
  refine lv_iadd hx hb dL_law_148 ?_
  refine z_toi (y := nI (i + 1)) (nI_add i 1) ?_
  refine va_sld hx hb hX0 hb0 hbA hS (vp_in_nI (by omega) (by omega)) dL_law_149 ?_
  refine z_toi (y := (nI m9)) (by rw [nI_clamp (by omega)]; exact h1) ?_
  refine lv_aload_n hx hb dL_law_150 rfl (lv_at hl 5 rfl) ?_
  refine lv_iload hx hb dL_law_151 (lv_at hl 1 rfl) ?_
  refine lv_iconst (v := 2) hx hb dL_law_153 (by decide) ?_
  refine lv_iadd hx hb dL_law_154 ?_
  refine z_toi (y := nI (i + 2)) (nI_add i 2) ?_
  refine va_sld hx hb hX0 hb0 hbA hS (vp_in_nI (by omega) (by omega)) dL_law_155 ?_
  refine z_toi (y := (nI x)) (by rw [nI_clamp (by omega)]; exact h2) ?_
  refine z_mi (va_runV (As := [.int (nI m9), .int (nI x)]) (rest := []) hfix (zcX5_come_b3 l D cI H1 (b + 61) tn n g me lo c bf e rd tk m9 x hM1 hI hm1 hm2 hx1 hx2 hn12) (cwV 2 hts gL_law_X5_come rfl rfl rfl (by decide +kernel) ⟨Nat.le_of_ble_eq_true rfl, Nat.le_of_ble_eq_true rfl⟩) (z_preV hK hKi hM1 (ci := 5) (q0 := 0) rfl rfl rfl) rfl rfl hl.1 rfl (lv_room (Nat.le_of_ble_eq_true rfl)) dL_law_156 ⟨by show cells + 1 + 0 ≤ 601024; omega, by show slots + 6 + 0 ≤ 7293033; omega⟩) hS (fun z _ h => by have h9 : zF (b + 61) (b + 61 + 5) z := h; have h8 := hS.1; show s.heap.size ≤ z; simp only [zF] at h9; omega) (fun z h => by have h9 : zF (b + 61) (b + 61 + 5) z := h; have h8 := hS.1; show s.heap.size ≤ z; simp only [zF] at h9; omega) (fun H2 lo2 hB hz2 hk2 hS => ?_)
  refine va_forget (fun q h => hS.2.2 q h) ?_
  have hS : va_S (fun q => s.heap.size ≤ q) s.heap H2 [] := ⟨hS.1, hS.2.1, fun z h => absurd h List.not_mem_nil⟩
  obtain ⟨hM2, hB9⟩ := hB
  have hC2 := zCW_kept hC1 (fun z h1 h2 h3 => hk2 z h1 (fun h4 => by have h9 : zF (b + 61) (b + 61 + 5) z := h4; simp only [zF] at h9; omega))
  have hO2 := zOb_kept hO1 (fun z h1 h2 h3 => hk2 z h1 (fun h4 => by have h9 : zF (b + 61) (b + 61 + 5) z := h4; simp only [zF] at h9; omega))
  refine lv_istore (lv' := [(6, .int 0), (5, .int 2), (4, .int (nI i)), (3, .ref (b + 66)), (2, .ref (b + 61)), (1, .ref b), (0, .ref b0)]) hx hb dL_law_159 hl (by decide) rfl (fun ls hl => ?_)
  refine lv_aload_n hx hb dL_law_161 rfl (lv_at hl 4 rfl) ?_
  refine z_ki (va_runV (As := []) (rest := []) hfix (zcX5_thrown l D cI H2 _ _ _ _ _ _ _ hM2) (cwV 0 hts gL_law_X5_thrown rfl rfl rfl (by decide +kernel) ⟨Nat.le_of_ble_eq_true rfl, Nat.le_of_ble_eq_true rfl⟩) (z_preV hK hKi hM2 (ci := 5) (q0 := 0) rfl rfl rfl) rfl rfl hl.1 rfl (lv_room (Nat.le_of_ble_eq_true rfl)) dL_law_162 ⟨by show cells + 1 + 0 + 0 ≤ 601024; omega, by show slots + 6 + 0 + 0 ≤ 7293033; omega⟩) ?_
  refine lv_iload hx hb dL_law_165 (lv_at hl 1 rfl) ?_
  refine lv_icmp_eq (tgt := 172) hx hb dL_law_167 (by decide) (fun c9 => ?_) (fun c9 => absurd rfl c9)
  refine lv_iload hx hb dL_law_172 (lv_at hl 1 rfl) ?_
  refine lv_if_ne (tgt := 189) hx hb dL_law_174 (by decide) (fun c9 => ?_) (fun c9 => absurd c9 (by decide))
  refine lv_goto (tgt := 1137) hx hb dL_law_189 (by decide) ?_
  refine W.widen (k := cells + 16) (n := slots + 214) (by omega) (by omega) ?_
  exact kk _ _ _ _ _ _ _ _ _ _ ⟨hC2, ⟨_, hO2⟩, ⟨_, _, hM2⟩, hI, hZ⟩ hS (lv_sub hl [2, 3, 4, 5, 6] rfl)
set_option maxHeartbeats 4000000 in
set_option maxRecDepth 100000 in
/-- zlv_listen_add -/
theorem zlv_listen_add {pg : Program} {l : Launch} {ev : Env} {s : State} {m : MethodId} {below : List Frame} {meth : Method} {cd : Code} {D : va_G} {cI cL cR : ClassId} {b0 L : Nat} {xs : Nat → Int32} {Q : State → Prop} {H : Heap} {b n : Nat} {me lo : Nat → Int32} {c e : Nat → Nat} {rd tk tn : Int32} {g : zG} {bf : Nat → Int32} {f : Nat → Int64} {i cells slots : Nat} {ls : Array Slot} (hfix : CallFix pg m cd cL_law 9 s #[.ref b0] wsL_law RL) (hK : va_K D vwCl [(cI, .int), (cL, .long), (cR, .array .int)] s) (hKw : zKw s) (hE : zE s.heap.size s) (hlt : l.stackTraces = false) (hX0 : va_X b0 L xs s s.heap) (hb0 : b0 < s.heap.size) (hbs : s.heap.size ≤ b) (hC : zCW D cI b n me lo c e rd tk g H) (hM : va_P D vwCl (zMo cI (b + 61) tn n (jf g me lo c) bf (zn e) (nm rd tk)) H) (hO : va_P D vwCl [(b + 66, .inl (cL, 1, .inr (.inl f)))] H) (hI : zI n me lo c e) (hZ : zJ n g) (hS : va_S (fun q => s.heap.size ≤ q) s.heap H []) (hi : i + 4 ≤ L) (hL : L ≤ 2048) (hcell : cells + 16 ≤ 601024) (hslot : slots + 214 ≤ 7293033) (hl : lv_has ls 9 [(4, .int (nI i)), (3, .ref (b + 66)), (2, .ref (b + 61)), (1, .ref b), (0, .ref b0)]) (kk : zLK pg l ev s m below meth cd D cI cL b0 Q b i cells slots) (p : Nat) (o : Nat) (hp : p < n) (ho : o < n) (hpo9 : ¬ p = o) (hpn : po e p o (c p) = none) (hc9 : c p < 4) (h1 : xs (i + 1) = (nI p)) (h2 : xs (i + 2) = (nI o)) : W pg l ev room_1 s m #[Value.ref b0] below meth cd H [] cells slots Q (F0 m 192 ls []) := by
  obtain ⟨hx, hb, hml, hown, hts⟩ := id hfix
  have hbA : ¬ (fun q : Nat => s.heap.size ≤ q) b0 := Nat.not_le.mpr hb0
  have hKi : va_K D vwCl [(cI, .int)] s := hK.sub [0] rfl
  have hKl : va_K D vwCl [(cI, .int), (cL, .long)] s := hK.sub [0, 1] rfl
  have hKq : va_K D vwCl [(cI, .int), (cR, .array .int)] s := hK.sub [0, 2] rfl
  have hsz := hS.1
  refine lv_aload_n hx hb dL_law_192 rfl (lv_at hl 3 rfl) ?_
  refine lv_aload_n hx hb dL_law_193 rfl (lv_at hl 4 rfl) ?_
  refine lv_iload hx hb dL_law_194 (lv_at hl 0 rfl) ?_
  refine lv_iconst (v := 1) hx hb dL_law_196 (by decide) ?_
  refine lv_iadd hx hb dL_law_197 ?_
  refine z_toi (y := nI (i + 1)) (nI_add i 1) ?_
  refine va_sld hx hb hX0 hb0 hbA hS (vp_in_nI (by omega) (by omega)) dL_law_198 ?_
  refine z_toi (y := (nI p)) (by rw [nI_clamp (by omega)]; exact h1) ?_
  refine lv_aload_n hx hb dL_law_199 rfl (lv_at hl 4 rfl) ?_
  refine lv_iload hx hb dL_law_200 (lv_at hl 0 rfl) ?_
  refine lv_iconst (v := 2) hx hb dL_law_202 (by decide) ?_
  refine lv_iadd hx hb dL_law_203 ?_
  refine z_toi (y := nI (i + 2)) (nI_add i 2) ?_
  refine va_sld hx hb hX0 hb0 hbA hS (vp_in_nI (by omega) (by omega)) dL_law_204 ?_
  refine z_toi (y := (nI o)) (by rw [nI_clamp (by omega)]; exact h2) ?_
  refine lv_aload_n hx hb dL_law_205 rfl (lv_at hl 1 rfl) ?_
  refine z_mi (vx_runSW (As := [.ref b, .int (nI p), .int (nI o), .ref (b + 66)]) (rest := []) hfix (zcL_listen_ka l D cI cL H s.heap.size (b + 66) f b n me lo c e rd tk g p o hC hI hp ho hpo9 hpn hc9 hO (by omega)) (vx_cwSW 4 hts gL_law_L_listen rfl rfl rfl (by decide +kernel) ⟨Nat.le_of_ble_eq_true rfl, Nat.le_of_ble_eq_true rfl⟩) (z_xpreS hE (fun q h1 h2 => hS.2.1 q h1 h2) hKl) rfl rfl hl.1 rfl (lv_room (Nat.le_of_ble_eq_true rfl)) dL_law_206 ⟨by show cells + 0 ≤ 601024; omega, by show slots + 0 ≤ 7293033; omega⟩) hS (fun z _ h => by have h9 : zF b (b + 61) z ∨ @Eq Nat z (b + 66) := h; have h8 := hS.1; show s.heap.size ≤ z; simp only [zF] at h9; omega) (fun z h => by have h9 : zF b (b + 61) z ∨ @Eq Nat z (b + 66) := h; have h8 := hS.1; show s.heap.size ≤ z; simp only [zF] at h9; omega) (fun H1 lo1 hB hz1 hk1 hS => ?_)
  refine va_forget (fun q h => hS.2.2 q h) ?_
  have hS : va_S (fun q => s.heap.size ≤ q) s.heap H1 [] := ⟨hS.1, hS.2.1, fun z h => absurd h List.not_mem_nil⟩
  have hM1 := zMo_kept hM (fun z h1 h2 h3 => hk1 z h1 (fun h4 => by have h9 : zF b (b + 61) z ∨ @Eq Nat z (b + 66) := h4; simp only [zF] at h9; omega))
  have hC1 := hB.1
  have hO1 := hB.2.1
  refine lv_istore (lv' := [(5, .int 0), (4, .int (nI i)), (3, .ref (b + 66)), (2, .ref (b + 61)), (1, .ref b), (0, .ref b0)]) hx hb dL_law_209 hl (by decide) rfl (fun ls hl => ?_)
  refine lv_aload_n hx hb dL_law_211 rfl (lv_at hl 3 rfl) ?_
  refine lv_aload_n hx hb dL_law_212 rfl (lv_at hl 5 rfl) ?_
  refine lv_iload hx hb dL_law_213 (lv_at hl 1 rfl) ?_
  refine lv_iconst (v := 1) hx hb dL_law_215 (by decide) ?_
  refine lv_iadd hx hb dL_law_216 ?_
  refine z_toi (y := nI (i + 1)) (nI_add i 1) ?_
  refine va_sld hx hb hX0 hb0 hbA hS (vp_in_nI (by omega) (by omega)) dL_law_217 ?_
  refine z_toi (y := (nI p)) (by rw [nI_clamp (by omega)]; exact h1) ?_
  refine lv_aload_n hx hb dL_law_218 rfl (lv_at hl 5 rfl) ?_
  refine lv_iload hx hb dL_law_219 (lv_at hl 1 rfl) ?_
  refine lv_iconst (v := 2) hx hb dL_law_221 (by decide) ?_
  refine lv_iadd hx hb dL_law_222 ?_
  refine z_toi (y := nI (i + 2)) (nI_add i 2) ?_
  refine va_sld hx hb hX0 hb0 hbA hS (vp_in_nI (by omega) (by omega)) dL_law_223 ?_
  refine z_toi (y := (nI o)) (by rw [nI_clamp (by omega)]; exact h2) ?_
  refine z_mi (va_runV (As := [.int (nI p), .int (nI o)]) (rest := []) hfix (zcX5_listen_ka l D cI H1 (b + 61) tn n g me lo c bf e rd tk p o hM1 hI hp ho hpo9 hpn hc9) (cwV 2 hts gL_law_X5_listen rfl rfl rfl (by decide +kernel) ⟨Nat.le_of_ble_eq_true rfl, Nat.le_of_ble_eq_true rfl⟩) (z_preV hK hKi hM1 (ci := 5) (q0 := 0) rfl rfl rfl) rfl rfl hl.1 rfl (lv_room (Nat.le_of_ble_eq_true rfl)) dL_law_224 ⟨by show cells + 0 + 0 ≤ 601024; omega, by show slots + 0 + 0 ≤ 7293033; omega⟩) hS (fun z _ h => by have h9 : zF (b + 61) (b + 61 + 5) z := h; have h8 := hS.1; show s.heap.size ≤ z; simp only [zF] at h9; omega) (fun z h => by have h9 : zF (b + 61) (b + 61 + 5) z := h; have h8 := hS.1; show s.heap.size ≤ z; simp only [zF] at h9; omega) (fun H2 lo2 hB hz2 hk2 hS => ?_)
  refine va_forget (fun q h => hS.2.2 q h) ?_
  have hS : va_S (fun q => s.heap.size ≤ q) s.heap H2 [] := ⟨hS.1, hS.2.1, fun z h => absurd h List.not_mem_nil⟩
  obtain ⟨hM2, hB9⟩ := hB
  have hC2 := zCW_kept hC1 (fun z h1 h2 h3 => hk2 z h1 (fun h4 => by have h9 : zF (b + 61) (b + 61 + 5) z := h4; simp only [zF] at h9; omega))
  have hO2 := zOb_kept hO1 (fun z h1 h2 h3 => hk2 z h1 (fun h4 => by have h9 : zF (b + 61) (b + 61 + 5) z := h4; simp only [zF] at h9; omega))
  refine lv_istore (lv' := [(6, .int (nI (c p + 1))), (5, .int 0), (4, .int (nI i)), (3, .ref (b + 66)), (2, .ref (b + 61)), (1, .ref b), (0, .ref b0)]) hx hb dL_law_227 hl (by decide) rfl (fun ls hl => ?_)
  refine lv_aload_n hx hb dL_law_229 rfl (lv_at hl 4 rfl) ?_
  refine z_ki (va_runV (As := []) (rest := []) hfix (zcX5_thrown l D cI H2 _ _ _ _ _ _ _ hM2) (cwV 0 hts gL_law_X5_thrown rfl rfl rfl (by decide +kernel) ⟨Nat.le_of_ble_eq_true rfl, Nat.le_of_ble_eq_true rfl⟩) (z_preV hK hKi hM2 (ci := 5) (q0 := 0) rfl rfl rfl) rfl rfl hl.1 rfl (lv_room (Nat.le_of_ble_eq_true rfl)) dL_law_230 ⟨by show cells + 0 + 0 + 0 ≤ 601024; omega, by show slots + 0 + 0 + 0 ≤ 7293033; omega⟩) ?_
  refine lv_iload hx hb dL_law_233 (lv_at hl 1 rfl) ?_
  refine lv_icmp_eq (tgt := 240) hx hb dL_law_235 (by decide) (fun c9 => ?_) (fun c9 => absurd rfl c9)
  refine lv_iload hx hb dL_law_240 (lv_at hl 1 rfl) ?_
  refine lv_if_ne (tgt := 257) hx hb dL_law_242 (by decide) (fun c9 => absurd rfl c9) (fun c9 => ?_)
  refine lv_aload_n hx hb dL_law_245 rfl (lv_at hl 3 rfl) ?_
  refine lv_iconst (v := 0) hx hb dL_law_246 (by decide) ?_
  refine va_lald hx hb hK hO2 0 1 rfl rfl (vp_in_nI (n := 0) (by decide) (by decide)) dL_law_247 ?_
  refine z_tol (y := ((nI (c p + 1))).toInt64) (by rfl) ?_
  refine lv_iload hx hb dL_law_248 (lv_at hl 0 rfl) ?_
  refine lv_i2l (v := ((nI (c p + 1))).toInt64) hx hb dL_law_250 rfl ?_
  refine W.lcmp hx hb dL_law_251 ?_
  refine z_toi (y := 0) ((lg_cmp_eq _ _).mpr rfl) ?_
  refine lv_if_eq (tgt := 257) hx hb dL_law_252 (by decide) (fun c9 => ?_) (fun c9 => absurd rfl c9)
  refine lv_goto (tgt := 1137) hx hb dL_law_257 (by decide) ?_
  refine W.widen (k := cells + 16) (n := slots + 214) (by omega) (by omega) ?_
  exact kk _ _ _ _ _ _ _ _ _ _ ⟨hC2, ⟨_, hO2⟩, ⟨_, _, hM2⟩, zI_add hI hp ho hc9, hZ⟩ hS (lv_sub hl [2, 3, 4, 5, 6] rfl)
set_option maxHeartbeats 4000000 in
set_option maxRecDepth 100000 in
/-- zlv_listen_drop -/
theorem zlv_listen_drop {pg : Program} {l : Launch} {ev : Env} {s : State} {m : MethodId} {below : List Frame} {meth : Method} {cd : Code} {D : va_G} {cI cL cR : ClassId} {b0 L : Nat} {xs : Nat → Int32} {Q : State → Prop} {H : Heap} {b n : Nat} {me lo : Nat → Int32} {c e : Nat → Nat} {rd tk tn : Int32} {g : zG} {bf : Nat → Int32} {f : Nat → Int64} {i cells slots : Nat} {ls : Array Slot} (hfix : CallFix pg m cd cL_law 9 s #[.ref b0] wsL_law RL) (hK : va_K D vwCl [(cI, .int), (cL, .long), (cR, .array .int)] s) (hKw : zKw s) (hE : zE s.heap.size s) (hlt : l.stackTraces = false) (hX0 : va_X b0 L xs s s.heap) (hb0 : b0 < s.heap.size) (hbs : s.heap.size ≤ b) (hC : zCW D cI b n me lo c e rd tk g H) (hM : va_P D vwCl (zMo cI (b + 61) tn n (jf g me lo c) bf (zn e) (nm rd tk)) H) (hO : va_P D vwCl [(b + 66, .inl (cL, 1, .inr (.inl f)))] H) (hI : zI n me lo c e) (hZ : zJ n g) (hS : va_S (fun q => s.heap.size ≤ q) s.heap H []) (hi : i + 4 ≤ L) (hL : L ≤ 2048) (hcell : cells + 16 ≤ 601024) (hslot : slots + 214 ≤ 7293033) (hl : lv_has ls 9 [(4, .int (nI i)), (3, .ref (b + 66)), (2, .ref (b + 61)), (1, .ref b), (0, .ref b0)]) (kk : zLK pg l ev s m below meth cd D cI cL b0 Q b i cells slots) (p : Nat) (o : Nat) (k : Nat) (hp : p < n) (ho : o < n) (hpo9 : ¬ p = o) (hpn : po e p o (c p) = some k) (h1 : xs (i + 1) = (nI p)) (h2 : xs (i + 2) = (nI o)) : W pg l ev room_1 s m #[Value.ref b0] below meth cd H [] cells slots Q (F0 m 192 ls []) := by
  obtain ⟨hx, hb, hml, hown, hts⟩ := id hfix
  have hbA : ¬ (fun q : Nat => s.heap.size ≤ q) b0 := Nat.not_le.mpr hb0
  have hKi : va_K D vwCl [(cI, .int)] s := hK.sub [0] rfl
  have hKl : va_K D vwCl [(cI, .int), (cL, .long)] s := hK.sub [0, 1] rfl
  have hKq : va_K D vwCl [(cI, .int), (cR, .array .int)] s := hK.sub [0, 2] rfl
  have hsz := hS.1
  refine lv_aload_n hx hb dL_law_192 rfl (lv_at hl 3 rfl) ?_
  refine lv_aload_n hx hb dL_law_193 rfl (lv_at hl 4 rfl) ?_
  refine lv_iload hx hb dL_law_194 (lv_at hl 0 rfl) ?_
  refine lv_iconst (v := 1) hx hb dL_law_196 (by decide) ?_
  refine lv_iadd hx hb dL_law_197 ?_
  refine z_toi (y := nI (i + 1)) (nI_add i 1) ?_
  refine va_sld hx hb hX0 hb0 hbA hS (vp_in_nI (by omega) (by omega)) dL_law_198 ?_
  refine z_toi (y := (nI p)) (by rw [nI_clamp (by omega)]; exact h1) ?_
  refine lv_aload_n hx hb dL_law_199 rfl (lv_at hl 4 rfl) ?_
  refine lv_iload hx hb dL_law_200 (lv_at hl 0 rfl) ?_
  refine lv_iconst (v := 2) hx hb dL_law_202 (by decide) ?_
  refine lv_iadd hx hb dL_law_203 ?_
  refine z_toi (y := nI (i + 2)) (nI_add i 2) ?_
  refine va_sld hx hb hX0 hb0 hbA hS (vp_in_nI (by omega) (by omega)) dL_law_204 ?_
  refine z_toi (y := (nI o)) (by rw [nI_clamp (by omega)]; exact h2) ?_
  refine lv_aload_n hx hb dL_law_205 rfl (lv_at hl 1 rfl) ?_
  refine z_mi (vx_runSW (As := [.ref b, .int (nI p), .int (nI o), .ref (b + 66)]) (rest := []) hfix (zcL_listen_kd l D cI cL H s.heap.size (b + 66) f b n me lo c e rd tk g p o k hC hI hp ho hpo9 hpn hO (by omega)) (vx_cwSW 4 hts gL_law_L_listen rfl rfl rfl (by decide +kernel) ⟨Nat.le_of_ble_eq_true rfl, Nat.le_of_ble_eq_true rfl⟩) (z_xpreS hE (fun q h1 h2 => hS.2.1 q h1 h2) hKl) rfl rfl hl.1 rfl (lv_room (Nat.le_of_ble_eq_true rfl)) dL_law_206 ⟨by show cells + 0 ≤ 601024; omega, by show slots + 0 ≤ 7293033; omega⟩) hS (fun z _ h => by have h9 : zF b (b + 61) z ∨ @Eq Nat z (b + 66) := h; have h8 := hS.1; show s.heap.size ≤ z; simp only [zF] at h9; omega) (fun z h => by have h9 : zF b (b + 61) z ∨ @Eq Nat z (b + 66) := h; have h8 := hS.1; show s.heap.size ≤ z; simp only [zF] at h9; omega) (fun H1 lo1 hB hz1 hk1 hS => ?_)
  refine va_forget (fun q h => hS.2.2 q h) ?_
  have hS : va_S (fun q => s.heap.size ≤ q) s.heap H1 [] := ⟨hS.1, hS.2.1, fun z h => absurd h List.not_mem_nil⟩
  have hM1 := zMo_kept hM (fun z h1 h2 h3 => hk1 z h1 (fun h4 => by have h9 : zF b (b + 61) z ∨ @Eq Nat z (b + 66) := h4; simp only [zF] at h9; omega))
  have hC1 := hB.1
  have hO1 := hB.2.1
  refine lv_istore (lv' := [(5, .int 0), (4, .int (nI i)), (3, .ref (b + 66)), (2, .ref (b + 61)), (1, .ref b), (0, .ref b0)]) hx hb dL_law_209 hl (by decide) rfl (fun ls hl => ?_)
  refine lv_aload_n hx hb dL_law_211 rfl (lv_at hl 3 rfl) ?_
  refine lv_aload_n hx hb dL_law_212 rfl (lv_at hl 5 rfl) ?_
  refine lv_iload hx hb dL_law_213 (lv_at hl 1 rfl) ?_
  refine lv_iconst (v := 1) hx hb dL_law_215 (by decide) ?_
  refine lv_iadd hx hb dL_law_216 ?_
  refine z_toi (y := nI (i + 1)) (nI_add i 1) ?_
  refine va_sld hx hb hX0 hb0 hbA hS (vp_in_nI (by omega) (by omega)) dL_law_217 ?_
  refine z_toi (y := (nI p)) (by rw [nI_clamp (by omega)]; exact h1) ?_
  refine lv_aload_n hx hb dL_law_218 rfl (lv_at hl 5 rfl) ?_
  refine lv_iload hx hb dL_law_219 (lv_at hl 1 rfl) ?_
  refine lv_iconst (v := 2) hx hb dL_law_221 (by decide) ?_
  refine lv_iadd hx hb dL_law_222 ?_
  refine z_toi (y := nI (i + 2)) (nI_add i 2) ?_
  refine va_sld hx hb hX0 hb0 hbA hS (vp_in_nI (by omega) (by omega)) dL_law_223 ?_
  refine z_toi (y := (nI o)) (by rw [nI_clamp (by omega)]; exact h2) ?_
  refine z_mi (va_runV (As := [.int (nI p), .int (nI o)]) (rest := []) hfix (zcX5_listen_kd l D cI H1 (b + 61) tn n g me lo c bf e rd tk p o k hM1 hI hp ho hpo9 hpn) (cwV 2 hts gL_law_X5_listen rfl rfl rfl (by decide +kernel) ⟨Nat.le_of_ble_eq_true rfl, Nat.le_of_ble_eq_true rfl⟩) (z_preV hK hKi hM1 (ci := 5) (q0 := 0) rfl rfl rfl) rfl rfl hl.1 rfl (lv_room (Nat.le_of_ble_eq_true rfl)) dL_law_224 ⟨by show cells + 0 + 0 ≤ 601024; omega, by show slots + 0 + 0 ≤ 7293033; omega⟩) hS (fun z _ h => by have h9 : zF (b + 61) (b + 61 + 5) z := h; have h8 := hS.1; show s.heap.size ≤ z; simp only [zF] at h9; omega) (fun z h => by have h9 : zF (b + 61) (b + 61 + 5) z := h; have h8 := hS.1; show s.heap.size ≤ z; simp only [zF] at h9; omega) (fun H2 lo2 hB hz2 hk2 hS => ?_)
  refine va_forget (fun q h => hS.2.2 q h) ?_
  have hS : va_S (fun q => s.heap.size ≤ q) s.heap H2 [] := ⟨hS.1, hS.2.1, fun z h => absurd h List.not_mem_nil⟩
  obtain ⟨hM2, hB9⟩ := hB
  have hC2 := zCW_kept hC1 (fun z h1 h2 h3 => hk2 z h1 (fun h4 => by have h9 : zF (b + 61) (b + 61 + 5) z := h4; simp only [zF] at h9; omega))
  have hO2 := zOb_kept hO1 (fun z h1 h2 h3 => hk2 z h1 (fun h4 => by have h9 : zF (b + 61) (b + 61 + 5) z := h4; simp only [zF] at h9; omega))
  refine lv_istore (lv' := [(6, .int (nI (c p - 1))), (5, .int 0), (4, .int (nI i)), (3, .ref (b + 66)), (2, .ref (b + 61)), (1, .ref b), (0, .ref b0)]) hx hb dL_law_227 hl (by decide) rfl (fun ls hl => ?_)
  refine lv_aload_n hx hb dL_law_229 rfl (lv_at hl 4 rfl) ?_
  refine z_ki (va_runV (As := []) (rest := []) hfix (zcX5_thrown l D cI H2 _ _ _ _ _ _ _ hM2) (cwV 0 hts gL_law_X5_thrown rfl rfl rfl (by decide +kernel) ⟨Nat.le_of_ble_eq_true rfl, Nat.le_of_ble_eq_true rfl⟩) (z_preV hK hKi hM2 (ci := 5) (q0 := 0) rfl rfl rfl) rfl rfl hl.1 rfl (lv_room (Nat.le_of_ble_eq_true rfl)) dL_law_230 ⟨by show cells + 0 + 0 + 0 ≤ 601024; omega, by show slots + 0 + 0 + 0 ≤ 7293033; omega⟩) ?_
  refine lv_iload hx hb dL_law_233 (lv_at hl 1 rfl) ?_
  refine lv_icmp_eq (tgt := 240) hx hb dL_law_235 (by decide) (fun c9 => ?_) (fun c9 => absurd rfl c9)
  refine lv_iload hx hb dL_law_240 (lv_at hl 1 rfl) ?_
  refine lv_if_ne (tgt := 257) hx hb dL_law_242 (by decide) (fun c9 => absurd rfl c9) (fun c9 => ?_)
  refine lv_aload_n hx hb dL_law_245 rfl (lv_at hl 3 rfl) ?_
  refine lv_iconst (v := 0) hx hb dL_law_246 (by decide) ?_
  refine va_lald hx hb hK hO2 0 1 rfl rfl (vp_in_nI (n := 0) (by decide) (by decide)) dL_law_247 ?_
  refine z_tol (y := ((nI (c p - 1))).toInt64) (by rfl) ?_
  refine lv_iload hx hb dL_law_248 (lv_at hl 0 rfl) ?_
  refine lv_i2l (v := ((nI (c p - 1))).toInt64) hx hb dL_law_250 rfl ?_
  refine W.lcmp hx hb dL_law_251 ?_
  refine z_toi (y := 0) ((lg_cmp_eq _ _).mpr rfl) ?_
  refine lv_if_eq (tgt := 257) hx hb dL_law_252 (by decide) (fun c9 => ?_) (fun c9 => absurd rfl c9)
  refine lv_goto (tgt := 1137) hx hb dL_law_257 (by decide) ?_
  refine W.widen (k := cells + 16) (n := slots + 214) (by omega) (by omega) ?_
  exact kk _ _ _ _ _ _ _ _ _ _ ⟨hC2, ⟨_, hO2⟩, ⟨_, _, hM2⟩, zI_drop hI hp (zd_po_lt hpn).1, hZ⟩ hS (lv_sub hl [2, 3, 4, 5, 6] rfl)
set_option maxHeartbeats 4000000 in
set_option maxRecDepth 100000 in
/-- zlv_listen_b1 -/
theorem zlv_listen_b1 {pg : Program} {l : Launch} {ev : Env} {s : State} {m : MethodId} {below : List Frame} {meth : Method} {cd : Code} {D : va_G} {cI cL cR : ClassId} {b0 L : Nat} {xs : Nat → Int32} {Q : State → Prop} {H : Heap} {b n : Nat} {me lo : Nat → Int32} {c e : Nat → Nat} {rd tk tn : Int32} {g : zG} {bf : Nat → Int32} {f : Nat → Int64} {i cells slots : Nat} {ls : Array Slot} (hfix : CallFix pg m cd cL_law 9 s #[.ref b0] wsL_law RL) (hK : va_K D vwCl [(cI, .int), (cL, .long), (cR, .array .int)] s) (hKw : zKw s) (hE : zE s.heap.size s) (hlt : l.stackTraces = false) (hX0 : va_X b0 L xs s s.heap) (hb0 : b0 < s.heap.size) (hbs : s.heap.size ≤ b) (hC : zCW D cI b n me lo c e rd tk g H) (hM : va_P D vwCl (zMo cI (b + 61) tn n (jf g me lo c) bf (zn e) (nm rd tk)) H) (hO : va_P D vwCl [(b + 66, .inl (cL, 1, .inr (.inl f)))] H) (hI : zI n me lo c e) (hZ : zJ n g) (hS : va_S (fun q => s.heap.size ≤ q) s.heap H []) (hi : i + 4 ≤ L) (hL : L ≤ 2048) (hcell : cells + 16 ≤ 601024) (hslot : slots + 214 ≤ 7293033) (hl : lv_has ls 9 [(4, .int (nI i)), (3, .ref (b + 66)), (2, .ref (b + 61)), (1, .ref b), (0, .ref b0)]) (kk : zLK pg l ev s m below meth cd D cI cL b0 Q b i cells slots) (x : Int32) (y : Int32) (hx9 : ¬ ∃ j, j < n ∧ x = nI j) (h1 : xs (i + 1) = x) (h2 : xs (i + 2) = y) : W pg l ev room_1 s m #[Value.ref b0] below meth cd H [] cells slots Q (F0 m 192 ls []) := by
  obtain ⟨hx, hb, hml, hown, hts⟩ := id hfix
  have hbA : ¬ (fun q : Nat => s.heap.size ≤ q) b0 := Nat.not_le.mpr hb0
  have hKi : va_K D vwCl [(cI, .int)] s := hK.sub [0] rfl
  have hKl : va_K D vwCl [(cI, .int), (cL, .long)] s := hK.sub [0, 1] rfl
  have hKq : va_K D vwCl [(cI, .int), (cR, .array .int)] s := hK.sub [0, 2] rfl
  have hsz := hS.1
  refine lv_aload_n hx hb dL_law_192 rfl (lv_at hl 3 rfl) ?_
  refine lv_aload_n hx hb dL_law_193 rfl (lv_at hl 4 rfl) ?_
  refine lv_iload hx hb dL_law_194 (lv_at hl 0 rfl) ?_
  refine lv_iconst (v := 1) hx hb dL_law_196 (by decide) ?_
  refine lv_iadd hx hb dL_law_197 ?_
  refine z_toi (y := nI (i + 1)) (nI_add i 1) ?_
  refine va_sld hx hb hX0 hb0 hbA hS (vp_in_nI (by omega) (by omega)) dL_law_198 ?_
  refine z_toi (y := x) (by rw [nI_clamp (by omega)]; exact h1) ?_
  refine lv_aload_n hx hb dL_law_199 rfl (lv_at hl 4 rfl) ?_
  refine lv_iload hx hb dL_law_200 (lv_at hl 0 rfl) ?_
  refine lv_iconst (v := 2) hx hb dL_law_202 (by decide) ?_
  refine lv_iadd hx hb dL_law_203 ?_
  refine z_toi (y := nI (i + 2)) (nI_add i 2) ?_
  refine va_sld hx hb hX0 hb0 hbA hS (vp_in_nI (by omega) (by omega)) dL_law_204 ?_
  refine z_toi (y := y) (by rw [nI_clamp (by omega)]; exact h2) ?_
  refine lv_aload_n hx hb dL_law_205 rfl (lv_at hl 1 rfl) ?_
  refine z_mi (vx_runSW (As := [.ref b, .int x, .int y, .ref (b + 66)]) (rest := []) hfix (zcL_listen_b1 l D cI cL H s.heap.size (b + 66) hlt hS.1 b n me lo c e rd tk g x y hC hI hx9) (vx_cwSW 4 hts gL_law_L_listen rfl rfl rfl (by decide +kernel) ⟨Nat.le_of_ble_eq_true rfl, Nat.le_of_ble_eq_true rfl⟩) (z_xpreS hE (fun q h1 h2 => hS.2.1 q h1 h2) hKl) rfl rfl hl.1 rfl (lv_room (Nat.le_of_ble_eq_true rfl)) dL_law_206 ⟨by show cells + 1 ≤ 601024; omega, by show slots + 6 ≤ 7293033; omega⟩) hS (fun z _ h => by have h9 : H.size ≤ z := h; have h8 := hS.1; show s.heap.size ≤ z; omega) (fun z h => by have h9 : H.size ≤ z := h; have h8 := hS.1; show s.heap.size ≤ z; omega) (fun H1 lo1 hB hz1 hk1 hS => ?_)
  refine va_forget (fun q h => hS.2.2 q h) ?_
  have hS : va_S (fun q => s.heap.size ≤ q) s.heap H1 [] := ⟨hS.1, hS.2.1, fun z h => absurd h List.not_mem_nil⟩
  have hM1 := zMo_kept hM (fun z h1 h2 h3 => hk1 z h1 (fun h4 => by have h9 : H.size ≤ z := h4; omega))
  have hC1 := zCW_kept hC (fun z h1 h2 h3 => hk1 z h1 (fun h4 => by have h9 : H.size ≤ z := h4; omega))
  have hO1 := zOb_kept hO (fun z h1 h2 h3 => hk1 z h1 (fun h4 => by have h9 : H.size ≤ z := h4; omega))
  refine lv_istore (lv' := [(5, .int 1), (4, .int (nI i)), (3, .ref (b + 66)), (2, .ref (b + 61)), (1, .ref b), (0, .ref b0)]) hx hb dL_law_209 hl (by decide) rfl (fun ls hl => ?_)
  refine lv_aload_n hx hb dL_law_211 rfl (lv_at hl 3 rfl) ?_
  refine lv_aload_n hx hb dL_law_212 rfl (lv_at hl 5 rfl) ?_
  refine lv_iload hx hb dL_law_213 (lv_at hl 1 rfl) ?_
  refine lv_iconst (v := 1) hx hb dL_law_215 (by decide) ?_
  refine lv_iadd hx hb dL_law_216 ?_
  refine z_toi (y := nI (i + 1)) (nI_add i 1) ?_
  refine va_sld hx hb hX0 hb0 hbA hS (vp_in_nI (by omega) (by omega)) dL_law_217 ?_
  refine z_toi (y := x) (by rw [nI_clamp (by omega)]; exact h1) ?_
  refine lv_aload_n hx hb dL_law_218 rfl (lv_at hl 5 rfl) ?_
  refine lv_iload hx hb dL_law_219 (lv_at hl 1 rfl) ?_
  refine lv_iconst (v := 2) hx hb dL_law_221 (by decide) ?_
  refine lv_iadd hx hb dL_law_222 ?_
  refine z_toi (y := nI (i + 2)) (nI_add i 2) ?_
  refine va_sld hx hb hX0 hb0 hbA hS (vp_in_nI (by omega) (by omega)) dL_law_223 ?_
  refine z_toi (y := y) (by rw [nI_clamp (by omega)]; exact h2) ?_
  refine z_mi (va_runV (As := [.int x, .int y]) (rest := []) hfix (zcX5_listen_b1 l D cI H1 (b + 61) tn n g me lo c bf e rd tk x y hM1 hI hx9) (cwV 2 hts gL_law_X5_listen rfl rfl rfl (by decide +kernel) ⟨Nat.le_of_ble_eq_true rfl, Nat.le_of_ble_eq_true rfl⟩) (z_preV hK hKi hM1 (ci := 5) (q0 := 0) rfl rfl rfl) rfl rfl hl.1 rfl (lv_room (Nat.le_of_ble_eq_true rfl)) dL_law_224 ⟨by show cells + 1 + 0 ≤ 601024; omega, by show slots + 6 + 0 ≤ 7293033; omega⟩) hS (fun z _ h => by have h9 : zF (b + 61) (b + 61 + 5) z := h; have h8 := hS.1; show s.heap.size ≤ z; simp only [zF] at h9; omega) (fun z h => by have h9 : zF (b + 61) (b + 61 + 5) z := h; have h8 := hS.1; show s.heap.size ≤ z; simp only [zF] at h9; omega) (fun H2 lo2 hB hz2 hk2 hS => ?_)
  refine va_forget (fun q h => hS.2.2 q h) ?_
  have hS : va_S (fun q => s.heap.size ≤ q) s.heap H2 [] := ⟨hS.1, hS.2.1, fun z h => absurd h List.not_mem_nil⟩
  obtain ⟨hM2, hB9⟩ := hB
  have hC2 := zCW_kept hC1 (fun z h1 h2 h3 => hk2 z h1 (fun h4 => by have h9 : zF (b + 61) (b + 61 + 5) z := h4; simp only [zF] at h9; omega))
  have hO2 := zOb_kept hO1 (fun z h1 h2 h3 => hk2 z h1 (fun h4 => by have h9 : zF (b + 61) (b + 61 + 5) z := h4; simp only [zF] at h9; omega))
  refine lv_istore (lv' := [(6, .int 0), (5, .int 1), (4, .int (nI i)), (3, .ref (b + 66)), (2, .ref (b + 61)), (1, .ref b), (0, .ref b0)]) hx hb dL_law_227 hl (by decide) rfl (fun ls hl => ?_)
  refine lv_aload_n hx hb dL_law_229 rfl (lv_at hl 4 rfl) ?_
  refine z_ki (va_runV (As := []) (rest := []) hfix (zcX5_thrown l D cI H2 _ _ _ _ _ _ _ hM2) (cwV 0 hts gL_law_X5_thrown rfl rfl rfl (by decide +kernel) ⟨Nat.le_of_ble_eq_true rfl, Nat.le_of_ble_eq_true rfl⟩) (z_preV hK hKi hM2 (ci := 5) (q0 := 0) rfl rfl rfl) rfl rfl hl.1 rfl (lv_room (Nat.le_of_ble_eq_true rfl)) dL_law_230 ⟨by show cells + 1 + 0 + 0 ≤ 601024; omega, by show slots + 6 + 0 + 0 ≤ 7293033; omega⟩) ?_
  refine lv_iload hx hb dL_law_233 (lv_at hl 1 rfl) ?_
  refine lv_icmp_eq (tgt := 240) hx hb dL_law_235 (by decide) (fun c9 => ?_) (fun c9 => absurd rfl c9)
  refine lv_iload hx hb dL_law_240 (lv_at hl 1 rfl) ?_
  refine lv_if_ne (tgt := 257) hx hb dL_law_242 (by decide) (fun c9 => ?_) (fun c9 => absurd c9 (by decide))
  refine lv_goto (tgt := 1137) hx hb dL_law_257 (by decide) ?_
  refine W.widen (k := cells + 16) (n := slots + 214) (by omega) (by omega) ?_
  exact kk _ _ _ _ _ _ _ _ _ _ ⟨hC2, ⟨_, hO2⟩, ⟨_, _, hM2⟩, hI, hZ⟩ hS (lv_sub hl [2, 3, 4, 5, 6] rfl)
set_option maxHeartbeats 4000000 in
set_option maxRecDepth 100000 in
/-- zlv_listen_b2 -/
theorem zlv_listen_b2 {pg : Program} {l : Launch} {ev : Env} {s : State} {m : MethodId} {below : List Frame} {meth : Method} {cd : Code} {D : va_G} {cI cL cR : ClassId} {b0 L : Nat} {xs : Nat → Int32} {Q : State → Prop} {H : Heap} {b n : Nat} {me lo : Nat → Int32} {c e : Nat → Nat} {rd tk tn : Int32} {g : zG} {bf : Nat → Int32} {f : Nat → Int64} {i cells slots : Nat} {ls : Array Slot} (hfix : CallFix pg m cd cL_law 9 s #[.ref b0] wsL_law RL) (hK : va_K D vwCl [(cI, .int), (cL, .long), (cR, .array .int)] s) (hKw : zKw s) (hE : zE s.heap.size s) (hlt : l.stackTraces = false) (hX0 : va_X b0 L xs s s.heap) (hb0 : b0 < s.heap.size) (hbs : s.heap.size ≤ b) (hC : zCW D cI b n me lo c e rd tk g H) (hM : va_P D vwCl (zMo cI (b + 61) tn n (jf g me lo c) bf (zn e) (nm rd tk)) H) (hO : va_P D vwCl [(b + 66, .inl (cL, 1, .inr (.inl f)))] H) (hI : zI n me lo c e) (hZ : zJ n g) (hS : va_S (fun q => s.heap.size ≤ q) s.heap H []) (hi : i + 4 ≤ L) (hL : L ≤ 2048) (hcell : cells + 16 ≤ 601024) (hslot : slots + 214 ≤ 7293033) (hl : lv_has ls 9 [(4, .int (nI i)), (3, .ref (b + 66)), (2, .ref (b + 61)), (1, .ref b), (0, .ref b0)]) (kk : zLK pg l ev s m below meth cd D cI cL b0 Q b i cells slots) (p : Nat) (x : Int32) (hp : p < n) (hx9 : ¬ ∃ j, j < n ∧ x = nI j) (h1 : xs (i + 1) = (nI p)) (h2 : xs (i + 2) = x) : W pg l ev room_1 s m #[Value.ref b0] below meth cd H [] cells slots Q (F0 m 192 ls []) := by
  obtain ⟨hx, hb, hml, hown, hts⟩ := id hfix
  have hbA : ¬ (fun q : Nat => s.heap.size ≤ q) b0 := Nat.not_le.mpr hb0
  have hKi : va_K D vwCl [(cI, .int)] s := hK.sub [0] rfl
  have hKl : va_K D vwCl [(cI, .int), (cL, .long)] s := hK.sub [0, 1] rfl
  have hKq : va_K D vwCl [(cI, .int), (cR, .array .int)] s := hK.sub [0, 2] rfl
  have hsz := hS.1
  refine lv_aload_n hx hb dL_law_192 rfl (lv_at hl 3 rfl) ?_
  refine lv_aload_n hx hb dL_law_193 rfl (lv_at hl 4 rfl) ?_
  refine lv_iload hx hb dL_law_194 (lv_at hl 0 rfl) ?_
  refine lv_iconst (v := 1) hx hb dL_law_196 (by decide) ?_
  refine lv_iadd hx hb dL_law_197 ?_
  refine z_toi (y := nI (i + 1)) (nI_add i 1) ?_
  refine va_sld hx hb hX0 hb0 hbA hS (vp_in_nI (by omega) (by omega)) dL_law_198 ?_
  refine z_toi (y := (nI p)) (by rw [nI_clamp (by omega)]; exact h1) ?_
  refine lv_aload_n hx hb dL_law_199 rfl (lv_at hl 4 rfl) ?_
  refine lv_iload hx hb dL_law_200 (lv_at hl 0 rfl) ?_
  refine lv_iconst (v := 2) hx hb dL_law_202 (by decide) ?_
  refine lv_iadd hx hb dL_law_203 ?_
  refine z_toi (y := nI (i + 2)) (nI_add i 2) ?_
  refine va_sld hx hb hX0 hb0 hbA hS (vp_in_nI (by omega) (by omega)) dL_law_204 ?_
  refine z_toi (y := x) (by rw [nI_clamp (by omega)]; exact h2) ?_
  refine lv_aload_n hx hb dL_law_205 rfl (lv_at hl 1 rfl) ?_
  refine z_mi (vx_runSW (As := [.ref b, .int (nI p), .int x, .ref (b + 66)]) (rest := []) hfix (zcL_listen_b2 l D cI cL H s.heap.size (b + 66) hlt hS.1 b n me lo c e rd tk g p x hC hI hp hx9) (vx_cwSW 4 hts gL_law_L_listen rfl rfl rfl (by decide +kernel) ⟨Nat.le_of_ble_eq_true rfl, Nat.le_of_ble_eq_true rfl⟩) (z_xpreS hE (fun q h1 h2 => hS.2.1 q h1 h2) hKl) rfl rfl hl.1 rfl (lv_room (Nat.le_of_ble_eq_true rfl)) dL_law_206 ⟨by show cells + 1 ≤ 601024; omega, by show slots + 6 ≤ 7293033; omega⟩) hS (fun z _ h => by have h9 : H.size ≤ z := h; have h8 := hS.1; show s.heap.size ≤ z; omega) (fun z h => by have h9 : H.size ≤ z := h; have h8 := hS.1; show s.heap.size ≤ z; omega) (fun H1 lo1 hB hz1 hk1 hS => ?_)
  refine va_forget (fun q h => hS.2.2 q h) ?_
  have hS : va_S (fun q => s.heap.size ≤ q) s.heap H1 [] := ⟨hS.1, hS.2.1, fun z h => absurd h List.not_mem_nil⟩
  have hM1 := zMo_kept hM (fun z h1 h2 h3 => hk1 z h1 (fun h4 => by have h9 : H.size ≤ z := h4; omega))
  have hC1 := zCW_kept hC (fun z h1 h2 h3 => hk1 z h1 (fun h4 => by have h9 : H.size ≤ z := h4; omega))
  have hO1 := zOb_kept hO (fun z h1 h2 h3 => hk1 z h1 (fun h4 => by have h9 : H.size ≤ z := h4; omega))
  refine lv_istore (lv' := [(5, .int 1), (4, .int (nI i)), (3, .ref (b + 66)), (2, .ref (b + 61)), (1, .ref b), (0, .ref b0)]) hx hb dL_law_209 hl (by decide) rfl (fun ls hl => ?_)
  refine lv_aload_n hx hb dL_law_211 rfl (lv_at hl 3 rfl) ?_
  refine lv_aload_n hx hb dL_law_212 rfl (lv_at hl 5 rfl) ?_
  refine lv_iload hx hb dL_law_213 (lv_at hl 1 rfl) ?_
  refine lv_iconst (v := 1) hx hb dL_law_215 (by decide) ?_
  refine lv_iadd hx hb dL_law_216 ?_
  refine z_toi (y := nI (i + 1)) (nI_add i 1) ?_
  refine va_sld hx hb hX0 hb0 hbA hS (vp_in_nI (by omega) (by omega)) dL_law_217 ?_
  refine z_toi (y := (nI p)) (by rw [nI_clamp (by omega)]; exact h1) ?_
  refine lv_aload_n hx hb dL_law_218 rfl (lv_at hl 5 rfl) ?_
  refine lv_iload hx hb dL_law_219 (lv_at hl 1 rfl) ?_
  refine lv_iconst (v := 2) hx hb dL_law_221 (by decide) ?_
  refine lv_iadd hx hb dL_law_222 ?_
  refine z_toi (y := nI (i + 2)) (nI_add i 2) ?_
  refine va_sld hx hb hX0 hb0 hbA hS (vp_in_nI (by omega) (by omega)) dL_law_223 ?_
  refine z_toi (y := x) (by rw [nI_clamp (by omega)]; exact h2) ?_
  refine z_mi (va_runV (As := [.int (nI p), .int x]) (rest := []) hfix (zcX5_listen_b2 l D cI H1 (b + 61) tn n g me lo c bf e rd tk p x hM1 hI hp hx9) (cwV 2 hts gL_law_X5_listen rfl rfl rfl (by decide +kernel) ⟨Nat.le_of_ble_eq_true rfl, Nat.le_of_ble_eq_true rfl⟩) (z_preV hK hKi hM1 (ci := 5) (q0 := 0) rfl rfl rfl) rfl rfl hl.1 rfl (lv_room (Nat.le_of_ble_eq_true rfl)) dL_law_224 ⟨by show cells + 1 + 0 ≤ 601024; omega, by show slots + 6 + 0 ≤ 7293033; omega⟩) hS (fun z _ h => by have h9 : zF (b + 61) (b + 61 + 5) z := h; have h8 := hS.1; show s.heap.size ≤ z; simp only [zF] at h9; omega) (fun z h => by have h9 : zF (b + 61) (b + 61 + 5) z := h; have h8 := hS.1; show s.heap.size ≤ z; simp only [zF] at h9; omega) (fun H2 lo2 hB hz2 hk2 hS => ?_)
  refine va_forget (fun q h => hS.2.2 q h) ?_
  have hS : va_S (fun q => s.heap.size ≤ q) s.heap H2 [] := ⟨hS.1, hS.2.1, fun z h => absurd h List.not_mem_nil⟩
  obtain ⟨hM2, hB9⟩ := hB
  have hC2 := zCW_kept hC1 (fun z h1 h2 h3 => hk2 z h1 (fun h4 => by have h9 : zF (b + 61) (b + 61 + 5) z := h4; simp only [zF] at h9; omega))
  have hO2 := zOb_kept hO1 (fun z h1 h2 h3 => hk2 z h1 (fun h4 => by have h9 : zF (b + 61) (b + 61 + 5) z := h4; simp only [zF] at h9; omega))
  refine lv_istore (lv' := [(6, .int 0), (5, .int 1), (4, .int (nI i)), (3, .ref (b + 66)), (2, .ref (b + 61)), (1, .ref b), (0, .ref b0)]) hx hb dL_law_227 hl (by decide) rfl (fun ls hl => ?_)
  refine lv_aload_n hx hb dL_law_229 rfl (lv_at hl 4 rfl) ?_
  refine z_ki (va_runV (As := []) (rest := []) hfix (zcX5_thrown l D cI H2 _ _ _ _ _ _ _ hM2) (cwV 0 hts gL_law_X5_thrown rfl rfl rfl (by decide +kernel) ⟨Nat.le_of_ble_eq_true rfl, Nat.le_of_ble_eq_true rfl⟩) (z_preV hK hKi hM2 (ci := 5) (q0 := 0) rfl rfl rfl) rfl rfl hl.1 rfl (lv_room (Nat.le_of_ble_eq_true rfl)) dL_law_230 ⟨by show cells + 1 + 0 + 0 ≤ 601024; omega, by show slots + 6 + 0 + 0 ≤ 7293033; omega⟩) ?_
  refine lv_iload hx hb dL_law_233 (lv_at hl 1 rfl) ?_
  refine lv_icmp_eq (tgt := 240) hx hb dL_law_235 (by decide) (fun c9 => ?_) (fun c9 => absurd rfl c9)
  refine lv_iload hx hb dL_law_240 (lv_at hl 1 rfl) ?_
  refine lv_if_ne (tgt := 257) hx hb dL_law_242 (by decide) (fun c9 => ?_) (fun c9 => absurd c9 (by decide))
  refine lv_goto (tgt := 1137) hx hb dL_law_257 (by decide) ?_
  refine W.widen (k := cells + 16) (n := slots + 214) (by omega) (by omega) ?_
  exact kk _ _ _ _ _ _ _ _ _ _ ⟨hC2, ⟨_, hO2⟩, ⟨_, _, hM2⟩, hI, hZ⟩ hS (lv_sub hl [2, 3, 4, 5, 6] rfl)
set_option maxHeartbeats 4000000 in
set_option maxRecDepth 100000 in
/-- zlv_listen_b3 -/
theorem zlv_listen_b3 {pg : Program} {l : Launch} {ev : Env} {s : State} {m : MethodId} {below : List Frame} {meth : Method} {cd : Code} {D : va_G} {cI cL cR : ClassId} {b0 L : Nat} {xs : Nat → Int32} {Q : State → Prop} {H : Heap} {b n : Nat} {me lo : Nat → Int32} {c e : Nat → Nat} {rd tk tn : Int32} {g : zG} {bf : Nat → Int32} {f : Nat → Int64} {i cells slots : Nat} {ls : Array Slot} (hfix : CallFix pg m cd cL_law 9 s #[.ref b0] wsL_law RL) (hK : va_K D vwCl [(cI, .int), (cL, .long), (cR, .array .int)] s) (hKw : zKw s) (hE : zE s.heap.size s) (hlt : l.stackTraces = false) (hX0 : va_X b0 L xs s s.heap) (hb0 : b0 < s.heap.size) (hbs : s.heap.size ≤ b) (hC : zCW D cI b n me lo c e rd tk g H) (hM : va_P D vwCl (zMo cI (b + 61) tn n (jf g me lo c) bf (zn e) (nm rd tk)) H) (hO : va_P D vwCl [(b + 66, .inl (cL, 1, .inr (.inl f)))] H) (hI : zI n me lo c e) (hZ : zJ n g) (hS : va_S (fun q => s.heap.size ≤ q) s.heap H []) (hi : i + 4 ≤ L) (hL : L ≤ 2048) (hcell : cells + 16 ≤ 601024) (hslot : slots + 214 ≤ 7293033) (hl : lv_has ls 9 [(4, .int (nI i)), (3, .ref (b + 66)), (2, .ref (b + 61)), (1, .ref b), (0, .ref b0)]) (kk : zLK pg l ev s m below meth cd D cI cL b0 Q b i cells slots) (p : Nat) (hp : p < n) (h1 : xs (i + 1) = (nI p)) (h2 : xs (i + 2) = (nI p)) : W pg l ev room_1 s m #[Value.ref b0] below meth cd H [] cells slots Q (F0 m 192 ls []) := by
  obtain ⟨hx, hb, hml, hown, hts⟩ := id hfix
  have hbA : ¬ (fun q : Nat => s.heap.size ≤ q) b0 := Nat.not_le.mpr hb0
  have hKi : va_K D vwCl [(cI, .int)] s := hK.sub [0] rfl
  have hKl : va_K D vwCl [(cI, .int), (cL, .long)] s := hK.sub [0, 1] rfl
  have hKq : va_K D vwCl [(cI, .int), (cR, .array .int)] s := hK.sub [0, 2] rfl
  have hsz := hS.1
  refine lv_aload_n hx hb dL_law_192 rfl (lv_at hl 3 rfl) ?_
  refine lv_aload_n hx hb dL_law_193 rfl (lv_at hl 4 rfl) ?_
  refine lv_iload hx hb dL_law_194 (lv_at hl 0 rfl) ?_
  refine lv_iconst (v := 1) hx hb dL_law_196 (by decide) ?_
  refine lv_iadd hx hb dL_law_197 ?_
  refine z_toi (y := nI (i + 1)) (nI_add i 1) ?_
  refine va_sld hx hb hX0 hb0 hbA hS (vp_in_nI (by omega) (by omega)) dL_law_198 ?_
  refine z_toi (y := (nI p)) (by rw [nI_clamp (by omega)]; exact h1) ?_
  refine lv_aload_n hx hb dL_law_199 rfl (lv_at hl 4 rfl) ?_
  refine lv_iload hx hb dL_law_200 (lv_at hl 0 rfl) ?_
  refine lv_iconst (v := 2) hx hb dL_law_202 (by decide) ?_
  refine lv_iadd hx hb dL_law_203 ?_
  refine z_toi (y := nI (i + 2)) (nI_add i 2) ?_
  refine va_sld hx hb hX0 hb0 hbA hS (vp_in_nI (by omega) (by omega)) dL_law_204 ?_
  refine z_toi (y := (nI p)) (by rw [nI_clamp (by omega)]; exact h2) ?_
  refine lv_aload_n hx hb dL_law_205 rfl (lv_at hl 1 rfl) ?_
  refine z_mi (vx_runSW (As := [.ref b, .int (nI p), .int (nI p), .ref (b + 66)]) (rest := []) hfix (zcL_listen_b3 l D cI cL H s.heap.size (b + 66) hlt hS.1 b n me lo c e rd tk g p hC hI hp) (vx_cwSW 4 hts gL_law_L_listen rfl rfl rfl (by decide +kernel) ⟨Nat.le_of_ble_eq_true rfl, Nat.le_of_ble_eq_true rfl⟩) (z_xpreS hE (fun q h1 h2 => hS.2.1 q h1 h2) hKl) rfl rfl hl.1 rfl (lv_room (Nat.le_of_ble_eq_true rfl)) dL_law_206 ⟨by show cells + 1 ≤ 601024; omega, by show slots + 6 ≤ 7293033; omega⟩) hS (fun z _ h => by have h9 : H.size ≤ z := h; have h8 := hS.1; show s.heap.size ≤ z; omega) (fun z h => by have h9 : H.size ≤ z := h; have h8 := hS.1; show s.heap.size ≤ z; omega) (fun H1 lo1 hB hz1 hk1 hS => ?_)
  refine va_forget (fun q h => hS.2.2 q h) ?_
  have hS : va_S (fun q => s.heap.size ≤ q) s.heap H1 [] := ⟨hS.1, hS.2.1, fun z h => absurd h List.not_mem_nil⟩
  have hM1 := zMo_kept hM (fun z h1 h2 h3 => hk1 z h1 (fun h4 => by have h9 : H.size ≤ z := h4; omega))
  have hC1 := zCW_kept hC (fun z h1 h2 h3 => hk1 z h1 (fun h4 => by have h9 : H.size ≤ z := h4; omega))
  have hO1 := zOb_kept hO (fun z h1 h2 h3 => hk1 z h1 (fun h4 => by have h9 : H.size ≤ z := h4; omega))
  refine lv_istore (lv' := [(5, .int 2), (4, .int (nI i)), (3, .ref (b + 66)), (2, .ref (b + 61)), (1, .ref b), (0, .ref b0)]) hx hb dL_law_209 hl (by decide) rfl (fun ls hl => ?_)
  refine lv_aload_n hx hb dL_law_211 rfl (lv_at hl 3 rfl) ?_
  refine lv_aload_n hx hb dL_law_212 rfl (lv_at hl 5 rfl) ?_
  refine lv_iload hx hb dL_law_213 (lv_at hl 1 rfl) ?_
  refine lv_iconst (v := 1) hx hb dL_law_215 (by decide) ?_
  refine lv_iadd hx hb dL_law_216 ?_
  refine z_toi (y := nI (i + 1)) (nI_add i 1) ?_
  refine va_sld hx hb hX0 hb0 hbA hS (vp_in_nI (by omega) (by omega)) dL_law_217 ?_
  refine z_toi (y := (nI p)) (by rw [nI_clamp (by omega)]; exact h1) ?_
  refine lv_aload_n hx hb dL_law_218 rfl (lv_at hl 5 rfl) ?_
  refine lv_iload hx hb dL_law_219 (lv_at hl 1 rfl) ?_
  refine lv_iconst (v := 2) hx hb dL_law_221 (by decide) ?_
  refine lv_iadd hx hb dL_law_222 ?_
  refine z_toi (y := nI (i + 2)) (nI_add i 2) ?_
  refine va_sld hx hb hX0 hb0 hbA hS (vp_in_nI (by omega) (by omega)) dL_law_223 ?_
  refine z_toi (y := (nI p)) (by rw [nI_clamp (by omega)]; exact h2) ?_
  refine z_mi (va_runV (As := [.int (nI p), .int (nI p)]) (rest := []) hfix (zcX5_listen_b3 l D cI H1 (b + 61) tn n g me lo c bf e rd tk p hM1 hI hp) (cwV 2 hts gL_law_X5_listen rfl rfl rfl (by decide +kernel) ⟨Nat.le_of_ble_eq_true rfl, Nat.le_of_ble_eq_true rfl⟩) (z_preV hK hKi hM1 (ci := 5) (q0 := 0) rfl rfl rfl) rfl rfl hl.1 rfl (lv_room (Nat.le_of_ble_eq_true rfl)) dL_law_224 ⟨by show cells + 1 + 0 ≤ 601024; omega, by show slots + 6 + 0 ≤ 7293033; omega⟩) hS (fun z _ h => by have h9 : zF (b + 61) (b + 61 + 5) z := h; have h8 := hS.1; show s.heap.size ≤ z; simp only [zF] at h9; omega) (fun z h => by have h9 : zF (b + 61) (b + 61 + 5) z := h; have h8 := hS.1; show s.heap.size ≤ z; simp only [zF] at h9; omega) (fun H2 lo2 hB hz2 hk2 hS => ?_)
  refine va_forget (fun q h => hS.2.2 q h) ?_
  have hS : va_S (fun q => s.heap.size ≤ q) s.heap H2 [] := ⟨hS.1, hS.2.1, fun z h => absurd h List.not_mem_nil⟩
  obtain ⟨hM2, hB9⟩ := hB
  have hC2 := zCW_kept hC1 (fun z h1 h2 h3 => hk2 z h1 (fun h4 => by have h9 : zF (b + 61) (b + 61 + 5) z := h4; simp only [zF] at h9; omega))
  have hO2 := zOb_kept hO1 (fun z h1 h2 h3 => hk2 z h1 (fun h4 => by have h9 : zF (b + 61) (b + 61 + 5) z := h4; simp only [zF] at h9; omega))
  refine lv_istore (lv' := [(6, .int 0), (5, .int 2), (4, .int (nI i)), (3, .ref (b + 66)), (2, .ref (b + 61)), (1, .ref b), (0, .ref b0)]) hx hb dL_law_227 hl (by decide) rfl (fun ls hl => ?_)
  refine lv_aload_n hx hb dL_law_229 rfl (lv_at hl 4 rfl) ?_
  refine z_ki (va_runV (As := []) (rest := []) hfix (zcX5_thrown l D cI H2 _ _ _ _ _ _ _ hM2) (cwV 0 hts gL_law_X5_thrown rfl rfl rfl (by decide +kernel) ⟨Nat.le_of_ble_eq_true rfl, Nat.le_of_ble_eq_true rfl⟩) (z_preV hK hKi hM2 (ci := 5) (q0 := 0) rfl rfl rfl) rfl rfl hl.1 rfl (lv_room (Nat.le_of_ble_eq_true rfl)) dL_law_230 ⟨by show cells + 1 + 0 + 0 ≤ 601024; omega, by show slots + 6 + 0 + 0 ≤ 7293033; omega⟩) ?_
  refine lv_iload hx hb dL_law_233 (lv_at hl 1 rfl) ?_
  refine lv_icmp_eq (tgt := 240) hx hb dL_law_235 (by decide) (fun c9 => ?_) (fun c9 => absurd rfl c9)
  refine lv_iload hx hb dL_law_240 (lv_at hl 1 rfl) ?_
  refine lv_if_ne (tgt := 257) hx hb dL_law_242 (by decide) (fun c9 => ?_) (fun c9 => absurd c9 (by decide))
  refine lv_goto (tgt := 1137) hx hb dL_law_257 (by decide) ?_
  refine W.widen (k := cells + 16) (n := slots + 214) (by omega) (by omega) ?_
  exact kk _ _ _ _ _ _ _ _ _ _ ⟨hC2, ⟨_, hO2⟩, ⟨_, _, hM2⟩, hI, hZ⟩ hS (lv_sub hl [2, 3, 4, 5, 6] rfl)
set_option maxHeartbeats 4000000 in
set_option maxRecDepth 100000 in
/-- zlv_listen_b4 -/
theorem zlv_listen_b4 {pg : Program} {l : Launch} {ev : Env} {s : State} {m : MethodId} {below : List Frame} {meth : Method} {cd : Code} {D : va_G} {cI cL cR : ClassId} {b0 L : Nat} {xs : Nat → Int32} {Q : State → Prop} {H : Heap} {b n : Nat} {me lo : Nat → Int32} {c e : Nat → Nat} {rd tk tn : Int32} {g : zG} {bf : Nat → Int32} {f : Nat → Int64} {i cells slots : Nat} {ls : Array Slot} (hfix : CallFix pg m cd cL_law 9 s #[.ref b0] wsL_law RL) (hK : va_K D vwCl [(cI, .int), (cL, .long), (cR, .array .int)] s) (hKw : zKw s) (hE : zE s.heap.size s) (hlt : l.stackTraces = false) (hX0 : va_X b0 L xs s s.heap) (hb0 : b0 < s.heap.size) (hbs : s.heap.size ≤ b) (hC : zCW D cI b n me lo c e rd tk g H) (hM : va_P D vwCl (zMo cI (b + 61) tn n (jf g me lo c) bf (zn e) (nm rd tk)) H) (hO : va_P D vwCl [(b + 66, .inl (cL, 1, .inr (.inl f)))] H) (hI : zI n me lo c e) (hZ : zJ n g) (hS : va_S (fun q => s.heap.size ≤ q) s.heap H []) (hi : i + 4 ≤ L) (hL : L ≤ 2048) (hcell : cells + 16 ≤ 601024) (hslot : slots + 214 ≤ 7293033) (hl : lv_has ls 9 [(4, .int (nI i)), (3, .ref (b + 66)), (2, .ref (b + 61)), (1, .ref b), (0, .ref b0)]) (kk : zLK pg l ev s m below meth cd D cI cL b0 Q b i cells slots) (p : Nat) (o : Nat) (hp : p < n) (ho : o < n) (hpo9 : ¬ p = o) (hpn : po e p o (c p) = none) (hc9 : ¬ c p < 4) (h1 : xs (i + 1) = (nI p)) (h2 : xs (i + 2) = (nI o)) : W pg l ev room_1 s m #[Value.ref b0] below meth cd H [] cells slots Q (F0 m 192 ls []) := by
  obtain ⟨hx, hb, hml, hown, hts⟩ := id hfix
  have hbA : ¬ (fun q : Nat => s.heap.size ≤ q) b0 := Nat.not_le.mpr hb0
  have hKi : va_K D vwCl [(cI, .int)] s := hK.sub [0] rfl
  have hKl : va_K D vwCl [(cI, .int), (cL, .long)] s := hK.sub [0, 1] rfl
  have hKq : va_K D vwCl [(cI, .int), (cR, .array .int)] s := hK.sub [0, 2] rfl
  have hsz := hS.1
  refine lv_aload_n hx hb dL_law_192 rfl (lv_at hl 3 rfl) ?_
  refine lv_aload_n hx hb dL_law_193 rfl (lv_at hl 4 rfl) ?_
  refine lv_iload hx hb dL_law_194 (lv_at hl 0 rfl) ?_
  refine lv_iconst (v := 1) hx hb dL_law_196 (by decide) ?_
  refine lv_iadd hx hb dL_law_197 ?_
  refine z_toi (y := nI (i + 1)) (nI_add i 1) ?_
  refine va_sld hx hb hX0 hb0 hbA hS (vp_in_nI (by omega) (by omega)) dL_law_198 ?_
  refine z_toi (y := (nI p)) (by rw [nI_clamp (by omega)]; exact h1) ?_
  refine lv_aload_n hx hb dL_law_199 rfl (lv_at hl 4 rfl) ?_
  refine lv_iload hx hb dL_law_200 (lv_at hl 0 rfl) ?_
  refine lv_iconst (v := 2) hx hb dL_law_202 (by decide) ?_
  refine lv_iadd hx hb dL_law_203 ?_
  refine z_toi (y := nI (i + 2)) (nI_add i 2) ?_
  refine va_sld hx hb hX0 hb0 hbA hS (vp_in_nI (by omega) (by omega)) dL_law_204 ?_
  refine z_toi (y := (nI o)) (by rw [nI_clamp (by omega)]; exact h2) ?_
  refine lv_aload_n hx hb dL_law_205 rfl (lv_at hl 1 rfl) ?_
  refine z_mi (vx_runSW (As := [.ref b, .int (nI p), .int (nI o), .ref (b + 66)]) (rest := []) hfix (zcL_listen_b4 l D cI cL H s.heap.size (b + 66) hlt hS.1 b n me lo c e rd tk g p o hC hI hp ho hpo9 hpn hc9) (vx_cwSW 4 hts gL_law_L_listen rfl rfl rfl (by decide +kernel) ⟨Nat.le_of_ble_eq_true rfl, Nat.le_of_ble_eq_true rfl⟩) (z_xpreS hE (fun q h1 h2 => hS.2.1 q h1 h2) hKl) rfl rfl hl.1 rfl (lv_room (Nat.le_of_ble_eq_true rfl)) dL_law_206 ⟨by show cells + 1 ≤ 601024; omega, by show slots + 6 ≤ 7293033; omega⟩) hS (fun z _ h => by have h9 : H.size ≤ z := h; have h8 := hS.1; show s.heap.size ≤ z; omega) (fun z h => by have h9 : H.size ≤ z := h; have h8 := hS.1; show s.heap.size ≤ z; omega) (fun H1 lo1 hB hz1 hk1 hS => ?_)
  refine va_forget (fun q h => hS.2.2 q h) ?_
  have hS : va_S (fun q => s.heap.size ≤ q) s.heap H1 [] := ⟨hS.1, hS.2.1, fun z h => absurd h List.not_mem_nil⟩
  have hM1 := zMo_kept hM (fun z h1 h2 h3 => hk1 z h1 (fun h4 => by have h9 : H.size ≤ z := h4; omega))
  have hC1 := zCW_kept hC (fun z h1 h2 h3 => hk1 z h1 (fun h4 => by have h9 : H.size ≤ z := h4; omega))
  have hO1 := zOb_kept hO (fun z h1 h2 h3 => hk1 z h1 (fun h4 => by have h9 : H.size ≤ z := h4; omega))
  refine lv_istore (lv' := [(5, .int 3), (4, .int (nI i)), (3, .ref (b + 66)), (2, .ref (b + 61)), (1, .ref b), (0, .ref b0)]) hx hb dL_law_209 hl (by decide) rfl (fun ls hl => ?_)
  refine lv_aload_n hx hb dL_law_211 rfl (lv_at hl 3 rfl) ?_
  refine lv_aload_n hx hb dL_law_212 rfl (lv_at hl 5 rfl) ?_
  refine lv_iload hx hb dL_law_213 (lv_at hl 1 rfl) ?_
  refine lv_iconst (v := 1) hx hb dL_law_215 (by decide) ?_
  refine lv_iadd hx hb dL_law_216 ?_
  refine z_toi (y := nI (i + 1)) (nI_add i 1) ?_
  refine va_sld hx hb hX0 hb0 hbA hS (vp_in_nI (by omega) (by omega)) dL_law_217 ?_
  refine z_toi (y := (nI p)) (by rw [nI_clamp (by omega)]; exact h1) ?_
  refine lv_aload_n hx hb dL_law_218 rfl (lv_at hl 5 rfl) ?_
  refine lv_iload hx hb dL_law_219 (lv_at hl 1 rfl) ?_
  refine lv_iconst (v := 2) hx hb dL_law_221 (by decide) ?_
  refine lv_iadd hx hb dL_law_222 ?_
  refine z_toi (y := nI (i + 2)) (nI_add i 2) ?_
  refine va_sld hx hb hX0 hb0 hbA hS (vp_in_nI (by omega) (by omega)) dL_law_223 ?_
  refine z_toi (y := (nI o)) (by rw [nI_clamp (by omega)]; exact h2) ?_
  refine z_mi (va_runV (As := [.int (nI p), .int (nI o)]) (rest := []) hfix (zcX5_listen_b4 l D cI H1 (b + 61) tn n g me lo c bf e rd tk p o hM1 hI hp ho hpo9 hpn hc9) (cwV 2 hts gL_law_X5_listen rfl rfl rfl (by decide +kernel) ⟨Nat.le_of_ble_eq_true rfl, Nat.le_of_ble_eq_true rfl⟩) (z_preV hK hKi hM1 (ci := 5) (q0 := 0) rfl rfl rfl) rfl rfl hl.1 rfl (lv_room (Nat.le_of_ble_eq_true rfl)) dL_law_224 ⟨by show cells + 1 + 0 ≤ 601024; omega, by show slots + 6 + 0 ≤ 7293033; omega⟩) hS (fun z _ h => by have h9 : zF (b + 61) (b + 61 + 5) z := h; have h8 := hS.1; show s.heap.size ≤ z; simp only [zF] at h9; omega) (fun z h => by have h9 : zF (b + 61) (b + 61 + 5) z := h; have h8 := hS.1; show s.heap.size ≤ z; simp only [zF] at h9; omega) (fun H2 lo2 hB hz2 hk2 hS => ?_)
  refine va_forget (fun q h => hS.2.2 q h) ?_
  have hS : va_S (fun q => s.heap.size ≤ q) s.heap H2 [] := ⟨hS.1, hS.2.1, fun z h => absurd h List.not_mem_nil⟩
  obtain ⟨hM2, hB9⟩ := hB
  have hC2 := zCW_kept hC1 (fun z h1 h2 h3 => hk2 z h1 (fun h4 => by have h9 : zF (b + 61) (b + 61 + 5) z := h4; simp only [zF] at h9; omega))
  have hO2 := zOb_kept hO1 (fun z h1 h2 h3 => hk2 z h1 (fun h4 => by have h9 : zF (b + 61) (b + 61 + 5) z := h4; simp only [zF] at h9; omega))
  refine lv_istore (lv' := [(6, .int 0), (5, .int 3), (4, .int (nI i)), (3, .ref (b + 66)), (2, .ref (b + 61)), (1, .ref b), (0, .ref b0)]) hx hb dL_law_227 hl (by decide) rfl (fun ls hl => ?_)
  refine lv_aload_n hx hb dL_law_229 rfl (lv_at hl 4 rfl) ?_
  refine z_ki (va_runV (As := []) (rest := []) hfix (zcX5_thrown l D cI H2 _ _ _ _ _ _ _ hM2) (cwV 0 hts gL_law_X5_thrown rfl rfl rfl (by decide +kernel) ⟨Nat.le_of_ble_eq_true rfl, Nat.le_of_ble_eq_true rfl⟩) (z_preV hK hKi hM2 (ci := 5) (q0 := 0) rfl rfl rfl) rfl rfl hl.1 rfl (lv_room (Nat.le_of_ble_eq_true rfl)) dL_law_230 ⟨by show cells + 1 + 0 + 0 ≤ 601024; omega, by show slots + 6 + 0 + 0 ≤ 7293033; omega⟩) ?_
  refine lv_iload hx hb dL_law_233 (lv_at hl 1 rfl) ?_
  refine lv_icmp_eq (tgt := 240) hx hb dL_law_235 (by decide) (fun c9 => ?_) (fun c9 => absurd rfl c9)
  refine lv_iload hx hb dL_law_240 (lv_at hl 1 rfl) ?_
  refine lv_if_ne (tgt := 257) hx hb dL_law_242 (by decide) (fun c9 => ?_) (fun c9 => absurd c9 (by decide))
  refine lv_goto (tgt := 1137) hx hb dL_law_257 (by decide) ?_
  refine W.widen (k := cells + 16) (n := slots + 214) (by omega) (by omega) ?_
  exact kk _ _ _ _ _ _ _ _ _ _ ⟨hC2, ⟨_, hO2⟩, ⟨_, _, hM2⟩, hI, hZ⟩ hS (lv_sub hl [2, 3, 4, 5, 6] rfl)
set_option maxHeartbeats 4000000 in
set_option maxRecDepth 100000 in
/-- zlv_raise_ok -/
theorem zlv_raise_ok {pg : Program} {l : Launch} {ev : Env} {s : State} {m : MethodId} {below : List Frame} {meth : Method} {cd : Code} {D : va_G} {cI cL cR : ClassId} {b0 L : Nat} {xs : Nat → Int32} {Q : State → Prop} {H : Heap} {b n : Nat} {me lo : Nat → Int32} {c e : Nat → Nat} {rd tk tn : Int32} {g : zG} {bf : Nat → Int32} {f : Nat → Int64} {i cells slots : Nat} {ls : Array Slot} (hfix : CallFix pg m cd cL_law 9 s #[.ref b0] wsL_law RL) (hK : va_K D vwCl [(cI, .int), (cL, .long), (cR, .array .int)] s) (hKw : zKw s) (hE : zE s.heap.size s) (hlt : l.stackTraces = false) (hX0 : va_X b0 L xs s s.heap) (hb0 : b0 < s.heap.size) (hbs : s.heap.size ≤ b) (hC : zCW D cI b n me lo c e rd tk g H) (hM : va_P D vwCl (zMo cI (b + 61) tn n (jf g me lo c) bf (zn e) (nm rd tk)) H) (hO : va_P D vwCl [(b + 66, .inl (cL, 1, .inr (.inl f)))] H) (hI : zI n me lo c e) (hZ : zJ n g) (hS : va_S (fun q => s.heap.size ≤ q) s.heap H []) (hi : i + 4 ≤ L) (hL : L ≤ 2048) (hcell : cells + 16 ≤ 601024) (hslot : slots + 214 ≤ 7293033) (hl : lv_has ls 9 [(4, .int (nI i)), (3, .ref (b + 66)), (2, .ref (b + 61)), (1, .ref b), (0, .ref b0)]) (kk : zLK pg l ev s m below meth cd D cI cL b0 Q b i cells slots) (p : Nat) (x : Nat) (hp : p < n) (hx1 : 1 ≤ x) (hx2 : x ≤ 5) (h1 : xs (i + 1) = (nI p)) (h2 : xs (i + 2) = (nI x)) : W pg l ev room_1 s m #[Value.ref b0] below meth cd H [] cells slots Q (F0 m 260 ls []) := by
  obtain ⟨hx, hb, hml, hown, hts⟩ := id hfix
  have hbA : ¬ (fun q : Nat => s.heap.size ≤ q) b0 := Nat.not_le.mpr hb0
  have hKi : va_K D vwCl [(cI, .int)] s := hK.sub [0] rfl
  have hKl : va_K D vwCl [(cI, .int), (cL, .long)] s := hK.sub [0, 1] rfl
  have hKq : va_K D vwCl [(cI, .int), (cR, .array .int)] s := hK.sub [0, 2] rfl
  have hsz := hS.1
  refine lv_aload_n hx hb dL_law_260 rfl (lv_at hl 3 rfl) ?_
  refine lv_aload_n hx hb dL_law_261 rfl (lv_at hl 4 rfl) ?_
  refine lv_iload hx hb dL_law_262 (lv_at hl 0 rfl) ?_
  refine lv_iconst (v := 1) hx hb dL_law_264 (by decide) ?_
  refine lv_iadd hx hb dL_law_265 ?_
  refine z_toi (y := nI (i + 1)) (nI_add i 1) ?_
  refine va_sld hx hb hX0 hb0 hbA hS (vp_in_nI (by omega) (by omega)) dL_law_266 ?_
  refine z_toi (y := (nI p)) (by rw [nI_clamp (by omega)]; exact h1) ?_
  refine lv_aload_n hx hb dL_law_267 rfl (lv_at hl 4 rfl) ?_
  refine lv_iload hx hb dL_law_268 (lv_at hl 0 rfl) ?_
  refine lv_iconst (v := 2) hx hb dL_law_270 (by decide) ?_
  refine lv_iadd hx hb dL_law_271 ?_
  refine z_toi (y := nI (i + 2)) (nI_add i 2) ?_
  refine va_sld hx hb hX0 hb0 hbA hS (vp_in_nI (by omega) (by omega)) dL_law_272 ?_
  refine z_toi (y := (nI x)) (by rw [nI_clamp (by omega)]; exact h2) ?_
  refine lv_aload_n hx hb dL_law_273 rfl (lv_at hl 1 rfl) ?_
  refine z_mi (vx_runSW (As := [.ref b, .int (nI p), .int (nI x), .ref (b + 66)]) (rest := []) hfix (zcL_raise_k l D cI cL H s.heap.size (b + 66) f b n me lo c e rd tk g p x hC hI hp hx1 hx2 hO (by omega)) (vx_cwSW 4 hts gL_law_L_raise rfl rfl rfl (by decide +kernel) ⟨Nat.le_of_ble_eq_true rfl, Nat.le_of_ble_eq_true rfl⟩) (z_xpreS hE (fun q h1 h2 => hS.2.1 q h1 h2) hKl) rfl rfl hl.1 rfl (lv_room (Nat.le_of_ble_eq_true rfl)) dL_law_274 ⟨by show cells + 0 ≤ 601024; omega, by show slots + 0 ≤ 7293033; omega⟩) hS (fun z _ h => by have h9 : zF b (b + 61) z ∨ @Eq Nat z (b + 66) := h; have h8 := hS.1; show s.heap.size ≤ z; simp only [zF] at h9; omega) (fun z h => by have h9 : zF b (b + 61) z ∨ @Eq Nat z (b + 66) := h; have h8 := hS.1; show s.heap.size ≤ z; simp only [zF] at h9; omega) (fun H1 lo1 hB hz1 hk1 hS => ?_)
  refine va_forget (fun q h => hS.2.2 q h) ?_
  have hS : va_S (fun q => s.heap.size ≤ q) s.heap H1 [] := ⟨hS.1, hS.2.1, fun z h => absurd h List.not_mem_nil⟩
  have hM1 := zMo_kept hM (fun z h1 h2 h3 => hk1 z h1 (fun h4 => by have h9 : zF b (b + 61) z ∨ @Eq Nat z (b + 66) := h4; simp only [zF] at h9; omega))
  have hC1 := hB.1
  have hO1 := hB.2.1
  refine lv_istore (lv' := [(5, .int 0), (4, .int (nI i)), (3, .ref (b + 66)), (2, .ref (b + 61)), (1, .ref b), (0, .ref b0)]) hx hb dL_law_277 hl (by decide) rfl (fun ls hl => ?_)
  refine lv_aload_n hx hb dL_law_279 rfl (lv_at hl 3 rfl) ?_
  refine lv_aload_n hx hb dL_law_280 rfl (lv_at hl 5 rfl) ?_
  refine lv_iload hx hb dL_law_281 (lv_at hl 1 rfl) ?_
  refine lv_iconst (v := 1) hx hb dL_law_283 (by decide) ?_
  refine lv_iadd hx hb dL_law_284 ?_
  refine z_toi (y := nI (i + 1)) (nI_add i 1) ?_
  refine va_sld hx hb hX0 hb0 hbA hS (vp_in_nI (by omega) (by omega)) dL_law_285 ?_
  refine z_toi (y := (nI p)) (by rw [nI_clamp (by omega)]; exact h1) ?_
  refine lv_aload_n hx hb dL_law_286 rfl (lv_at hl 5 rfl) ?_
  refine lv_iload hx hb dL_law_287 (lv_at hl 1 rfl) ?_
  refine lv_iconst (v := 2) hx hb dL_law_289 (by decide) ?_
  refine lv_iadd hx hb dL_law_290 ?_
  refine z_toi (y := nI (i + 2)) (nI_add i 2) ?_
  refine va_sld hx hb hX0 hb0 hbA hS (vp_in_nI (by omega) (by omega)) dL_law_291 ?_
  refine z_toi (y := (nI x)) (by rw [nI_clamp (by omega)]; exact h2) ?_
  refine z_mi (va_runV (As := [.int (nI p), .int (nI x)]) (rest := []) hfix (zcX5_raise_k l D cI H1 (b + 61) tn n g me lo c bf e rd tk p x hM1 hI hp hx1 hx2) (cwV 2 hts gL_law_X5_raise rfl rfl rfl (by decide +kernel) ⟨Nat.le_of_ble_eq_true rfl, Nat.le_of_ble_eq_true rfl⟩) (z_preV hK hKi hM1 (ci := 5) (q0 := 0) rfl rfl rfl) rfl rfl hl.1 rfl (lv_room (Nat.le_of_ble_eq_true rfl)) dL_law_292 ⟨by show cells + 0 + 0 ≤ 601024; omega, by show slots + 0 + 0 ≤ 7293033; omega⟩) hS (fun z _ h => by have h9 : zF (b + 61) (b + 61 + 5) z := h; have h8 := hS.1; show s.heap.size ≤ z; simp only [zF] at h9; omega) (fun z h => by have h9 : zF (b + 61) (b + 61 + 5) z := h; have h8 := hS.1; show s.heap.size ≤ z; simp only [zF] at h9; omega) (fun H2 lo2 hB hz2 hk2 hS => ?_)
  refine va_forget (fun q h => hS.2.2 q h) ?_
  have hS : va_S (fun q => s.heap.size ≤ q) s.heap H2 [] := ⟨hS.1, hS.2.1, fun z h => absurd h List.not_mem_nil⟩
  obtain ⟨hM2, hB9⟩ := hB
  have hC2 := zCW_kept hC1 (fun z h1 h2 h3 => hk2 z h1 (fun h4 => by have h9 : zF (b + 61) (b + 61 + 5) z := h4; simp only [zF] at h9; omega))
  have hO2 := zOb_kept hO1 (fun z h1 h2 h3 => hk2 z h1 (fun h4 => by have h9 : zF (b + 61) (b + 61 + 5) z := h4; simp only [zF] at h9; omega))
  refine lv_istore (lv' := [(6, .int (lo p)), (5, .int 0), (4, .int (nI i)), (3, .ref (b + 66)), (2, .ref (b + 61)), (1, .ref b), (0, .ref b0)]) hx hb dL_law_295 hl (by decide) rfl (fun ls hl => ?_)
  refine lv_aload_n hx hb dL_law_297 rfl (lv_at hl 4 rfl) ?_
  refine z_ki (va_runV (As := []) (rest := []) hfix (zcX5_thrown l D cI H2 _ _ _ _ _ _ _ hM2) (cwV 0 hts gL_law_X5_thrown rfl rfl rfl (by decide +kernel) ⟨Nat.le_of_ble_eq_true rfl, Nat.le_of_ble_eq_true rfl⟩) (z_preV hK hKi hM2 (ci := 5) (q0 := 0) rfl rfl rfl) rfl rfl hl.1 rfl (lv_room (Nat.le_of_ble_eq_true rfl)) dL_law_298 ⟨by show cells + 0 + 0 + 0 ≤ 601024; omega, by show slots + 0 + 0 + 0 ≤ 7293033; omega⟩) ?_
  refine lv_iload hx hb dL_law_301 (lv_at hl 1 rfl) ?_
  refine lv_icmp_eq (tgt := 308) hx hb dL_law_303 (by decide) (fun c9 => ?_) (fun c9 => absurd rfl c9)
  refine lv_iload hx hb dL_law_308 (lv_at hl 1 rfl) ?_
  refine lv_if_ne (tgt := 325) hx hb dL_law_310 (by decide) (fun c9 => absurd rfl c9) (fun c9 => ?_)
  refine lv_aload_n hx hb dL_law_313 rfl (lv_at hl 3 rfl) ?_
  refine lv_iconst (v := 0) hx hb dL_law_314 (by decide) ?_
  refine va_lald hx hb hK hO2 0 1 rfl rfl (vp_in_nI (n := 0) (by decide) (by decide)) dL_law_315 ?_
  refine z_tol (y := ((lo p)).toInt64) (by rfl) ?_
  refine lv_iload hx hb dL_law_316 (lv_at hl 0 rfl) ?_
  refine lv_i2l (v := ((lo p)).toInt64) hx hb dL_law_318 rfl ?_
  refine W.lcmp hx hb dL_law_319 ?_
  refine z_toi (y := 0) ((lg_cmp_eq _ _).mpr rfl) ?_
  refine lv_if_eq (tgt := 325) hx hb dL_law_320 (by decide) (fun c9 => ?_) (fun c9 => absurd rfl c9)
  refine lv_goto (tgt := 1137) hx hb dL_law_325 (by decide) ?_
  refine W.widen (k := cells + 16) (n := slots + 214) (by omega) (by omega) ?_
  exact kk _ _ _ _ _ _ _ _ _ _ ⟨hC2, ⟨_, hO2⟩, ⟨_, _, hM2⟩, zI_raise hI hx1 hx2, hZ⟩ hS (lv_sub hl [2, 3, 4, 5, 6] rfl)
set_option maxHeartbeats 4000000 in
set_option maxRecDepth 100000 in
/-- zlv_raise_b1 -/
theorem zlv_raise_b1 {pg : Program} {l : Launch} {ev : Env} {s : State} {m : MethodId} {below : List Frame} {meth : Method} {cd : Code} {D : va_G} {cI cL cR : ClassId} {b0 L : Nat} {xs : Nat → Int32} {Q : State → Prop} {H : Heap} {b n : Nat} {me lo : Nat → Int32} {c e : Nat → Nat} {rd tk tn : Int32} {g : zG} {bf : Nat → Int32} {f : Nat → Int64} {i cells slots : Nat} {ls : Array Slot} (hfix : CallFix pg m cd cL_law 9 s #[.ref b0] wsL_law RL) (hK : va_K D vwCl [(cI, .int), (cL, .long), (cR, .array .int)] s) (hKw : zKw s) (hE : zE s.heap.size s) (hlt : l.stackTraces = false) (hX0 : va_X b0 L xs s s.heap) (hb0 : b0 < s.heap.size) (hbs : s.heap.size ≤ b) (hC : zCW D cI b n me lo c e rd tk g H) (hM : va_P D vwCl (zMo cI (b + 61) tn n (jf g me lo c) bf (zn e) (nm rd tk)) H) (hO : va_P D vwCl [(b + 66, .inl (cL, 1, .inr (.inl f)))] H) (hI : zI n me lo c e) (hZ : zJ n g) (hS : va_S (fun q => s.heap.size ≤ q) s.heap H []) (hi : i + 4 ≤ L) (hL : L ≤ 2048) (hcell : cells + 16 ≤ 601024) (hslot : slots + 214 ≤ 7293033) (hl : lv_has ls 9 [(4, .int (nI i)), (3, .ref (b + 66)), (2, .ref (b + 61)), (1, .ref b), (0, .ref b0)]) (kk : zLK pg l ev s m below meth cd D cI cL b0 Q b i cells slots) (x : Int32) (y : Int32) (hx9 : ¬ ∃ j, j < n ∧ x = nI j) (h1 : xs (i + 1) = x) (h2 : xs (i + 2) = y) : W pg l ev room_1 s m #[Value.ref b0] below meth cd H [] cells slots Q (F0 m 260 ls []) := by
  obtain ⟨hx, hb, hml, hown, hts⟩ := id hfix
  have hbA : ¬ (fun q : Nat => s.heap.size ≤ q) b0 := Nat.not_le.mpr hb0
  have hKi : va_K D vwCl [(cI, .int)] s := hK.sub [0] rfl
  have hKl : va_K D vwCl [(cI, .int), (cL, .long)] s := hK.sub [0, 1] rfl
  have hKq : va_K D vwCl [(cI, .int), (cR, .array .int)] s := hK.sub [0, 2] rfl
  have hsz := hS.1
  refine lv_aload_n hx hb dL_law_260 rfl (lv_at hl 3 rfl) ?_
  refine lv_aload_n hx hb dL_law_261 rfl (lv_at hl 4 rfl) ?_
  refine lv_iload hx hb dL_law_262 (lv_at hl 0 rfl) ?_
  refine lv_iconst (v := 1) hx hb dL_law_264 (by decide) ?_
  refine lv_iadd hx hb dL_law_265 ?_
  refine z_toi (y := nI (i + 1)) (nI_add i 1) ?_
  refine va_sld hx hb hX0 hb0 hbA hS (vp_in_nI (by omega) (by omega)) dL_law_266 ?_
  refine z_toi (y := x) (by rw [nI_clamp (by omega)]; exact h1) ?_
  refine lv_aload_n hx hb dL_law_267 rfl (lv_at hl 4 rfl) ?_
  refine lv_iload hx hb dL_law_268 (lv_at hl 0 rfl) ?_
  refine lv_iconst (v := 2) hx hb dL_law_270 (by decide) ?_
  refine lv_iadd hx hb dL_law_271 ?_
  refine z_toi (y := nI (i + 2)) (nI_add i 2) ?_
  refine va_sld hx hb hX0 hb0 hbA hS (vp_in_nI (by omega) (by omega)) dL_law_272 ?_
  refine z_toi (y := y) (by rw [nI_clamp (by omega)]; exact h2) ?_
  refine lv_aload_n hx hb dL_law_273 rfl (lv_at hl 1 rfl) ?_
  refine z_mi (vx_runSW (As := [.ref b, .int x, .int y, .ref (b + 66)]) (rest := []) hfix (zcL_raise_b1 l D cI cL H s.heap.size (b + 66) hlt hS.1 b n me lo c e rd tk g x y hC hI hx9) (vx_cwSW 4 hts gL_law_L_raise rfl rfl rfl (by decide +kernel) ⟨Nat.le_of_ble_eq_true rfl, Nat.le_of_ble_eq_true rfl⟩) (z_xpreS hE (fun q h1 h2 => hS.2.1 q h1 h2) hKl) rfl rfl hl.1 rfl (lv_room (Nat.le_of_ble_eq_true rfl)) dL_law_274 ⟨by show cells + 1 ≤ 601024; omega, by show slots + 6 ≤ 7293033; omega⟩) hS (fun z _ h => by have h9 : H.size ≤ z := h; have h8 := hS.1; show s.heap.size ≤ z; omega) (fun z h => by have h9 : H.size ≤ z := h; have h8 := hS.1; show s.heap.size ≤ z; omega) (fun H1 lo1 hB hz1 hk1 hS => ?_)
  refine va_forget (fun q h => hS.2.2 q h) ?_
  have hS : va_S (fun q => s.heap.size ≤ q) s.heap H1 [] := ⟨hS.1, hS.2.1, fun z h => absurd h List.not_mem_nil⟩
  have hM1 := zMo_kept hM (fun z h1 h2 h3 => hk1 z h1 (fun h4 => by have h9 : H.size ≤ z := h4; omega))
  have hC1 := zCW_kept hC (fun z h1 h2 h3 => hk1 z h1 (fun h4 => by have h9 : H.size ≤ z := h4; omega))
  have hO1 := zOb_kept hO (fun z h1 h2 h3 => hk1 z h1 (fun h4 => by have h9 : H.size ≤ z := h4; omega))
  refine lv_istore (lv' := [(5, .int 1), (4, .int (nI i)), (3, .ref (b + 66)), (2, .ref (b + 61)), (1, .ref b), (0, .ref b0)]) hx hb dL_law_277 hl (by decide) rfl (fun ls hl => ?_)
  refine lv_aload_n hx hb dL_law_279 rfl (lv_at hl 3 rfl) ?_
  refine lv_aload_n hx hb dL_law_280 rfl (lv_at hl 5 rfl) ?_
  refine lv_iload hx hb dL_law_281 (lv_at hl 1 rfl) ?_
  refine lv_iconst (v := 1) hx hb dL_law_283 (by decide) ?_
  refine lv_iadd hx hb dL_law_284 ?_
  refine z_toi (y := nI (i + 1)) (nI_add i 1) ?_
  refine va_sld hx hb hX0 hb0 hbA hS (vp_in_nI (by omega) (by omega)) dL_law_285 ?_
  refine z_toi (y := x) (by rw [nI_clamp (by omega)]; exact h1) ?_
  refine lv_aload_n hx hb dL_law_286 rfl (lv_at hl 5 rfl) ?_
  refine lv_iload hx hb dL_law_287 (lv_at hl 1 rfl) ?_
  refine lv_iconst (v := 2) hx hb dL_law_289 (by decide) ?_
  refine lv_iadd hx hb dL_law_290 ?_
  refine z_toi (y := nI (i + 2)) (nI_add i 2) ?_
  refine va_sld hx hb hX0 hb0 hbA hS (vp_in_nI (by omega) (by omega)) dL_law_291 ?_
  refine z_toi (y := y) (by rw [nI_clamp (by omega)]; exact h2) ?_
  refine z_mi (va_runV (As := [.int x, .int y]) (rest := []) hfix (zcX5_raise_b1 l D cI H1 (b + 61) tn n g me lo c bf e rd tk x y hM1 hI hx9) (cwV 2 hts gL_law_X5_raise rfl rfl rfl (by decide +kernel) ⟨Nat.le_of_ble_eq_true rfl, Nat.le_of_ble_eq_true rfl⟩) (z_preV hK hKi hM1 (ci := 5) (q0 := 0) rfl rfl rfl) rfl rfl hl.1 rfl (lv_room (Nat.le_of_ble_eq_true rfl)) dL_law_292 ⟨by show cells + 1 + 0 ≤ 601024; omega, by show slots + 6 + 0 ≤ 7293033; omega⟩) hS (fun z _ h => by have h9 : zF (b + 61) (b + 61 + 5) z := h; have h8 := hS.1; show s.heap.size ≤ z; simp only [zF] at h9; omega) (fun z h => by have h9 : zF (b + 61) (b + 61 + 5) z := h; have h8 := hS.1; show s.heap.size ≤ z; simp only [zF] at h9; omega) (fun H2 lo2 hB hz2 hk2 hS => ?_)
  refine va_forget (fun q h => hS.2.2 q h) ?_
  have hS : va_S (fun q => s.heap.size ≤ q) s.heap H2 [] := ⟨hS.1, hS.2.1, fun z h => absurd h List.not_mem_nil⟩
  obtain ⟨hM2, hB9⟩ := hB
  have hC2 := zCW_kept hC1 (fun z h1 h2 h3 => hk2 z h1 (fun h4 => by have h9 : zF (b + 61) (b + 61 + 5) z := h4; simp only [zF] at h9; omega))
  have hO2 := zOb_kept hO1 (fun z h1 h2 h3 => hk2 z h1 (fun h4 => by have h9 : zF (b + 61) (b + 61 + 5) z := h4; simp only [zF] at h9; omega))
  refine lv_istore (lv' := [(6, .int 0), (5, .int 1), (4, .int (nI i)), (3, .ref (b + 66)), (2, .ref (b + 61)), (1, .ref b), (0, .ref b0)]) hx hb dL_law_295 hl (by decide) rfl (fun ls hl => ?_)
  refine lv_aload_n hx hb dL_law_297 rfl (lv_at hl 4 rfl) ?_
  refine z_ki (va_runV (As := []) (rest := []) hfix (zcX5_thrown l D cI H2 _ _ _ _ _ _ _ hM2) (cwV 0 hts gL_law_X5_thrown rfl rfl rfl (by decide +kernel) ⟨Nat.le_of_ble_eq_true rfl, Nat.le_of_ble_eq_true rfl⟩) (z_preV hK hKi hM2 (ci := 5) (q0 := 0) rfl rfl rfl) rfl rfl hl.1 rfl (lv_room (Nat.le_of_ble_eq_true rfl)) dL_law_298 ⟨by show cells + 1 + 0 + 0 ≤ 601024; omega, by show slots + 6 + 0 + 0 ≤ 7293033; omega⟩) ?_
  refine lv_iload hx hb dL_law_301 (lv_at hl 1 rfl) ?_
  refine lv_icmp_eq (tgt := 308) hx hb dL_law_303 (by decide) (fun c9 => ?_) (fun c9 => absurd rfl c9)
  refine lv_iload hx hb dL_law_308 (lv_at hl 1 rfl) ?_
  refine lv_if_ne (tgt := 325) hx hb dL_law_310 (by decide) (fun c9 => ?_) (fun c9 => absurd c9 (by decide))
  refine lv_goto (tgt := 1137) hx hb dL_law_325 (by decide) ?_
  refine W.widen (k := cells + 16) (n := slots + 214) (by omega) (by omega) ?_
  exact kk _ _ _ _ _ _ _ _ _ _ ⟨hC2, ⟨_, hO2⟩, ⟨_, _, hM2⟩, hI, hZ⟩ hS (lv_sub hl [2, 3, 4, 5, 6] rfl)
set_option maxHeartbeats 4000000 in
set_option maxRecDepth 100000 in
/-- zlv_raise_b2 -/
theorem zlv_raise_b2 {pg : Program} {l : Launch} {ev : Env} {s : State} {m : MethodId} {below : List Frame} {meth : Method} {cd : Code} {D : va_G} {cI cL cR : ClassId} {b0 L : Nat} {xs : Nat → Int32} {Q : State → Prop} {H : Heap} {b n : Nat} {me lo : Nat → Int32} {c e : Nat → Nat} {rd tk tn : Int32} {g : zG} {bf : Nat → Int32} {f : Nat → Int64} {i cells slots : Nat} {ls : Array Slot} (hfix : CallFix pg m cd cL_law 9 s #[.ref b0] wsL_law RL) (hK : va_K D vwCl [(cI, .int), (cL, .long), (cR, .array .int)] s) (hKw : zKw s) (hE : zE s.heap.size s) (hlt : l.stackTraces = false) (hX0 : va_X b0 L xs s s.heap) (hb0 : b0 < s.heap.size) (hbs : s.heap.size ≤ b) (hC : zCW D cI b n me lo c e rd tk g H) (hM : va_P D vwCl (zMo cI (b + 61) tn n (jf g me lo c) bf (zn e) (nm rd tk)) H) (hO : va_P D vwCl [(b + 66, .inl (cL, 1, .inr (.inl f)))] H) (hI : zI n me lo c e) (hZ : zJ n g) (hS : va_S (fun q => s.heap.size ≤ q) s.heap H []) (hi : i + 4 ≤ L) (hL : L ≤ 2048) (hcell : cells + 16 ≤ 601024) (hslot : slots + 214 ≤ 7293033) (hl : lv_has ls 9 [(4, .int (nI i)), (3, .ref (b + 66)), (2, .ref (b + 61)), (1, .ref b), (0, .ref b0)]) (kk : zLK pg l ev s m below meth cd D cI cL b0 Q b i cells slots) (p : Nat) (y : Int32) (hp : p < n) (hx9 : y < 1 ∨ ¬ y ≤ 5) (h1 : xs (i + 1) = (nI p)) (h2 : xs (i + 2) = y) : W pg l ev room_1 s m #[Value.ref b0] below meth cd H [] cells slots Q (F0 m 260 ls []) := by
  obtain ⟨hx, hb, hml, hown, hts⟩ := id hfix
  have hbA : ¬ (fun q : Nat => s.heap.size ≤ q) b0 := Nat.not_le.mpr hb0
  have hKi : va_K D vwCl [(cI, .int)] s := hK.sub [0] rfl
  have hKl : va_K D vwCl [(cI, .int), (cL, .long)] s := hK.sub [0, 1] rfl
  have hKq : va_K D vwCl [(cI, .int), (cR, .array .int)] s := hK.sub [0, 2] rfl
  have hsz := hS.1
  refine lv_aload_n hx hb dL_law_260 rfl (lv_at hl 3 rfl) ?_
  refine lv_aload_n hx hb dL_law_261 rfl (lv_at hl 4 rfl) ?_
  refine lv_iload hx hb dL_law_262 (lv_at hl 0 rfl) ?_
  refine lv_iconst (v := 1) hx hb dL_law_264 (by decide) ?_
  refine lv_iadd hx hb dL_law_265 ?_
  refine z_toi (y := nI (i + 1)) (nI_add i 1) ?_
  refine va_sld hx hb hX0 hb0 hbA hS (vp_in_nI (by omega) (by omega)) dL_law_266 ?_
  refine z_toi (y := (nI p)) (by rw [nI_clamp (by omega)]; exact h1) ?_
  refine lv_aload_n hx hb dL_law_267 rfl (lv_at hl 4 rfl) ?_
  refine lv_iload hx hb dL_law_268 (lv_at hl 0 rfl) ?_
  refine lv_iconst (v := 2) hx hb dL_law_270 (by decide) ?_
  refine lv_iadd hx hb dL_law_271 ?_
  refine z_toi (y := nI (i + 2)) (nI_add i 2) ?_
  refine va_sld hx hb hX0 hb0 hbA hS (vp_in_nI (by omega) (by omega)) dL_law_272 ?_
  refine z_toi (y := y) (by rw [nI_clamp (by omega)]; exact h2) ?_
  refine lv_aload_n hx hb dL_law_273 rfl (lv_at hl 1 rfl) ?_
  refine z_mi (vx_runSW (As := [.ref b, .int (nI p), .int y, .ref (b + 66)]) (rest := []) hfix (zcL_raise_b2 l D cI cL H s.heap.size (b + 66) hlt hS.1 b n me lo c e rd tk g p y hC hI hp hx9) (vx_cwSW 4 hts gL_law_L_raise rfl rfl rfl (by decide +kernel) ⟨Nat.le_of_ble_eq_true rfl, Nat.le_of_ble_eq_true rfl⟩) (z_xpreS hE (fun q h1 h2 => hS.2.1 q h1 h2) hKl) rfl rfl hl.1 rfl (lv_room (Nat.le_of_ble_eq_true rfl)) dL_law_274 ⟨by show cells + 1 ≤ 601024; omega, by show slots + 6 ≤ 7293033; omega⟩) hS (fun z _ h => by have h9 : H.size ≤ z := h; have h8 := hS.1; show s.heap.size ≤ z; omega) (fun z h => by have h9 : H.size ≤ z := h; have h8 := hS.1; show s.heap.size ≤ z; omega) (fun H1 lo1 hB hz1 hk1 hS => ?_)
  refine va_forget (fun q h => hS.2.2 q h) ?_
  have hS : va_S (fun q => s.heap.size ≤ q) s.heap H1 [] := ⟨hS.1, hS.2.1, fun z h => absurd h List.not_mem_nil⟩
  have hM1 := zMo_kept hM (fun z h1 h2 h3 => hk1 z h1 (fun h4 => by have h9 : H.size ≤ z := h4; omega))
  have hC1 := zCW_kept hC (fun z h1 h2 h3 => hk1 z h1 (fun h4 => by have h9 : H.size ≤ z := h4; omega))
  have hO1 := zOb_kept hO (fun z h1 h2 h3 => hk1 z h1 (fun h4 => by have h9 : H.size ≤ z := h4; omega))
  refine lv_istore (lv' := [(5, .int 2), (4, .int (nI i)), (3, .ref (b + 66)), (2, .ref (b + 61)), (1, .ref b), (0, .ref b0)]) hx hb dL_law_277 hl (by decide) rfl (fun ls hl => ?_)
  refine lv_aload_n hx hb dL_law_279 rfl (lv_at hl 3 rfl) ?_
  refine lv_aload_n hx hb dL_law_280 rfl (lv_at hl 5 rfl) ?_
  refine lv_iload hx hb dL_law_281 (lv_at hl 1 rfl) ?_
  refine lv_iconst (v := 1) hx hb dL_law_283 (by decide) ?_
  refine lv_iadd hx hb dL_law_284 ?_
  refine z_toi (y := nI (i + 1)) (nI_add i 1) ?_
  refine va_sld hx hb hX0 hb0 hbA hS (vp_in_nI (by omega) (by omega)) dL_law_285 ?_
  refine z_toi (y := (nI p)) (by rw [nI_clamp (by omega)]; exact h1) ?_
  refine lv_aload_n hx hb dL_law_286 rfl (lv_at hl 5 rfl) ?_
  refine lv_iload hx hb dL_law_287 (lv_at hl 1 rfl) ?_
  refine lv_iconst (v := 2) hx hb dL_law_289 (by decide) ?_
  refine lv_iadd hx hb dL_law_290 ?_
  refine z_toi (y := nI (i + 2)) (nI_add i 2) ?_
  refine va_sld hx hb hX0 hb0 hbA hS (vp_in_nI (by omega) (by omega)) dL_law_291 ?_
  refine z_toi (y := y) (by rw [nI_clamp (by omega)]; exact h2) ?_
  refine z_mi (va_runV (As := [.int (nI p), .int y]) (rest := []) hfix (zcX5_raise_b2 l D cI H1 (b + 61) tn n g me lo c bf e rd tk p y hM1 hI hp hx9) (cwV 2 hts gL_law_X5_raise rfl rfl rfl (by decide +kernel) ⟨Nat.le_of_ble_eq_true rfl, Nat.le_of_ble_eq_true rfl⟩) (z_preV hK hKi hM1 (ci := 5) (q0 := 0) rfl rfl rfl) rfl rfl hl.1 rfl (lv_room (Nat.le_of_ble_eq_true rfl)) dL_law_292 ⟨by show cells + 1 + 0 ≤ 601024; omega, by show slots + 6 + 0 ≤ 7293033; omega⟩) hS (fun z _ h => by have h9 : zF (b + 61) (b + 61 + 5) z := h; have h8 := hS.1; show s.heap.size ≤ z; simp only [zF] at h9; omega) (fun z h => by have h9 : zF (b + 61) (b + 61 + 5) z := h; have h8 := hS.1; show s.heap.size ≤ z; simp only [zF] at h9; omega) (fun H2 lo2 hB hz2 hk2 hS => ?_)
  refine va_forget (fun q h => hS.2.2 q h) ?_
  have hS : va_S (fun q => s.heap.size ≤ q) s.heap H2 [] := ⟨hS.1, hS.2.1, fun z h => absurd h List.not_mem_nil⟩
  obtain ⟨hM2, hB9⟩ := hB
  have hC2 := zCW_kept hC1 (fun z h1 h2 h3 => hk2 z h1 (fun h4 => by have h9 : zF (b + 61) (b + 61 + 5) z := h4; simp only [zF] at h9; omega))
  have hO2 := zOb_kept hO1 (fun z h1 h2 h3 => hk2 z h1 (fun h4 => by have h9 : zF (b + 61) (b + 61 + 5) z := h4; simp only [zF] at h9; omega))
  refine lv_istore (lv' := [(6, .int 0), (5, .int 2), (4, .int (nI i)), (3, .ref (b + 66)), (2, .ref (b + 61)), (1, .ref b), (0, .ref b0)]) hx hb dL_law_295 hl (by decide) rfl (fun ls hl => ?_)
  refine lv_aload_n hx hb dL_law_297 rfl (lv_at hl 4 rfl) ?_
  refine z_ki (va_runV (As := []) (rest := []) hfix (zcX5_thrown l D cI H2 _ _ _ _ _ _ _ hM2) (cwV 0 hts gL_law_X5_thrown rfl rfl rfl (by decide +kernel) ⟨Nat.le_of_ble_eq_true rfl, Nat.le_of_ble_eq_true rfl⟩) (z_preV hK hKi hM2 (ci := 5) (q0 := 0) rfl rfl rfl) rfl rfl hl.1 rfl (lv_room (Nat.le_of_ble_eq_true rfl)) dL_law_298 ⟨by show cells + 1 + 0 + 0 ≤ 601024; omega, by show slots + 6 + 0 + 0 ≤ 7293033; omega⟩) ?_
  refine lv_iload hx hb dL_law_301 (lv_at hl 1 rfl) ?_
  refine lv_icmp_eq (tgt := 308) hx hb dL_law_303 (by decide) (fun c9 => ?_) (fun c9 => absurd rfl c9)
  refine lv_iload hx hb dL_law_308 (lv_at hl 1 rfl) ?_
  refine lv_if_ne (tgt := 325) hx hb dL_law_310 (by decide) (fun c9 => ?_) (fun c9 => absurd c9 (by decide))
  refine lv_goto (tgt := 1137) hx hb dL_law_325 (by decide) ?_
  refine W.widen (k := cells + 16) (n := slots + 214) (by omega) (by omega) ?_
  exact kk _ _ _ _ _ _ _ _ _ _ ⟨hC2, ⟨_, hO2⟩, ⟨_, _, hM2⟩, hI, hZ⟩ hS (lv_sub hl [2, 3, 4, 5, 6] rfl)
set_option maxHeartbeats 4000000 in
set_option maxRecDepth 100000 in
/-- zlv_whisper_ok -/
theorem zlv_whisper_ok {pg : Program} {l : Launch} {ev : Env} {s : State} {m : MethodId} {below : List Frame} {meth : Method} {cd : Code} {D : va_G} {cI cL cR : ClassId} {b0 L : Nat} {xs : Nat → Int32} {Q : State → Prop} {H : Heap} {b n : Nat} {me lo : Nat → Int32} {c e : Nat → Nat} {rd tk tn : Int32} {g : zG} {bf : Nat → Int32} {f : Nat → Int64} {i cells slots : Nat} {ls : Array Slot} (hfix : CallFix pg m cd cL_law 9 s #[.ref b0] wsL_law RL) (hK : va_K D vwCl [(cI, .int), (cL, .long), (cR, .array .int)] s) (hKw : zKw s) (hE : zE s.heap.size s) (hlt : l.stackTraces = false) (hX0 : va_X b0 L xs s s.heap) (hb0 : b0 < s.heap.size) (hbs : s.heap.size ≤ b) (hC : zCW D cI b n me lo c e rd tk g H) (hM : va_P D vwCl (zMo cI (b + 61) tn n (jf g me lo c) bf (zn e) (nm rd tk)) H) (hO : va_P D vwCl [(b + 66, .inl (cL, 1, .inr (.inl f)))] H) (hI : zI n me lo c e) (hZ : zJ n g) (hS : va_S (fun q => s.heap.size ≤ q) s.heap H []) (hi : i + 4 ≤ L) (hL : L ≤ 2048) (hcell : cells + 16 ≤ 601024) (hslot : slots + 214 ≤ 7293033) (hl : lv_has ls 9 [(4, .int (nI i)), (3, .ref (b + 66)), (2, .ref (b + 61)), (1, .ref b), (0, .ref b0)]) (kk : zLK pg l ev s m below meth cd D cI cL b0 Q b i cells slots) (p : Nat) (w : Nat) (z : Nat) (hp : p < n) (hw : w ≤ 9999) (hz9 : z ≤ 9) (h1 : xs (i + 1) = (nI p)) (h2 : xs (i + 2) = (nI w)) (h3 : xs (i + 3) = (nI z)) : W pg l ev room_1 s m #[Value.ref b0] below meth cd H [] cells slots Q (F0 m 328 ls []) := by
  obtain ⟨hx, hb, hml, hown, hts⟩ := id hfix
  have hbA : ¬ (fun q : Nat => s.heap.size ≤ q) b0 := Nat.not_le.mpr hb0
  have hKi : va_K D vwCl [(cI, .int)] s := hK.sub [0] rfl
  have hKl : va_K D vwCl [(cI, .int), (cL, .long)] s := hK.sub [0, 1] rfl
  have hKq : va_K D vwCl [(cI, .int), (cR, .array .int)] s := hK.sub [0, 2] rfl
  have hsz := hS.1
  refine lv_aload_n hx hb dL_law_328 rfl (lv_at hl 3 rfl) ?_
  refine lv_aload_n hx hb dL_law_329 rfl (lv_at hl 4 rfl) ?_
  refine lv_iload hx hb dL_law_330 (lv_at hl 0 rfl) ?_
  refine lv_iconst (v := 1) hx hb dL_law_332 (by decide) ?_
  refine lv_iadd hx hb dL_law_333 ?_
  refine z_toi (y := nI (i + 1)) (nI_add i 1) ?_
  refine va_sld hx hb hX0 hb0 hbA hS (vp_in_nI (by omega) (by omega)) dL_law_334 ?_
  refine z_toi (y := (nI p)) (by rw [nI_clamp (by omega)]; exact h1) ?_
  refine lv_aload_n hx hb dL_law_335 rfl (lv_at hl 4 rfl) ?_
  refine lv_iload hx hb dL_law_336 (lv_at hl 0 rfl) ?_
  refine lv_iconst (v := 2) hx hb dL_law_338 (by decide) ?_
  refine lv_iadd hx hb dL_law_339 ?_
  refine z_toi (y := nI (i + 2)) (nI_add i 2) ?_
  refine va_sld hx hb hX0 hb0 hbA hS (vp_in_nI (by omega) (by omega)) dL_law_340 ?_
  refine z_toi (y := (nI w)) (by rw [nI_clamp (by omega)]; exact h2) ?_
  refine lv_aload_n hx hb dL_law_341 rfl (lv_at hl 4 rfl) ?_
  refine lv_iload hx hb dL_law_342 (lv_at hl 0 rfl) ?_
  refine lv_iconst (v := 3) hx hb dL_law_344 (by decide) ?_
  refine lv_iadd hx hb dL_law_345 ?_
  refine z_toi (y := nI (i + 3)) (nI_add i 3) ?_
  refine va_sld hx hb hX0 hb0 hbA hS (vp_in_nI (by omega) (by omega)) dL_law_346 ?_
  refine z_toi (y := (nI z)) (by rw [nI_clamp (by omega)]; exact h3) ?_
  refine lv_aload_n hx hb dL_law_347 rfl (lv_at hl 1 rfl) ?_
  refine z_mi (vx_runSW (As := [.ref b, .int (nI p), .int (nI w), .int (nI z), .ref (b + 66)]) (rest := []) hfix (zcL_whisper_k l D cI cL H s.heap.size (b + 66) f b n me lo c e rd tk g p w z hC hI hp hw hz9 hO (by omega)) (vx_cwSW 5 hts gL_law_L_whisper rfl rfl rfl (by decide +kernel) ⟨Nat.le_of_ble_eq_true rfl, Nat.le_of_ble_eq_true rfl⟩) (z_xpreS hE (fun q h1 h2 => hS.2.1 q h1 h2) hKl) rfl rfl hl.1 rfl (lv_room (Nat.le_of_ble_eq_true rfl)) dL_law_348 ⟨by show cells + 0 ≤ 601024; omega, by show slots + 0 ≤ 7293033; omega⟩) hS (fun z _ h => by have h9 : zF b (b + 61) z ∨ @Eq Nat z (b + 66) := h; have h8 := hS.1; show s.heap.size ≤ z; simp only [zF] at h9; omega) (fun z h => by have h9 : zF b (b + 61) z ∨ @Eq Nat z (b + 66) := h; have h8 := hS.1; show s.heap.size ≤ z; simp only [zF] at h9; omega) (fun H1 lo1 hB hz1 hk1 hS => ?_)
  refine va_forget (fun q h => hS.2.2 q h) ?_
  have hS : va_S (fun q => s.heap.size ≤ q) s.heap H1 [] := ⟨hS.1, hS.2.1, fun z h => absurd h List.not_mem_nil⟩
  have hM1 := zMo_kept hM (fun z h1 h2 h3 => hk1 z h1 (fun h4 => by have h9 : zF b (b + 61) z ∨ @Eq Nat z (b + 66) := h4; simp only [zF] at h9; omega))
  have hC1 := hB.1
  have hO1 := hB.2.1
  refine lv_istore (lv' := [(5, .int 0), (4, .int (nI i)), (3, .ref (b + 66)), (2, .ref (b + 61)), (1, .ref b), (0, .ref b0)]) hx hb dL_law_351 hl (by decide) rfl (fun ls hl => ?_)
  refine lv_aload_n hx hb dL_law_353 rfl (lv_at hl 3 rfl) ?_
  refine lv_aload_n hx hb dL_law_354 rfl (lv_at hl 5 rfl) ?_
  refine lv_iload hx hb dL_law_355 (lv_at hl 1 rfl) ?_
  refine lv_iconst (v := 1) hx hb dL_law_357 (by decide) ?_
  refine lv_iadd hx hb dL_law_358 ?_
  refine z_toi (y := nI (i + 1)) (nI_add i 1) ?_
  refine va_sld hx hb hX0 hb0 hbA hS (vp_in_nI (by omega) (by omega)) dL_law_359 ?_
  refine z_toi (y := (nI p)) (by rw [nI_clamp (by omega)]; exact h1) ?_
  refine lv_aload_n hx hb dL_law_360 rfl (lv_at hl 5 rfl) ?_
  refine lv_iload hx hb dL_law_361 (lv_at hl 1 rfl) ?_
  refine lv_iconst (v := 2) hx hb dL_law_363 (by decide) ?_
  refine lv_iadd hx hb dL_law_364 ?_
  refine z_toi (y := nI (i + 2)) (nI_add i 2) ?_
  refine va_sld hx hb hX0 hb0 hbA hS (vp_in_nI (by omega) (by omega)) dL_law_365 ?_
  refine z_toi (y := (nI w)) (by rw [nI_clamp (by omega)]; exact h2) ?_
  refine lv_aload_n hx hb dL_law_366 rfl (lv_at hl 5 rfl) ?_
  refine lv_iload hx hb dL_law_367 (lv_at hl 1 rfl) ?_
  refine lv_iconst (v := 3) hx hb dL_law_369 (by decide) ?_
  refine lv_iadd hx hb dL_law_370 ?_
  refine z_toi (y := nI (i + 3)) (nI_add i 3) ?_
  refine va_sld hx hb hX0 hb0 hbA hS (vp_in_nI (by omega) (by omega)) dL_law_371 ?_
  refine z_toi (y := (nI z)) (by rw [nI_clamp (by omega)]; exact h3) ?_
  refine z_mi (va_runV (As := [.int (nI p), .int (nI w), .int (nI z)]) (rest := []) hfix (zcX5_whisper_k l D cI H1 (b + 61) tn n g me lo c bf e rd tk p w z hM1 hI hp hw hz9) (cwV 3 hts gL_law_X5_whisper rfl rfl rfl (by decide +kernel) ⟨Nat.le_of_ble_eq_true rfl, Nat.le_of_ble_eq_true rfl⟩) (z_preV hK hKi hM1 (ci := 5) (q0 := 0) rfl rfl rfl) rfl rfl hl.1 rfl (lv_room (Nat.le_of_ble_eq_true rfl)) dL_law_372 ⟨by show cells + 0 + 1 ≤ 601024; omega, by show slots + 0 + 7 ≤ 7293033; omega⟩) hS (fun z _ h => by have h9 : zF (b + 61) (b + 61 + 5) z ∨ H1.size ≤ z := h; have h8 := hS.1; show s.heap.size ≤ z; simp only [zF] at h9; omega) (fun z h => by have h9 : zF (b + 61) (b + 61 + 5) z ∨ H1.size ≤ z := h; have h8 := hS.1; show s.heap.size ≤ z; simp only [zF] at h9; omega) (fun H2 lo2 hB hz2 hk2 hS => ?_)
  refine va_forget (fun q h => hS.2.2 q h) ?_
  have hS : va_S (fun q => s.heap.size ≤ q) s.heap H2 [] := ⟨hS.1, hS.2.1, fun z h => absurd h List.not_mem_nil⟩
  obtain ⟨hM2, hB9⟩ := hB
  have hC2 := zCW_kept hC1 (fun z h1 h2 h3 => hk2 z h1 (fun h4 => by have h9 : zF (b + 61) (b + 61 + 5) z ∨ H1.size ≤ z := h4; simp only [zF] at h9; omega))
  have hO2 := zOb_kept hO1 (fun z h1 h2 h3 => hk2 z h1 (fun h4 => by have h9 : zF (b + 61) (b + 61 + 5) z ∨ H1.size ≤ z := h4; simp only [zF] at h9; omega))
  refine lv_istore (lv' := [(6, .int (wd g p)), (5, .int 0), (4, .int (nI i)), (3, .ref (b + 66)), (2, .ref (b + 61)), (1, .ref b), (0, .ref b0)]) hx hb dL_law_375 hl (by decide) rfl (fun ls hl => ?_)
  refine lv_aload_n hx hb dL_law_377 rfl (lv_at hl 4 rfl) ?_
  refine z_ki (va_runV (As := []) (rest := []) hfix (zcX5_thrown l D cI H2 _ _ _ _ _ _ _ hM2) (cwV 0 hts gL_law_X5_thrown rfl rfl rfl (by decide +kernel) ⟨Nat.le_of_ble_eq_true rfl, Nat.le_of_ble_eq_true rfl⟩) (z_preV hK hKi hM2 (ci := 5) (q0 := 0) rfl rfl rfl) rfl rfl hl.1 rfl (lv_room (Nat.le_of_ble_eq_true rfl)) dL_law_378 ⟨by show cells + 0 + 1 + 0 ≤ 601024; omega, by show slots + 0 + 7 + 0 ≤ 7293033; omega⟩) ?_
  refine lv_iload hx hb dL_law_381 (lv_at hl 1 rfl) ?_
  refine lv_icmp_eq (tgt := 388) hx hb dL_law_383 (by decide) (fun c9 => ?_) (fun c9 => absurd rfl c9)
  refine lv_iload hx hb dL_law_388 (lv_at hl 1 rfl) ?_
  refine lv_if_ne (tgt := 405) hx hb dL_law_390 (by decide) (fun c9 => absurd rfl c9) (fun c9 => ?_)
  refine lv_aload_n hx hb dL_law_393 rfl (lv_at hl 3 rfl) ?_
  refine lv_iconst (v := 0) hx hb dL_law_394 (by decide) ?_
  refine va_lald hx hb hK hO2 0 1 rfl rfl (vp_in_nI (n := 0) (by decide) (by decide)) dL_law_395 ?_
  refine z_tol (y := ((wd g p)).toInt64) (by rfl) ?_
  refine lv_iload hx hb dL_law_396 (lv_at hl 0 rfl) ?_
  refine lv_i2l (v := ((wd g p)).toInt64) hx hb dL_law_398 rfl ?_
  refine W.lcmp hx hb dL_law_399 ?_
  refine z_toi (y := 0) ((lg_cmp_eq _ _).mpr rfl) ?_
  refine lv_if_eq (tgt := 405) hx hb dL_law_400 (by decide) (fun c9 => ?_) (fun c9 => absurd rfl c9)
  refine lv_goto (tgt := 1137) hx hb dL_law_405 (by decide) ?_
  refine W.widen (k := cells + 16) (n := slots + 214) (by omega) (by omega) ?_
  exact kk _ _ _ _ _ _ _ _ _ _ ⟨hC2, ⟨_, hO2⟩, ⟨_, _, hM2⟩, hI, zJ_wh hZ hw hz9⟩ hS (lv_sub hl [2, 3, 4, 5, 6] rfl)
set_option maxHeartbeats 4000000 in
set_option maxRecDepth 100000 in
/-- zlv_whisper_b1 -/
theorem zlv_whisper_b1 {pg : Program} {l : Launch} {ev : Env} {s : State} {m : MethodId} {below : List Frame} {meth : Method} {cd : Code} {D : va_G} {cI cL cR : ClassId} {b0 L : Nat} {xs : Nat → Int32} {Q : State → Prop} {H : Heap} {b n : Nat} {me lo : Nat → Int32} {c e : Nat → Nat} {rd tk tn : Int32} {g : zG} {bf : Nat → Int32} {f : Nat → Int64} {i cells slots : Nat} {ls : Array Slot} (hfix : CallFix pg m cd cL_law 9 s #[.ref b0] wsL_law RL) (hK : va_K D vwCl [(cI, .int), (cL, .long), (cR, .array .int)] s) (hKw : zKw s) (hE : zE s.heap.size s) (hlt : l.stackTraces = false) (hX0 : va_X b0 L xs s s.heap) (hb0 : b0 < s.heap.size) (hbs : s.heap.size ≤ b) (hC : zCW D cI b n me lo c e rd tk g H) (hM : va_P D vwCl (zMo cI (b + 61) tn n (jf g me lo c) bf (zn e) (nm rd tk)) H) (hO : va_P D vwCl [(b + 66, .inl (cL, 1, .inr (.inl f)))] H) (hI : zI n me lo c e) (hZ : zJ n g) (hS : va_S (fun q => s.heap.size ≤ q) s.heap H []) (hi : i + 4 ≤ L) (hL : L ≤ 2048) (hcell : cells + 16 ≤ 601024) (hslot : slots + 214 ≤ 7293033) (hl : lv_has ls 9 [(4, .int (nI i)), (3, .ref (b + 66)), (2, .ref (b + 61)), (1, .ref b), (0, .ref b0)]) (kk : zLK pg l ev s m below meth cd D cI cL b0 Q b i cells slots) (x : Int32) (y : Int32) (z : Int32) (hx9 : ¬ ∃ j, j < n ∧ x = nI j) (h1 : xs (i + 1) = x) (h2 : xs (i + 2) = y) (h3 : xs (i + 3) = z) : W pg l ev room_1 s m #[Value.ref b0] below meth cd H [] cells slots Q (F0 m 328 ls []) := by
  obtain ⟨hx, hb, hml, hown, hts⟩ := id hfix
  have hbA : ¬ (fun q : Nat => s.heap.size ≤ q) b0 := Nat.not_le.mpr hb0
  have hKi : va_K D vwCl [(cI, .int)] s := hK.sub [0] rfl
  have hKl : va_K D vwCl [(cI, .int), (cL, .long)] s := hK.sub [0, 1] rfl
  have hKq : va_K D vwCl [(cI, .int), (cR, .array .int)] s := hK.sub [0, 2] rfl
  have hsz := hS.1
  refine lv_aload_n hx hb dL_law_328 rfl (lv_at hl 3 rfl) ?_
  refine lv_aload_n hx hb dL_law_329 rfl (lv_at hl 4 rfl) ?_
  refine lv_iload hx hb dL_law_330 (lv_at hl 0 rfl) ?_
  refine lv_iconst (v := 1) hx hb dL_law_332 (by decide) ?_
  refine lv_iadd hx hb dL_law_333 ?_
  refine z_toi (y := nI (i + 1)) (nI_add i 1) ?_
  refine va_sld hx hb hX0 hb0 hbA hS (vp_in_nI (by omega) (by omega)) dL_law_334 ?_
  refine z_toi (y := x) (by rw [nI_clamp (by omega)]; exact h1) ?_
  refine lv_aload_n hx hb dL_law_335 rfl (lv_at hl 4 rfl) ?_
  refine lv_iload hx hb dL_law_336 (lv_at hl 0 rfl) ?_
  refine lv_iconst (v := 2) hx hb dL_law_338 (by decide) ?_
  refine lv_iadd hx hb dL_law_339 ?_
  refine z_toi (y := nI (i + 2)) (nI_add i 2) ?_
  refine va_sld hx hb hX0 hb0 hbA hS (vp_in_nI (by omega) (by omega)) dL_law_340 ?_
  refine z_toi (y := y) (by rw [nI_clamp (by omega)]; exact h2) ?_
  refine lv_aload_n hx hb dL_law_341 rfl (lv_at hl 4 rfl) ?_
  refine lv_iload hx hb dL_law_342 (lv_at hl 0 rfl) ?_
  refine lv_iconst (v := 3) hx hb dL_law_344 (by decide) ?_
  refine lv_iadd hx hb dL_law_345 ?_
  refine z_toi (y := nI (i + 3)) (nI_add i 3) ?_
  refine va_sld hx hb hX0 hb0 hbA hS (vp_in_nI (by omega) (by omega)) dL_law_346 ?_
  refine z_toi (y := z) (by rw [nI_clamp (by omega)]; exact h3) ?_
  refine lv_aload_n hx hb dL_law_347 rfl (lv_at hl 1 rfl) ?_
  refine z_mi (vx_runSW (As := [.ref b, .int x, .int y, .int z, .ref (b + 66)]) (rest := []) hfix (zcL_whisper_b1 l D cI cL H s.heap.size (b + 66) hlt hS.1 b n me lo c e rd tk g x y z hC hI hx9) (vx_cwSW 5 hts gL_law_L_whisper rfl rfl rfl (by decide +kernel) ⟨Nat.le_of_ble_eq_true rfl, Nat.le_of_ble_eq_true rfl⟩) (z_xpreS hE (fun q h1 h2 => hS.2.1 q h1 h2) hKl) rfl rfl hl.1 rfl (lv_room (Nat.le_of_ble_eq_true rfl)) dL_law_348 ⟨by show cells + 1 ≤ 601024; omega, by show slots + 6 ≤ 7293033; omega⟩) hS (fun z _ h => by have h9 : H.size ≤ z := h; have h8 := hS.1; show s.heap.size ≤ z; omega) (fun z h => by have h9 : H.size ≤ z := h; have h8 := hS.1; show s.heap.size ≤ z; omega) (fun H1 lo1 hB hz1 hk1 hS => ?_)
  refine va_forget (fun q h => hS.2.2 q h) ?_
  have hS : va_S (fun q => s.heap.size ≤ q) s.heap H1 [] := ⟨hS.1, hS.2.1, fun z h => absurd h List.not_mem_nil⟩
  have hM1 := zMo_kept hM (fun z h1 h2 h3 => hk1 z h1 (fun h4 => by have h9 : H.size ≤ z := h4; omega))
  have hC1 := zCW_kept hC (fun z h1 h2 h3 => hk1 z h1 (fun h4 => by have h9 : H.size ≤ z := h4; omega))
  have hO1 := zOb_kept hO (fun z h1 h2 h3 => hk1 z h1 (fun h4 => by have h9 : H.size ≤ z := h4; omega))
  refine lv_istore (lv' := [(5, .int 1), (4, .int (nI i)), (3, .ref (b + 66)), (2, .ref (b + 61)), (1, .ref b), (0, .ref b0)]) hx hb dL_law_351 hl (by decide) rfl (fun ls hl => ?_)
  refine lv_aload_n hx hb dL_law_353 rfl (lv_at hl 3 rfl) ?_
  refine lv_aload_n hx hb dL_law_354 rfl (lv_at hl 5 rfl) ?_
  refine lv_iload hx hb dL_law_355 (lv_at hl 1 rfl) ?_
  refine lv_iconst (v := 1) hx hb dL_law_357 (by decide) ?_
  refine lv_iadd hx hb dL_law_358 ?_
  refine z_toi (y := nI (i + 1)) (nI_add i 1) ?_
  refine va_sld hx hb hX0 hb0 hbA hS (vp_in_nI (by omega) (by omega)) dL_law_359 ?_
  refine z_toi (y := x) (by rw [nI_clamp (by omega)]; exact h1) ?_
  refine lv_aload_n hx hb dL_law_360 rfl (lv_at hl 5 rfl) ?_
  refine lv_iload hx hb dL_law_361 (lv_at hl 1 rfl) ?_
  refine lv_iconst (v := 2) hx hb dL_law_363 (by decide) ?_
  refine lv_iadd hx hb dL_law_364 ?_
  refine z_toi (y := nI (i + 2)) (nI_add i 2) ?_
  refine va_sld hx hb hX0 hb0 hbA hS (vp_in_nI (by omega) (by omega)) dL_law_365 ?_
  refine z_toi (y := y) (by rw [nI_clamp (by omega)]; exact h2) ?_
  refine lv_aload_n hx hb dL_law_366 rfl (lv_at hl 5 rfl) ?_
  refine lv_iload hx hb dL_law_367 (lv_at hl 1 rfl) ?_
  refine lv_iconst (v := 3) hx hb dL_law_369 (by decide) ?_
  refine lv_iadd hx hb dL_law_370 ?_
  refine z_toi (y := nI (i + 3)) (nI_add i 3) ?_
  refine va_sld hx hb hX0 hb0 hbA hS (vp_in_nI (by omega) (by omega)) dL_law_371 ?_
  refine z_toi (y := z) (by rw [nI_clamp (by omega)]; exact h3) ?_
  refine z_mi (va_runV (As := [.int x, .int y, .int z]) (rest := []) hfix (zcX5_whisper_b1 l D cI H1 (b + 61) tn n g me lo c bf e rd tk x y z hM1 hI hx9) (cwV 3 hts gL_law_X5_whisper rfl rfl rfl (by decide +kernel) ⟨Nat.le_of_ble_eq_true rfl, Nat.le_of_ble_eq_true rfl⟩) (z_preV hK hKi hM1 (ci := 5) (q0 := 0) rfl rfl rfl) rfl rfl hl.1 rfl (lv_room (Nat.le_of_ble_eq_true rfl)) dL_law_372 ⟨by show cells + 1 + 0 ≤ 601024; omega, by show slots + 6 + 0 ≤ 7293033; omega⟩) hS (fun z _ h => by have h9 : zF (b + 61) (b + 61 + 5) z := h; have h8 := hS.1; show s.heap.size ≤ z; simp only [zF] at h9; omega) (fun z h => by have h9 : zF (b + 61) (b + 61 + 5) z := h; have h8 := hS.1; show s.heap.size ≤ z; simp only [zF] at h9; omega) (fun H2 lo2 hB hz2 hk2 hS => ?_)
  refine va_forget (fun q h => hS.2.2 q h) ?_
  have hS : va_S (fun q => s.heap.size ≤ q) s.heap H2 [] := ⟨hS.1, hS.2.1, fun z h => absurd h List.not_mem_nil⟩
  obtain ⟨hM2, hB9⟩ := hB
  have hC2 := zCW_kept hC1 (fun z h1 h2 h3 => hk2 z h1 (fun h4 => by have h9 : zF (b + 61) (b + 61 + 5) z := h4; simp only [zF] at h9; omega))
  have hO2 := zOb_kept hO1 (fun z h1 h2 h3 => hk2 z h1 (fun h4 => by have h9 : zF (b + 61) (b + 61 + 5) z := h4; simp only [zF] at h9; omega))
  refine lv_istore (lv' := [(6, .int 0), (5, .int 1), (4, .int (nI i)), (3, .ref (b + 66)), (2, .ref (b + 61)), (1, .ref b), (0, .ref b0)]) hx hb dL_law_375 hl (by decide) rfl (fun ls hl => ?_)
  refine lv_aload_n hx hb dL_law_377 rfl (lv_at hl 4 rfl) ?_
  refine z_ki (va_runV (As := []) (rest := []) hfix (zcX5_thrown l D cI H2 _ _ _ _ _ _ _ hM2) (cwV 0 hts gL_law_X5_thrown rfl rfl rfl (by decide +kernel) ⟨Nat.le_of_ble_eq_true rfl, Nat.le_of_ble_eq_true rfl⟩) (z_preV hK hKi hM2 (ci := 5) (q0 := 0) rfl rfl rfl) rfl rfl hl.1 rfl (lv_room (Nat.le_of_ble_eq_true rfl)) dL_law_378 ⟨by show cells + 1 + 0 + 0 ≤ 601024; omega, by show slots + 6 + 0 + 0 ≤ 7293033; omega⟩) ?_
  refine lv_iload hx hb dL_law_381 (lv_at hl 1 rfl) ?_
  refine lv_icmp_eq (tgt := 388) hx hb dL_law_383 (by decide) (fun c9 => ?_) (fun c9 => absurd rfl c9)
  refine lv_iload hx hb dL_law_388 (lv_at hl 1 rfl) ?_
  refine lv_if_ne (tgt := 405) hx hb dL_law_390 (by decide) (fun c9 => ?_) (fun c9 => absurd c9 (by decide))
  refine lv_goto (tgt := 1137) hx hb dL_law_405 (by decide) ?_
  refine W.widen (k := cells + 16) (n := slots + 214) (by omega) (by omega) ?_
  exact kk _ _ _ _ _ _ _ _ _ _ ⟨hC2, ⟨_, hO2⟩, ⟨_, _, hM2⟩, hI, hZ⟩ hS (lv_sub hl [2, 3, 4, 5, 6] rfl)
set_option maxHeartbeats 4000000 in
set_option maxRecDepth 100000 in
/-- zlv_whisper_b2 -/
theorem zlv_whisper_b2 {pg : Program} {l : Launch} {ev : Env} {s : State} {m : MethodId} {below : List Frame} {meth : Method} {cd : Code} {D : va_G} {cI cL cR : ClassId} {b0 L : Nat} {xs : Nat → Int32} {Q : State → Prop} {H : Heap} {b n : Nat} {me lo : Nat → Int32} {c e : Nat → Nat} {rd tk tn : Int32} {g : zG} {bf : Nat → Int32} {f : Nat → Int64} {i cells slots : Nat} {ls : Array Slot} (hfix : CallFix pg m cd cL_law 9 s #[.ref b0] wsL_law RL) (hK : va_K D vwCl [(cI, .int), (cL, .long), (cR, .array .int)] s) (hKw : zKw s) (hE : zE s.heap.size s) (hlt : l.stackTraces = false) (hX0 : va_X b0 L xs s s.heap) (hb0 : b0 < s.heap.size) (hbs : s.heap.size ≤ b) (hC : zCW D cI b n me lo c e rd tk g H) (hM : va_P D vwCl (zMo cI (b + 61) tn n (jf g me lo c) bf (zn e) (nm rd tk)) H) (hO : va_P D vwCl [(b + 66, .inl (cL, 1, .inr (.inl f)))] H) (hI : zI n me lo c e) (hZ : zJ n g) (hS : va_S (fun q => s.heap.size ≤ q) s.heap H []) (hi : i + 4 ≤ L) (hL : L ≤ 2048) (hcell : cells + 16 ≤ 601024) (hslot : slots + 214 ≤ 7293033) (hl : lv_has ls 9 [(4, .int (nI i)), (3, .ref (b + 66)), (2, .ref (b + 61)), (1, .ref b), (0, .ref b0)]) (kk : zLK pg l ev s m below meth cd D cI cL b0 Q b i cells slots) (p : Nat) (y : Int32) (z : Int32) (hp : p < n) (hx9 : y < 0 ∨ ¬ y ≤ 9999) (h1 : xs (i + 1) = (nI p)) (h2 : xs (i + 2) = y) (h3 : xs (i + 3) = z) : W pg l ev room_1 s m #[Value.ref b0] below meth cd H [] cells slots Q (F0 m 328 ls []) := by
  obtain ⟨hx, hb, hml, hown, hts⟩ := id hfix
  have hbA : ¬ (fun q : Nat => s.heap.size ≤ q) b0 := Nat.not_le.mpr hb0
  have hKi : va_K D vwCl [(cI, .int)] s := hK.sub [0] rfl
  have hKl : va_K D vwCl [(cI, .int), (cL, .long)] s := hK.sub [0, 1] rfl
  have hKq : va_K D vwCl [(cI, .int), (cR, .array .int)] s := hK.sub [0, 2] rfl
  have hsz := hS.1
  refine lv_aload_n hx hb dL_law_328 rfl (lv_at hl 3 rfl) ?_
  refine lv_aload_n hx hb dL_law_329 rfl (lv_at hl 4 rfl) ?_
  refine lv_iload hx hb dL_law_330 (lv_at hl 0 rfl) ?_
  refine lv_iconst (v := 1) hx hb dL_law_332 (by decide) ?_
  refine lv_iadd hx hb dL_law_333 ?_
  refine z_toi (y := nI (i + 1)) (nI_add i 1) ?_
  refine va_sld hx hb hX0 hb0 hbA hS (vp_in_nI (by omega) (by omega)) dL_law_334 ?_
  refine z_toi (y := (nI p)) (by rw [nI_clamp (by omega)]; exact h1) ?_
  refine lv_aload_n hx hb dL_law_335 rfl (lv_at hl 4 rfl) ?_
  refine lv_iload hx hb dL_law_336 (lv_at hl 0 rfl) ?_
  refine lv_iconst (v := 2) hx hb dL_law_338 (by decide) ?_
  refine lv_iadd hx hb dL_law_339 ?_
  refine z_toi (y := nI (i + 2)) (nI_add i 2) ?_
  refine va_sld hx hb hX0 hb0 hbA hS (vp_in_nI (by omega) (by omega)) dL_law_340 ?_
  refine z_toi (y := y) (by rw [nI_clamp (by omega)]; exact h2) ?_
  refine lv_aload_n hx hb dL_law_341 rfl (lv_at hl 4 rfl) ?_
  refine lv_iload hx hb dL_law_342 (lv_at hl 0 rfl) ?_
  refine lv_iconst (v := 3) hx hb dL_law_344 (by decide) ?_
  refine lv_iadd hx hb dL_law_345 ?_
  refine z_toi (y := nI (i + 3)) (nI_add i 3) ?_
  refine va_sld hx hb hX0 hb0 hbA hS (vp_in_nI (by omega) (by omega)) dL_law_346 ?_
  refine z_toi (y := z) (by rw [nI_clamp (by omega)]; exact h3) ?_
  refine lv_aload_n hx hb dL_law_347 rfl (lv_at hl 1 rfl) ?_
  refine z_mi (vx_runSW (As := [.ref b, .int (nI p), .int y, .int z, .ref (b + 66)]) (rest := []) hfix (zcL_whisper_b2 l D cI cL H s.heap.size (b + 66) hlt hS.1 b n me lo c e rd tk g p y z hC hI hp hx9) (vx_cwSW 5 hts gL_law_L_whisper rfl rfl rfl (by decide +kernel) ⟨Nat.le_of_ble_eq_true rfl, Nat.le_of_ble_eq_true rfl⟩) (z_xpreS hE (fun q h1 h2 => hS.2.1 q h1 h2) hKl) rfl rfl hl.1 rfl (lv_room (Nat.le_of_ble_eq_true rfl)) dL_law_348 ⟨by show cells + 1 ≤ 601024; omega, by show slots + 6 ≤ 7293033; omega⟩) hS (fun z _ h => by have h9 : H.size ≤ z := h; have h8 := hS.1; show s.heap.size ≤ z; omega) (fun z h => by have h9 : H.size ≤ z := h; have h8 := hS.1; show s.heap.size ≤ z; omega) (fun H1 lo1 hB hz1 hk1 hS => ?_)
  refine va_forget (fun q h => hS.2.2 q h) ?_
  have hS : va_S (fun q => s.heap.size ≤ q) s.heap H1 [] := ⟨hS.1, hS.2.1, fun z h => absurd h List.not_mem_nil⟩
  have hM1 := zMo_kept hM (fun z h1 h2 h3 => hk1 z h1 (fun h4 => by have h9 : H.size ≤ z := h4; omega))
  have hC1 := zCW_kept hC (fun z h1 h2 h3 => hk1 z h1 (fun h4 => by have h9 : H.size ≤ z := h4; omega))
  have hO1 := zOb_kept hO (fun z h1 h2 h3 => hk1 z h1 (fun h4 => by have h9 : H.size ≤ z := h4; omega))
  refine lv_istore (lv' := [(5, .int 2), (4, .int (nI i)), (3, .ref (b + 66)), (2, .ref (b + 61)), (1, .ref b), (0, .ref b0)]) hx hb dL_law_351 hl (by decide) rfl (fun ls hl => ?_)
  refine lv_aload_n hx hb dL_law_353 rfl (lv_at hl 3 rfl) ?_
  refine lv_aload_n hx hb dL_law_354 rfl (lv_at hl 5 rfl) ?_
  refine lv_iload hx hb dL_law_355 (lv_at hl 1 rfl) ?_
  refine lv_iconst (v := 1) hx hb dL_law_357 (by decide) ?_
  refine lv_iadd hx hb dL_law_358 ?_
  refine z_toi (y := nI (i + 1)) (nI_add i 1) ?_
  refine va_sld hx hb hX0 hb0 hbA hS (vp_in_nI (by omega) (by omega)) dL_law_359 ?_
  refine z_toi (y := (nI p)) (by rw [nI_clamp (by omega)]; exact h1) ?_
  refine lv_aload_n hx hb dL_law_360 rfl (lv_at hl 5 rfl) ?_
  refine lv_iload hx hb dL_law_361 (lv_at hl 1 rfl) ?_
  refine lv_iconst (v := 2) hx hb dL_law_363 (by decide) ?_
  refine lv_iadd hx hb dL_law_364 ?_
  refine z_toi (y := nI (i + 2)) (nI_add i 2) ?_
  refine va_sld hx hb hX0 hb0 hbA hS (vp_in_nI (by omega) (by omega)) dL_law_365 ?_
  refine z_toi (y := y) (by rw [nI_clamp (by omega)]; exact h2) ?_
  refine lv_aload_n hx hb dL_law_366 rfl (lv_at hl 5 rfl) ?_
  refine lv_iload hx hb dL_law_367 (lv_at hl 1 rfl) ?_
  refine lv_iconst (v := 3) hx hb dL_law_369 (by decide) ?_
  refine lv_iadd hx hb dL_law_370 ?_
  refine z_toi (y := nI (i + 3)) (nI_add i 3) ?_
  refine va_sld hx hb hX0 hb0 hbA hS (vp_in_nI (by omega) (by omega)) dL_law_371 ?_
  refine z_toi (y := z) (by rw [nI_clamp (by omega)]; exact h3) ?_
  refine z_mi (va_runV (As := [.int (nI p), .int y, .int z]) (rest := []) hfix (zcX5_whisper_b2 l D cI H1 (b + 61) tn n g me lo c bf e rd tk p y z hM1 hI hp hx9) (cwV 3 hts gL_law_X5_whisper rfl rfl rfl (by decide +kernel) ⟨Nat.le_of_ble_eq_true rfl, Nat.le_of_ble_eq_true rfl⟩) (z_preV hK hKi hM1 (ci := 5) (q0 := 0) rfl rfl rfl) rfl rfl hl.1 rfl (lv_room (Nat.le_of_ble_eq_true rfl)) dL_law_372 ⟨by show cells + 1 + 0 ≤ 601024; omega, by show slots + 6 + 0 ≤ 7293033; omega⟩) hS (fun z _ h => by have h9 : zF (b + 61) (b + 61 + 5) z := h; have h8 := hS.1; show s.heap.size ≤ z; simp only [zF] at h9; omega) (fun z h => by have h9 : zF (b + 61) (b + 61 + 5) z := h; have h8 := hS.1; show s.heap.size ≤ z; simp only [zF] at h9; omega) (fun H2 lo2 hB hz2 hk2 hS => ?_)
  refine va_forget (fun q h => hS.2.2 q h) ?_
  have hS : va_S (fun q => s.heap.size ≤ q) s.heap H2 [] := ⟨hS.1, hS.2.1, fun z h => absurd h List.not_mem_nil⟩
  obtain ⟨hM2, hB9⟩ := hB
  have hC2 := zCW_kept hC1 (fun z h1 h2 h3 => hk2 z h1 (fun h4 => by have h9 : zF (b + 61) (b + 61 + 5) z := h4; simp only [zF] at h9; omega))
  have hO2 := zOb_kept hO1 (fun z h1 h2 h3 => hk2 z h1 (fun h4 => by have h9 : zF (b + 61) (b + 61 + 5) z := h4; simp only [zF] at h9; omega))
  refine lv_istore (lv' := [(6, .int 0), (5, .int 2), (4, .int (nI i)), (3, .ref (b + 66)), (2, .ref (b + 61)), (1, .ref b), (0, .ref b0)]) hx hb dL_law_375 hl (by decide) rfl (fun ls hl => ?_)
  refine lv_aload_n hx hb dL_law_377 rfl (lv_at hl 4 rfl) ?_
  refine z_ki (va_runV (As := []) (rest := []) hfix (zcX5_thrown l D cI H2 _ _ _ _ _ _ _ hM2) (cwV 0 hts gL_law_X5_thrown rfl rfl rfl (by decide +kernel) ⟨Nat.le_of_ble_eq_true rfl, Nat.le_of_ble_eq_true rfl⟩) (z_preV hK hKi hM2 (ci := 5) (q0 := 0) rfl rfl rfl) rfl rfl hl.1 rfl (lv_room (Nat.le_of_ble_eq_true rfl)) dL_law_378 ⟨by show cells + 1 + 0 + 0 ≤ 601024; omega, by show slots + 6 + 0 + 0 ≤ 7293033; omega⟩) ?_
  refine lv_iload hx hb dL_law_381 (lv_at hl 1 rfl) ?_
  refine lv_icmp_eq (tgt := 388) hx hb dL_law_383 (by decide) (fun c9 => ?_) (fun c9 => absurd rfl c9)
  refine lv_iload hx hb dL_law_388 (lv_at hl 1 rfl) ?_
  refine lv_if_ne (tgt := 405) hx hb dL_law_390 (by decide) (fun c9 => ?_) (fun c9 => absurd c9 (by decide))
  refine lv_goto (tgt := 1137) hx hb dL_law_405 (by decide) ?_
  refine W.widen (k := cells + 16) (n := slots + 214) (by omega) (by omega) ?_
  exact kk _ _ _ _ _ _ _ _ _ _ ⟨hC2, ⟨_, hO2⟩, ⟨_, _, hM2⟩, hI, hZ⟩ hS (lv_sub hl [2, 3, 4, 5, 6] rfl)
set_option maxHeartbeats 4000000 in
set_option maxRecDepth 100000 in
/-- zlv_whisper_b3 -/
theorem zlv_whisper_b3 {pg : Program} {l : Launch} {ev : Env} {s : State} {m : MethodId} {below : List Frame} {meth : Method} {cd : Code} {D : va_G} {cI cL cR : ClassId} {b0 L : Nat} {xs : Nat → Int32} {Q : State → Prop} {H : Heap} {b n : Nat} {me lo : Nat → Int32} {c e : Nat → Nat} {rd tk tn : Int32} {g : zG} {bf : Nat → Int32} {f : Nat → Int64} {i cells slots : Nat} {ls : Array Slot} (hfix : CallFix pg m cd cL_law 9 s #[.ref b0] wsL_law RL) (hK : va_K D vwCl [(cI, .int), (cL, .long), (cR, .array .int)] s) (hKw : zKw s) (hE : zE s.heap.size s) (hlt : l.stackTraces = false) (hX0 : va_X b0 L xs s s.heap) (hb0 : b0 < s.heap.size) (hbs : s.heap.size ≤ b) (hC : zCW D cI b n me lo c e rd tk g H) (hM : va_P D vwCl (zMo cI (b + 61) tn n (jf g me lo c) bf (zn e) (nm rd tk)) H) (hO : va_P D vwCl [(b + 66, .inl (cL, 1, .inr (.inl f)))] H) (hI : zI n me lo c e) (hZ : zJ n g) (hS : va_S (fun q => s.heap.size ≤ q) s.heap H []) (hi : i + 4 ≤ L) (hL : L ≤ 2048) (hcell : cells + 16 ≤ 601024) (hslot : slots + 214 ≤ 7293033) (hl : lv_has ls 9 [(4, .int (nI i)), (3, .ref (b + 66)), (2, .ref (b + 61)), (1, .ref b), (0, .ref b0)]) (kk : zLK pg l ev s m below meth cd D cI cL b0 Q b i cells slots) (p : Nat) (w : Nat) (z : Int32) (hp : p < n) (hw : w ≤ 9999) (hx9 : z < 0 ∨ ¬ z ≤ 9) (h1 : xs (i + 1) = (nI p)) (h2 : xs (i + 2) = (nI w)) (h3 : xs (i + 3) = z) : W pg l ev room_1 s m #[Value.ref b0] below meth cd H [] cells slots Q (F0 m 328 ls []) := by
  obtain ⟨hx, hb, hml, hown, hts⟩ := id hfix
  have hbA : ¬ (fun q : Nat => s.heap.size ≤ q) b0 := Nat.not_le.mpr hb0
  have hKi : va_K D vwCl [(cI, .int)] s := hK.sub [0] rfl
  have hKl : va_K D vwCl [(cI, .int), (cL, .long)] s := hK.sub [0, 1] rfl
  have hKq : va_K D vwCl [(cI, .int), (cR, .array .int)] s := hK.sub [0, 2] rfl
  have hsz := hS.1
  refine lv_aload_n hx hb dL_law_328 rfl (lv_at hl 3 rfl) ?_
  refine lv_aload_n hx hb dL_law_329 rfl (lv_at hl 4 rfl) ?_
  refine lv_iload hx hb dL_law_330 (lv_at hl 0 rfl) ?_
  refine lv_iconst (v := 1) hx hb dL_law_332 (by decide) ?_
  refine lv_iadd hx hb dL_law_333 ?_
  refine z_toi (y := nI (i + 1)) (nI_add i 1) ?_
  refine va_sld hx hb hX0 hb0 hbA hS (vp_in_nI (by omega) (by omega)) dL_law_334 ?_
  refine z_toi (y := (nI p)) (by rw [nI_clamp (by omega)]; exact h1) ?_
  refine lv_aload_n hx hb dL_law_335 rfl (lv_at hl 4 rfl) ?_
  refine lv_iload hx hb dL_law_336 (lv_at hl 0 rfl) ?_
  refine lv_iconst (v := 2) hx hb dL_law_338 (by decide) ?_
  refine lv_iadd hx hb dL_law_339 ?_
  refine z_toi (y := nI (i + 2)) (nI_add i 2) ?_
  refine va_sld hx hb hX0 hb0 hbA hS (vp_in_nI (by omega) (by omega)) dL_law_340 ?_
  refine z_toi (y := (nI w)) (by rw [nI_clamp (by omega)]; exact h2) ?_
  refine lv_aload_n hx hb dL_law_341 rfl (lv_at hl 4 rfl) ?_
  refine lv_iload hx hb dL_law_342 (lv_at hl 0 rfl) ?_
  refine lv_iconst (v := 3) hx hb dL_law_344 (by decide) ?_
  refine lv_iadd hx hb dL_law_345 ?_
  refine z_toi (y := nI (i + 3)) (nI_add i 3) ?_
  refine va_sld hx hb hX0 hb0 hbA hS (vp_in_nI (by omega) (by omega)) dL_law_346 ?_
  refine z_toi (y := z) (by rw [nI_clamp (by omega)]; exact h3) ?_
  refine lv_aload_n hx hb dL_law_347 rfl (lv_at hl 1 rfl) ?_
  refine z_mi (vx_runSW (As := [.ref b, .int (nI p), .int (nI w), .int z, .ref (b + 66)]) (rest := []) hfix (zcL_whisper_b3 l D cI cL H s.heap.size (b + 66) hlt hS.1 b n me lo c e rd tk g p w z hC hI hp hw hx9) (vx_cwSW 5 hts gL_law_L_whisper rfl rfl rfl (by decide +kernel) ⟨Nat.le_of_ble_eq_true rfl, Nat.le_of_ble_eq_true rfl⟩) (z_xpreS hE (fun q h1 h2 => hS.2.1 q h1 h2) hKl) rfl rfl hl.1 rfl (lv_room (Nat.le_of_ble_eq_true rfl)) dL_law_348 ⟨by show cells + 1 ≤ 601024; omega, by show slots + 6 ≤ 7293033; omega⟩) hS (fun z _ h => by have h9 : H.size ≤ z := h; have h8 := hS.1; show s.heap.size ≤ z; omega) (fun z h => by have h9 : H.size ≤ z := h; have h8 := hS.1; show s.heap.size ≤ z; omega) (fun H1 lo1 hB hz1 hk1 hS => ?_)
  refine va_forget (fun q h => hS.2.2 q h) ?_
  have hS : va_S (fun q => s.heap.size ≤ q) s.heap H1 [] := ⟨hS.1, hS.2.1, fun z h => absurd h List.not_mem_nil⟩
  have hM1 := zMo_kept hM (fun z h1 h2 h3 => hk1 z h1 (fun h4 => by have h9 : H.size ≤ z := h4; omega))
  have hC1 := zCW_kept hC (fun z h1 h2 h3 => hk1 z h1 (fun h4 => by have h9 : H.size ≤ z := h4; omega))
  have hO1 := zOb_kept hO (fun z h1 h2 h3 => hk1 z h1 (fun h4 => by have h9 : H.size ≤ z := h4; omega))
  refine lv_istore (lv' := [(5, .int 2), (4, .int (nI i)), (3, .ref (b + 66)), (2, .ref (b + 61)), (1, .ref b), (0, .ref b0)]) hx hb dL_law_351 hl (by decide) rfl (fun ls hl => ?_)
  refine lv_aload_n hx hb dL_law_353 rfl (lv_at hl 3 rfl) ?_
  refine lv_aload_n hx hb dL_law_354 rfl (lv_at hl 5 rfl) ?_
  refine lv_iload hx hb dL_law_355 (lv_at hl 1 rfl) ?_
  refine lv_iconst (v := 1) hx hb dL_law_357 (by decide) ?_
  refine lv_iadd hx hb dL_law_358 ?_
  refine z_toi (y := nI (i + 1)) (nI_add i 1) ?_
  refine va_sld hx hb hX0 hb0 hbA hS (vp_in_nI (by omega) (by omega)) dL_law_359 ?_
  refine z_toi (y := (nI p)) (by rw [nI_clamp (by omega)]; exact h1) ?_
  refine lv_aload_n hx hb dL_law_360 rfl (lv_at hl 5 rfl) ?_
  refine lv_iload hx hb dL_law_361 (lv_at hl 1 rfl) ?_
  refine lv_iconst (v := 2) hx hb dL_law_363 (by decide) ?_
  refine lv_iadd hx hb dL_law_364 ?_
  refine z_toi (y := nI (i + 2)) (nI_add i 2) ?_
  refine va_sld hx hb hX0 hb0 hbA hS (vp_in_nI (by omega) (by omega)) dL_law_365 ?_
  refine z_toi (y := (nI w)) (by rw [nI_clamp (by omega)]; exact h2) ?_
  refine lv_aload_n hx hb dL_law_366 rfl (lv_at hl 5 rfl) ?_
  refine lv_iload hx hb dL_law_367 (lv_at hl 1 rfl) ?_
  refine lv_iconst (v := 3) hx hb dL_law_369 (by decide) ?_
  refine lv_iadd hx hb dL_law_370 ?_
  refine z_toi (y := nI (i + 3)) (nI_add i 3) ?_
  refine va_sld hx hb hX0 hb0 hbA hS (vp_in_nI (by omega) (by omega)) dL_law_371 ?_
  refine z_toi (y := z) (by rw [nI_clamp (by omega)]; exact h3) ?_
  refine z_mi (va_runV (As := [.int (nI p), .int (nI w), .int z]) (rest := []) hfix (zcX5_whisper_b3 l D cI H1 (b + 61) tn n g me lo c bf e rd tk p w z hM1 hI hp hw hx9) (cwV 3 hts gL_law_X5_whisper rfl rfl rfl (by decide +kernel) ⟨Nat.le_of_ble_eq_true rfl, Nat.le_of_ble_eq_true rfl⟩) (z_preV hK hKi hM1 (ci := 5) (q0 := 0) rfl rfl rfl) rfl rfl hl.1 rfl (lv_room (Nat.le_of_ble_eq_true rfl)) dL_law_372 ⟨by show cells + 1 + 0 ≤ 601024; omega, by show slots + 6 + 0 ≤ 7293033; omega⟩) hS (fun z _ h => by have h9 : zF (b + 61) (b + 61 + 5) z := h; have h8 := hS.1; show s.heap.size ≤ z; simp only [zF] at h9; omega) (fun z h => by have h9 : zF (b + 61) (b + 61 + 5) z := h; have h8 := hS.1; show s.heap.size ≤ z; simp only [zF] at h9; omega) (fun H2 lo2 hB hz2 hk2 hS => ?_)
  refine va_forget (fun q h => hS.2.2 q h) ?_
  have hS : va_S (fun q => s.heap.size ≤ q) s.heap H2 [] := ⟨hS.1, hS.2.1, fun z h => absurd h List.not_mem_nil⟩
  obtain ⟨hM2, hB9⟩ := hB
  have hC2 := zCW_kept hC1 (fun z h1 h2 h3 => hk2 z h1 (fun h4 => by have h9 : zF (b + 61) (b + 61 + 5) z := h4; simp only [zF] at h9; omega))
  have hO2 := zOb_kept hO1 (fun z h1 h2 h3 => hk2 z h1 (fun h4 => by have h9 : zF (b + 61) (b + 61 + 5) z := h4; simp only [zF] at h9; omega))
  refine lv_istore (lv' := [(6, .int 0), (5, .int 2), (4, .int (nI i)), (3, .ref (b + 66)), (2, .ref (b + 61)), (1, .ref b), (0, .ref b0)]) hx hb dL_law_375 hl (by decide) rfl (fun ls hl => ?_)
  refine lv_aload_n hx hb dL_law_377 rfl (lv_at hl 4 rfl) ?_
  refine z_ki (va_runV (As := []) (rest := []) hfix (zcX5_thrown l D cI H2 _ _ _ _ _ _ _ hM2) (cwV 0 hts gL_law_X5_thrown rfl rfl rfl (by decide +kernel) ⟨Nat.le_of_ble_eq_true rfl, Nat.le_of_ble_eq_true rfl⟩) (z_preV hK hKi hM2 (ci := 5) (q0 := 0) rfl rfl rfl) rfl rfl hl.1 rfl (lv_room (Nat.le_of_ble_eq_true rfl)) dL_law_378 ⟨by show cells + 1 + 0 + 0 ≤ 601024; omega, by show slots + 6 + 0 + 0 ≤ 7293033; omega⟩) ?_
  refine lv_iload hx hb dL_law_381 (lv_at hl 1 rfl) ?_
  refine lv_icmp_eq (tgt := 388) hx hb dL_law_383 (by decide) (fun c9 => ?_) (fun c9 => absurd rfl c9)
  refine lv_iload hx hb dL_law_388 (lv_at hl 1 rfl) ?_
  refine lv_if_ne (tgt := 405) hx hb dL_law_390 (by decide) (fun c9 => ?_) (fun c9 => absurd c9 (by decide))
  refine lv_goto (tgt := 1137) hx hb dL_law_405 (by decide) ?_
  refine W.widen (k := cells + 16) (n := slots + 214) (by omega) (by omega) ?_
  exact kk _ _ _ _ _ _ _ _ _ _ ⟨hC2, ⟨_, hO2⟩, ⟨_, _, hM2⟩, hI, hZ⟩ hS (lv_sub hl [2, 3, 4, 5, 6] rfl)
set_option maxHeartbeats 4000000 in
set_option maxRecDepth 100000 in
/-- zlv_parrot_ok -/
theorem zlv_parrot_ok {pg : Program} {l : Launch} {ev : Env} {s : State} {m : MethodId} {below : List Frame} {meth : Method} {cd : Code} {D : va_G} {cI cL cR : ClassId} {b0 L : Nat} {xs : Nat → Int32} {Q : State → Prop} {H : Heap} {b n : Nat} {me lo : Nat → Int32} {c e : Nat → Nat} {rd tk tn : Int32} {g : zG} {bf : Nat → Int32} {f : Nat → Int64} {i cells slots : Nat} {ls : Array Slot} (hfix : CallFix pg m cd cL_law 9 s #[.ref b0] wsL_law RL) (hK : va_K D vwCl [(cI, .int), (cL, .long), (cR, .array .int)] s) (hKw : zKw s) (hE : zE s.heap.size s) (hlt : l.stackTraces = false) (hX0 : va_X b0 L xs s s.heap) (hb0 : b0 < s.heap.size) (hbs : s.heap.size ≤ b) (hC : zCW D cI b n me lo c e rd tk g H) (hM : va_P D vwCl (zMo cI (b + 61) tn n (jf g me lo c) bf (zn e) (nm rd tk)) H) (hO : va_P D vwCl [(b + 66, .inl (cL, 1, .inr (.inl f)))] H) (hI : zI n me lo c e) (hZ : zJ n g) (hS : va_S (fun q => s.heap.size ≤ q) s.heap H []) (hi : i + 4 ≤ L) (hL : L ≤ 2048) (hcell : cells + 16 ≤ 601024) (hslot : slots + 214 ≤ 7293033) (hl : lv_has ls 9 [(4, .int (nI i)), (3, .ref (b + 66)), (2, .ref (b + 61)), (1, .ref b), (0, .ref b0)]) (kk : zLK pg l ev s m below meth cd D cI cL b0 Q b i cells slots) (p : Nat) (q : Nat) (hp : p < n) (hq : q ≤ 6) (h1 : xs (i + 1) = (nI p)) (h2 : xs (i + 2) = (nI q)) : W pg l ev room_1 s m #[Value.ref b0] below meth cd H [] cells slots Q (F0 m 408 ls []) := by
  obtain ⟨hx, hb, hml, hown, hts⟩ := id hfix
  have hbA : ¬ (fun q : Nat => s.heap.size ≤ q) b0 := Nat.not_le.mpr hb0
  have hKi : va_K D vwCl [(cI, .int)] s := hK.sub [0] rfl
  have hKl : va_K D vwCl [(cI, .int), (cL, .long)] s := hK.sub [0, 1] rfl
  have hKq : va_K D vwCl [(cI, .int), (cR, .array .int)] s := hK.sub [0, 2] rfl
  have hsz := hS.1
  refine lv_aload_n hx hb dL_law_408 rfl (lv_at hl 3 rfl) ?_
  refine lv_aload_n hx hb dL_law_409 rfl (lv_at hl 4 rfl) ?_
  refine lv_iload hx hb dL_law_410 (lv_at hl 0 rfl) ?_
  refine lv_iconst (v := 1) hx hb dL_law_412 (by decide) ?_
  refine lv_iadd hx hb dL_law_413 ?_
  refine z_toi (y := nI (i + 1)) (nI_add i 1) ?_
  refine va_sld hx hb hX0 hb0 hbA hS (vp_in_nI (by omega) (by omega)) dL_law_414 ?_
  refine z_toi (y := (nI p)) (by rw [nI_clamp (by omega)]; exact h1) ?_
  refine lv_aload_n hx hb dL_law_415 rfl (lv_at hl 4 rfl) ?_
  refine lv_iload hx hb dL_law_416 (lv_at hl 0 rfl) ?_
  refine lv_iconst (v := 2) hx hb dL_law_418 (by decide) ?_
  refine lv_iadd hx hb dL_law_419 ?_
  refine z_toi (y := nI (i + 2)) (nI_add i 2) ?_
  refine va_sld hx hb hX0 hb0 hbA hS (vp_in_nI (by omega) (by omega)) dL_law_420 ?_
  refine z_toi (y := (nI q)) (by rw [nI_clamp (by omega)]; exact h2) ?_
  refine lv_aload_n hx hb dL_law_421 rfl (lv_at hl 1 rfl) ?_
  refine z_mi (vx_runSW (As := [.ref b, .int (nI p), .int (nI q), .ref (b + 66)]) (rest := []) hfix (zcL_parrot_k l D cI cL H s.heap.size (b + 66) f b n me lo c e rd tk g p q hC hI hp hq hO (by omega)) (vx_cwSW 4 hts gL_law_L_parrot rfl rfl rfl (by decide +kernel) ⟨Nat.le_of_ble_eq_true rfl, Nat.le_of_ble_eq_true rfl⟩) (z_xpreS hE (fun q h1 h2 => hS.2.1 q h1 h2) hKl) rfl rfl hl.1 rfl (lv_room (Nat.le_of_ble_eq_true rfl)) dL_law_422 ⟨by show cells + 0 ≤ 601024; omega, by show slots + 0 ≤ 7293033; omega⟩) hS (fun z _ h => by have h9 : zF b (b + 61) z ∨ @Eq Nat z (b + 66) := h; have h8 := hS.1; show s.heap.size ≤ z; simp only [zF] at h9; omega) (fun z h => by have h9 : zF b (b + 61) z ∨ @Eq Nat z (b + 66) := h; have h8 := hS.1; show s.heap.size ≤ z; simp only [zF] at h9; omega) (fun H1 lo1 hB hz1 hk1 hS => ?_)
  refine va_forget (fun q h => hS.2.2 q h) ?_
  have hS : va_S (fun q => s.heap.size ≤ q) s.heap H1 [] := ⟨hS.1, hS.2.1, fun z h => absurd h List.not_mem_nil⟩
  have hM1 := zMo_kept hM (fun z h1 h2 h3 => hk1 z h1 (fun h4 => by have h9 : zF b (b + 61) z ∨ @Eq Nat z (b + 66) := h4; simp only [zF] at h9; omega))
  have hC1 := hB.1
  have hO1 := hB.2.1
  refine lv_istore (lv' := [(5, .int 0), (4, .int (nI i)), (3, .ref (b + 66)), (2, .ref (b + 61)), (1, .ref b), (0, .ref b0)]) hx hb dL_law_425 hl (by decide) rfl (fun ls hl => ?_)
  refine lv_aload_n hx hb dL_law_427 rfl (lv_at hl 3 rfl) ?_
  refine lv_aload_n hx hb dL_law_428 rfl (lv_at hl 5 rfl) ?_
  refine lv_iload hx hb dL_law_429 (lv_at hl 1 rfl) ?_
  refine lv_iconst (v := 1) hx hb dL_law_431 (by decide) ?_
  refine lv_iadd hx hb dL_law_432 ?_
  refine z_toi (y := nI (i + 1)) (nI_add i 1) ?_
  refine va_sld hx hb hX0 hb0 hbA hS (vp_in_nI (by omega) (by omega)) dL_law_433 ?_
  refine z_toi (y := (nI p)) (by rw [nI_clamp (by omega)]; exact h1) ?_
  refine lv_aload_n hx hb dL_law_434 rfl (lv_at hl 5 rfl) ?_
  refine lv_iload hx hb dL_law_435 (lv_at hl 1 rfl) ?_
  refine lv_iconst (v := 2) hx hb dL_law_437 (by decide) ?_
  refine lv_iadd hx hb dL_law_438 ?_
  refine z_toi (y := nI (i + 2)) (nI_add i 2) ?_
  refine va_sld hx hb hX0 hb0 hbA hS (vp_in_nI (by omega) (by omega)) dL_law_439 ?_
  refine z_toi (y := (nI q)) (by rw [nI_clamp (by omega)]; exact h2) ?_
  refine z_mi (va_runV (As := [.int (nI p), .int (nI q)]) (rest := []) hfix (zcX5_parrot_k l D cI H1 (b + 61) tn n g me lo c bf e rd tk p q hM1 hI hp hq) (cwV 2 hts gL_law_X5_parrot rfl rfl rfl (by decide +kernel) ⟨Nat.le_of_ble_eq_true rfl, Nat.le_of_ble_eq_true rfl⟩) (z_preV hK hKi hM1 (ci := 5) (q0 := 0) rfl rfl rfl) rfl rfl hl.1 rfl (lv_room (Nat.le_of_ble_eq_true rfl)) dL_law_440 ⟨by show cells + 0 + 0 ≤ 601024; omega, by show slots + 0 + 0 ≤ 7293033; omega⟩) hS (fun z _ h => by have h9 : zF (b + 61) (b + 61 + 5) z := h; have h8 := hS.1; show s.heap.size ≤ z; simp only [zF] at h9; omega) (fun z h => by have h9 : zF (b + 61) (b + 61 + 5) z := h; have h8 := hS.1; show s.heap.size ≤ z; simp only [zF] at h9; omega) (fun H2 lo2 hB hz2 hk2 hS => ?_)
  refine va_forget (fun q h => hS.2.2 q h) ?_
  have hS : va_S (fun q => s.heap.size ≤ q) s.heap H2 [] := ⟨hS.1, hS.2.1, fun z h => absurd h List.not_mem_nil⟩
  obtain ⟨hM2, hB9⟩ := hB
  have hC2 := zCW_kept hC1 (fun z h1 h2 h3 => hk2 z h1 (fun h4 => by have h9 : zF (b + 61) (b + 61 + 5) z := h4; simp only [zF] at h9; omega))
  have hO2 := zOb_kept hO1 (fun z h1 h2 h3 => hk2 z h1 (fun h4 => by have h9 : zF (b + 61) (b + 61 + 5) z := h4; simp only [zF] at h9; omega))
  refine lv_istore (lv' := [(6, .int (tp n g me lo c e p q)), (5, .int 0), (4, .int (nI i)), (3, .ref (b + 66)), (2, .ref (b + 61)), (1, .ref b), (0, .ref b0)]) hx hb dL_law_443 hl (by decide) rfl (fun ls hl => ?_)
  refine lv_aload_n hx hb dL_law_445 rfl (lv_at hl 4 rfl) ?_
  refine z_ki (va_runV (As := []) (rest := []) hfix (zcX5_thrown l D cI H2 _ _ _ _ _ _ _ hM2) (cwV 0 hts gL_law_X5_thrown rfl rfl rfl (by decide +kernel) ⟨Nat.le_of_ble_eq_true rfl, Nat.le_of_ble_eq_true rfl⟩) (z_preV hK hKi hM2 (ci := 5) (q0 := 0) rfl rfl rfl) rfl rfl hl.1 rfl (lv_room (Nat.le_of_ble_eq_true rfl)) dL_law_446 ⟨by show cells + 0 + 0 + 0 ≤ 601024; omega, by show slots + 0 + 0 + 0 ≤ 7293033; omega⟩) ?_
  refine lv_iload hx hb dL_law_449 (lv_at hl 1 rfl) ?_
  refine lv_icmp_eq (tgt := 456) hx hb dL_law_451 (by decide) (fun c9 => ?_) (fun c9 => absurd rfl c9)
  refine lv_iload hx hb dL_law_456 (lv_at hl 1 rfl) ?_
  refine lv_if_ne (tgt := 473) hx hb dL_law_458 (by decide) (fun c9 => absurd rfl c9) (fun c9 => ?_)
  refine lv_aload_n hx hb dL_law_461 rfl (lv_at hl 3 rfl) ?_
  refine lv_iconst (v := 0) hx hb dL_law_462 (by decide) ?_
  refine va_lald hx hb hK hO2 0 1 rfl rfl (vp_in_nI (n := 0) (by decide) (by decide)) dL_law_463 ?_
  refine z_tol (y := ((tp n g me lo c e p q)).toInt64) (by rfl) ?_
  refine lv_iload hx hb dL_law_464 (lv_at hl 0 rfl) ?_
  refine lv_i2l (v := ((tp n g me lo c e p q)).toInt64) hx hb dL_law_466 rfl ?_
  refine W.lcmp hx hb dL_law_467 ?_
  refine z_toi (y := 0) ((lg_cmp_eq _ _).mpr rfl) ?_
  refine lv_if_eq (tgt := 473) hx hb dL_law_468 (by decide) (fun c9 => ?_) (fun c9 => absurd rfl c9)
  refine lv_goto (tgt := 1137) hx hb dL_law_473 (by decide) ?_
  refine W.widen (k := cells + 16) (n := slots + 214) (by omega) (by omega) ?_
  exact kk _ _ _ _ _ _ _ _ _ _ ⟨hC2, ⟨_, hO2⟩, ⟨_, _, hM2⟩, hI, hZ⟩ hS (lv_sub hl [2, 3, 4, 5, 6] rfl)
set_option maxHeartbeats 4000000 in
set_option maxRecDepth 100000 in
/-- zlv_parrot_b1 -/
theorem zlv_parrot_b1 {pg : Program} {l : Launch} {ev : Env} {s : State} {m : MethodId} {below : List Frame} {meth : Method} {cd : Code} {D : va_G} {cI cL cR : ClassId} {b0 L : Nat} {xs : Nat → Int32} {Q : State → Prop} {H : Heap} {b n : Nat} {me lo : Nat → Int32} {c e : Nat → Nat} {rd tk tn : Int32} {g : zG} {bf : Nat → Int32} {f : Nat → Int64} {i cells slots : Nat} {ls : Array Slot} (hfix : CallFix pg m cd cL_law 9 s #[.ref b0] wsL_law RL) (hK : va_K D vwCl [(cI, .int), (cL, .long), (cR, .array .int)] s) (hKw : zKw s) (hE : zE s.heap.size s) (hlt : l.stackTraces = false) (hX0 : va_X b0 L xs s s.heap) (hb0 : b0 < s.heap.size) (hbs : s.heap.size ≤ b) (hC : zCW D cI b n me lo c e rd tk g H) (hM : va_P D vwCl (zMo cI (b + 61) tn n (jf g me lo c) bf (zn e) (nm rd tk)) H) (hO : va_P D vwCl [(b + 66, .inl (cL, 1, .inr (.inl f)))] H) (hI : zI n me lo c e) (hZ : zJ n g) (hS : va_S (fun q => s.heap.size ≤ q) s.heap H []) (hi : i + 4 ≤ L) (hL : L ≤ 2048) (hcell : cells + 16 ≤ 601024) (hslot : slots + 214 ≤ 7293033) (hl : lv_has ls 9 [(4, .int (nI i)), (3, .ref (b + 66)), (2, .ref (b + 61)), (1, .ref b), (0, .ref b0)]) (kk : zLK pg l ev s m below meth cd D cI cL b0 Q b i cells slots) (x : Int32) (y : Int32) (hx9 : ¬ ∃ j, j < n ∧ x = nI j) (h1 : xs (i + 1) = x) (h2 : xs (i + 2) = y) : W pg l ev room_1 s m #[Value.ref b0] below meth cd H [] cells slots Q (F0 m 408 ls []) := by
  obtain ⟨hx, hb, hml, hown, hts⟩ := id hfix
  have hbA : ¬ (fun q : Nat => s.heap.size ≤ q) b0 := Nat.not_le.mpr hb0
  have hKi : va_K D vwCl [(cI, .int)] s := hK.sub [0] rfl
  have hKl : va_K D vwCl [(cI, .int), (cL, .long)] s := hK.sub [0, 1] rfl
  have hKq : va_K D vwCl [(cI, .int), (cR, .array .int)] s := hK.sub [0, 2] rfl
  have hsz := hS.1
  refine lv_aload_n hx hb dL_law_408 rfl (lv_at hl 3 rfl) ?_
  refine lv_aload_n hx hb dL_law_409 rfl (lv_at hl 4 rfl) ?_
  refine lv_iload hx hb dL_law_410 (lv_at hl 0 rfl) ?_
  refine lv_iconst (v := 1) hx hb dL_law_412 (by decide) ?_
  refine lv_iadd hx hb dL_law_413 ?_
  refine z_toi (y := nI (i + 1)) (nI_add i 1) ?_
  refine va_sld hx hb hX0 hb0 hbA hS (vp_in_nI (by omega) (by omega)) dL_law_414 ?_
  refine z_toi (y := x) (by rw [nI_clamp (by omega)]; exact h1) ?_
  refine lv_aload_n hx hb dL_law_415 rfl (lv_at hl 4 rfl) ?_
  refine lv_iload hx hb dL_law_416 (lv_at hl 0 rfl) ?_
  refine lv_iconst (v := 2) hx hb dL_law_418 (by decide) ?_
  refine lv_iadd hx hb dL_law_419 ?_
  refine z_toi (y := nI (i + 2)) (nI_add i 2) ?_
  refine va_sld hx hb hX0 hb0 hbA hS (vp_in_nI (by omega) (by omega)) dL_law_420 ?_
  refine z_toi (y := y) (by rw [nI_clamp (by omega)]; exact h2) ?_
  refine lv_aload_n hx hb dL_law_421 rfl (lv_at hl 1 rfl) ?_
  refine z_mi (vx_runSW (As := [.ref b, .int x, .int y, .ref (b + 66)]) (rest := []) hfix (zcL_parrot_b1 l D cI cL H s.heap.size (b + 66) hlt hS.1 b n me lo c e rd tk g x y hC hI hx9) (vx_cwSW 4 hts gL_law_L_parrot rfl rfl rfl (by decide +kernel) ⟨Nat.le_of_ble_eq_true rfl, Nat.le_of_ble_eq_true rfl⟩) (z_xpreS hE (fun q h1 h2 => hS.2.1 q h1 h2) hKl) rfl rfl hl.1 rfl (lv_room (Nat.le_of_ble_eq_true rfl)) dL_law_422 ⟨by show cells + 1 ≤ 601024; omega, by show slots + 6 ≤ 7293033; omega⟩) hS (fun z _ h => by have h9 : H.size ≤ z := h; have h8 := hS.1; show s.heap.size ≤ z; omega) (fun z h => by have h9 : H.size ≤ z := h; have h8 := hS.1; show s.heap.size ≤ z; omega) (fun H1 lo1 hB hz1 hk1 hS => ?_)
  refine va_forget (fun q h => hS.2.2 q h) ?_
  have hS : va_S (fun q => s.heap.size ≤ q) s.heap H1 [] := ⟨hS.1, hS.2.1, fun z h => absurd h List.not_mem_nil⟩
  have hM1 := zMo_kept hM (fun z h1 h2 h3 => hk1 z h1 (fun h4 => by have h9 : H.size ≤ z := h4; omega))
  have hC1 := zCW_kept hC (fun z h1 h2 h3 => hk1 z h1 (fun h4 => by have h9 : H.size ≤ z := h4; omega))
  have hO1 := zOb_kept hO (fun z h1 h2 h3 => hk1 z h1 (fun h4 => by have h9 : H.size ≤ z := h4; omega))
  refine lv_istore (lv' := [(5, .int 1), (4, .int (nI i)), (3, .ref (b + 66)), (2, .ref (b + 61)), (1, .ref b), (0, .ref b0)]) hx hb dL_law_425 hl (by decide) rfl (fun ls hl => ?_)
  refine lv_aload_n hx hb dL_law_427 rfl (lv_at hl 3 rfl) ?_
  refine lv_aload_n hx hb dL_law_428 rfl (lv_at hl 5 rfl) ?_
  refine lv_iload hx hb dL_law_429 (lv_at hl 1 rfl) ?_
  refine lv_iconst (v := 1) hx hb dL_law_431 (by decide) ?_
  refine lv_iadd hx hb dL_law_432 ?_
  refine z_toi (y := nI (i + 1)) (nI_add i 1) ?_
  refine va_sld hx hb hX0 hb0 hbA hS (vp_in_nI (by omega) (by omega)) dL_law_433 ?_
  refine z_toi (y := x) (by rw [nI_clamp (by omega)]; exact h1) ?_
  refine lv_aload_n hx hb dL_law_434 rfl (lv_at hl 5 rfl) ?_
  refine lv_iload hx hb dL_law_435 (lv_at hl 1 rfl) ?_
  refine lv_iconst (v := 2) hx hb dL_law_437 (by decide) ?_
  refine lv_iadd hx hb dL_law_438 ?_
  refine z_toi (y := nI (i + 2)) (nI_add i 2) ?_
  refine va_sld hx hb hX0 hb0 hbA hS (vp_in_nI (by omega) (by omega)) dL_law_439 ?_
  refine z_toi (y := y) (by rw [nI_clamp (by omega)]; exact h2) ?_
  refine z_mi (va_runV (As := [.int x, .int y]) (rest := []) hfix (zcX5_parrot_b1 l D cI H1 (b + 61) tn n g me lo c bf e rd tk x y hM1 hI hx9) (cwV 2 hts gL_law_X5_parrot rfl rfl rfl (by decide +kernel) ⟨Nat.le_of_ble_eq_true rfl, Nat.le_of_ble_eq_true rfl⟩) (z_preV hK hKi hM1 (ci := 5) (q0 := 0) rfl rfl rfl) rfl rfl hl.1 rfl (lv_room (Nat.le_of_ble_eq_true rfl)) dL_law_440 ⟨by show cells + 1 + 0 ≤ 601024; omega, by show slots + 6 + 0 ≤ 7293033; omega⟩) hS (fun z _ h => by have h9 : zF (b + 61) (b + 61 + 5) z := h; have h8 := hS.1; show s.heap.size ≤ z; simp only [zF] at h9; omega) (fun z h => by have h9 : zF (b + 61) (b + 61 + 5) z := h; have h8 := hS.1; show s.heap.size ≤ z; simp only [zF] at h9; omega) (fun H2 lo2 hB hz2 hk2 hS => ?_)
  refine va_forget (fun q h => hS.2.2 q h) ?_
  have hS : va_S (fun q => s.heap.size ≤ q) s.heap H2 [] := ⟨hS.1, hS.2.1, fun z h => absurd h List.not_mem_nil⟩
  obtain ⟨hM2, hB9⟩ := hB
  have hC2 := zCW_kept hC1 (fun z h1 h2 h3 => hk2 z h1 (fun h4 => by have h9 : zF (b + 61) (b + 61 + 5) z := h4; simp only [zF] at h9; omega))
  have hO2 := zOb_kept hO1 (fun z h1 h2 h3 => hk2 z h1 (fun h4 => by have h9 : zF (b + 61) (b + 61 + 5) z := h4; simp only [zF] at h9; omega))
  refine lv_istore (lv' := [(6, .int 0), (5, .int 1), (4, .int (nI i)), (3, .ref (b + 66)), (2, .ref (b + 61)), (1, .ref b), (0, .ref b0)]) hx hb dL_law_443 hl (by decide) rfl (fun ls hl => ?_)
  refine lv_aload_n hx hb dL_law_445 rfl (lv_at hl 4 rfl) ?_
  refine z_ki (va_runV (As := []) (rest := []) hfix (zcX5_thrown l D cI H2 _ _ _ _ _ _ _ hM2) (cwV 0 hts gL_law_X5_thrown rfl rfl rfl (by decide +kernel) ⟨Nat.le_of_ble_eq_true rfl, Nat.le_of_ble_eq_true rfl⟩) (z_preV hK hKi hM2 (ci := 5) (q0 := 0) rfl rfl rfl) rfl rfl hl.1 rfl (lv_room (Nat.le_of_ble_eq_true rfl)) dL_law_446 ⟨by show cells + 1 + 0 + 0 ≤ 601024; omega, by show slots + 6 + 0 + 0 ≤ 7293033; omega⟩) ?_
  refine lv_iload hx hb dL_law_449 (lv_at hl 1 rfl) ?_
  refine lv_icmp_eq (tgt := 456) hx hb dL_law_451 (by decide) (fun c9 => ?_) (fun c9 => absurd rfl c9)
  refine lv_iload hx hb dL_law_456 (lv_at hl 1 rfl) ?_
  refine lv_if_ne (tgt := 473) hx hb dL_law_458 (by decide) (fun c9 => ?_) (fun c9 => absurd c9 (by decide))
  refine lv_goto (tgt := 1137) hx hb dL_law_473 (by decide) ?_
  refine W.widen (k := cells + 16) (n := slots + 214) (by omega) (by omega) ?_
  exact kk _ _ _ _ _ _ _ _ _ _ ⟨hC2, ⟨_, hO2⟩, ⟨_, _, hM2⟩, hI, hZ⟩ hS (lv_sub hl [2, 3, 4, 5, 6] rfl)
set_option maxHeartbeats 4000000 in
set_option maxRecDepth 100000 in
/-- zlv_parrot_b2 -/
theorem zlv_parrot_b2 {pg : Program} {l : Launch} {ev : Env} {s : State} {m : MethodId} {below : List Frame} {meth : Method} {cd : Code} {D : va_G} {cI cL cR : ClassId} {b0 L : Nat} {xs : Nat → Int32} {Q : State → Prop} {H : Heap} {b n : Nat} {me lo : Nat → Int32} {c e : Nat → Nat} {rd tk tn : Int32} {g : zG} {bf : Nat → Int32} {f : Nat → Int64} {i cells slots : Nat} {ls : Array Slot} (hfix : CallFix pg m cd cL_law 9 s #[.ref b0] wsL_law RL) (hK : va_K D vwCl [(cI, .int), (cL, .long), (cR, .array .int)] s) (hKw : zKw s) (hE : zE s.heap.size s) (hlt : l.stackTraces = false) (hX0 : va_X b0 L xs s s.heap) (hb0 : b0 < s.heap.size) (hbs : s.heap.size ≤ b) (hC : zCW D cI b n me lo c e rd tk g H) (hM : va_P D vwCl (zMo cI (b + 61) tn n (jf g me lo c) bf (zn e) (nm rd tk)) H) (hO : va_P D vwCl [(b + 66, .inl (cL, 1, .inr (.inl f)))] H) (hI : zI n me lo c e) (hZ : zJ n g) (hS : va_S (fun q => s.heap.size ≤ q) s.heap H []) (hi : i + 4 ≤ L) (hL : L ≤ 2048) (hcell : cells + 16 ≤ 601024) (hslot : slots + 214 ≤ 7293033) (hl : lv_has ls 9 [(4, .int (nI i)), (3, .ref (b + 66)), (2, .ref (b + 61)), (1, .ref b), (0, .ref b0)]) (kk : zLK pg l ev s m below meth cd D cI cL b0 Q b i cells slots) (p : Nat) (y : Int32) (hp : p < n) (hx9 : y < 0 ∨ ¬ y ≤ 6) (h1 : xs (i + 1) = (nI p)) (h2 : xs (i + 2) = y) : W pg l ev room_1 s m #[Value.ref b0] below meth cd H [] cells slots Q (F0 m 408 ls []) := by
  obtain ⟨hx, hb, hml, hown, hts⟩ := id hfix
  have hbA : ¬ (fun q : Nat => s.heap.size ≤ q) b0 := Nat.not_le.mpr hb0
  have hKi : va_K D vwCl [(cI, .int)] s := hK.sub [0] rfl
  have hKl : va_K D vwCl [(cI, .int), (cL, .long)] s := hK.sub [0, 1] rfl
  have hKq : va_K D vwCl [(cI, .int), (cR, .array .int)] s := hK.sub [0, 2] rfl
  have hsz := hS.1
  refine lv_aload_n hx hb dL_law_408 rfl (lv_at hl 3 rfl) ?_
  refine lv_aload_n hx hb dL_law_409 rfl (lv_at hl 4 rfl) ?_
  refine lv_iload hx hb dL_law_410 (lv_at hl 0 rfl) ?_
  refine lv_iconst (v := 1) hx hb dL_law_412 (by decide) ?_
  refine lv_iadd hx hb dL_law_413 ?_
  refine z_toi (y := nI (i + 1)) (nI_add i 1) ?_
  refine va_sld hx hb hX0 hb0 hbA hS (vp_in_nI (by omega) (by omega)) dL_law_414 ?_
  refine z_toi (y := (nI p)) (by rw [nI_clamp (by omega)]; exact h1) ?_
  refine lv_aload_n hx hb dL_law_415 rfl (lv_at hl 4 rfl) ?_
  refine lv_iload hx hb dL_law_416 (lv_at hl 0 rfl) ?_
  refine lv_iconst (v := 2) hx hb dL_law_418 (by decide) ?_
  refine lv_iadd hx hb dL_law_419 ?_
  refine z_toi (y := nI (i + 2)) (nI_add i 2) ?_
  refine va_sld hx hb hX0 hb0 hbA hS (vp_in_nI (by omega) (by omega)) dL_law_420 ?_
  refine z_toi (y := y) (by rw [nI_clamp (by omega)]; exact h2) ?_
  refine lv_aload_n hx hb dL_law_421 rfl (lv_at hl 1 rfl) ?_
  refine z_mi (vx_runSW (As := [.ref b, .int (nI p), .int y, .ref (b + 66)]) (rest := []) hfix (zcL_parrot_b2 l D cI cL H s.heap.size (b + 66) hlt hS.1 b n me lo c e rd tk g p y hC hI hp hx9) (vx_cwSW 4 hts gL_law_L_parrot rfl rfl rfl (by decide +kernel) ⟨Nat.le_of_ble_eq_true rfl, Nat.le_of_ble_eq_true rfl⟩) (z_xpreS hE (fun q h1 h2 => hS.2.1 q h1 h2) hKl) rfl rfl hl.1 rfl (lv_room (Nat.le_of_ble_eq_true rfl)) dL_law_422 ⟨by show cells + 1 ≤ 601024; omega, by show slots + 6 ≤ 7293033; omega⟩) hS (fun z _ h => by have h9 : H.size ≤ z := h; have h8 := hS.1; show s.heap.size ≤ z; omega) (fun z h => by have h9 : H.size ≤ z := h; have h8 := hS.1; show s.heap.size ≤ z; omega) (fun H1 lo1 hB hz1 hk1 hS => ?_)
  refine va_forget (fun q h => hS.2.2 q h) ?_
  have hS : va_S (fun q => s.heap.size ≤ q) s.heap H1 [] := ⟨hS.1, hS.2.1, fun z h => absurd h List.not_mem_nil⟩
  have hM1 := zMo_kept hM (fun z h1 h2 h3 => hk1 z h1 (fun h4 => by have h9 : H.size ≤ z := h4; omega))
  have hC1 := zCW_kept hC (fun z h1 h2 h3 => hk1 z h1 (fun h4 => by have h9 : H.size ≤ z := h4; omega))
  have hO1 := zOb_kept hO (fun z h1 h2 h3 => hk1 z h1 (fun h4 => by have h9 : H.size ≤ z := h4; omega))
  refine lv_istore (lv' := [(5, .int 1), (4, .int (nI i)), (3, .ref (b + 66)), (2, .ref (b + 61)), (1, .ref b), (0, .ref b0)]) hx hb dL_law_425 hl (by decide) rfl (fun ls hl => ?_)
  refine lv_aload_n hx hb dL_law_427 rfl (lv_at hl 3 rfl) ?_
  refine lv_aload_n hx hb dL_law_428 rfl (lv_at hl 5 rfl) ?_
  refine lv_iload hx hb dL_law_429 (lv_at hl 1 rfl) ?_
  refine lv_iconst (v := 1) hx hb dL_law_431 (by decide) ?_
  refine lv_iadd hx hb dL_law_432 ?_
  refine z_toi (y := nI (i + 1)) (nI_add i 1) ?_
  refine va_sld hx hb hX0 hb0 hbA hS (vp_in_nI (by omega) (by omega)) dL_law_433 ?_
  refine z_toi (y := (nI p)) (by rw [nI_clamp (by omega)]; exact h1) ?_
  refine lv_aload_n hx hb dL_law_434 rfl (lv_at hl 5 rfl) ?_
  refine lv_iload hx hb dL_law_435 (lv_at hl 1 rfl) ?_
  refine lv_iconst (v := 2) hx hb dL_law_437 (by decide) ?_
  refine lv_iadd hx hb dL_law_438 ?_
  refine z_toi (y := nI (i + 2)) (nI_add i 2) ?_
  refine va_sld hx hb hX0 hb0 hbA hS (vp_in_nI (by omega) (by omega)) dL_law_439 ?_
  refine z_toi (y := y) (by rw [nI_clamp (by omega)]; exact h2) ?_
  refine z_mi (va_runV (As := [.int (nI p), .int y]) (rest := []) hfix (zcX5_parrot_b2 l D cI H1 (b + 61) tn n g me lo c bf e rd tk p y hM1 hI hp hx9) (cwV 2 hts gL_law_X5_parrot rfl rfl rfl (by decide +kernel) ⟨Nat.le_of_ble_eq_true rfl, Nat.le_of_ble_eq_true rfl⟩) (z_preV hK hKi hM1 (ci := 5) (q0 := 0) rfl rfl rfl) rfl rfl hl.1 rfl (lv_room (Nat.le_of_ble_eq_true rfl)) dL_law_440 ⟨by show cells + 1 + 0 ≤ 601024; omega, by show slots + 6 + 0 ≤ 7293033; omega⟩) hS (fun z _ h => by have h9 : zF (b + 61) (b + 61 + 5) z := h; have h8 := hS.1; show s.heap.size ≤ z; simp only [zF] at h9; omega) (fun z h => by have h9 : zF (b + 61) (b + 61 + 5) z := h; have h8 := hS.1; show s.heap.size ≤ z; simp only [zF] at h9; omega) (fun H2 lo2 hB hz2 hk2 hS => ?_)
  refine va_forget (fun q h => hS.2.2 q h) ?_
  have hS : va_S (fun q => s.heap.size ≤ q) s.heap H2 [] := ⟨hS.1, hS.2.1, fun z h => absurd h List.not_mem_nil⟩
  obtain ⟨hM2, hB9⟩ := hB
  have hC2 := zCW_kept hC1 (fun z h1 h2 h3 => hk2 z h1 (fun h4 => by have h9 : zF (b + 61) (b + 61 + 5) z := h4; simp only [zF] at h9; omega))
  have hO2 := zOb_kept hO1 (fun z h1 h2 h3 => hk2 z h1 (fun h4 => by have h9 : zF (b + 61) (b + 61 + 5) z := h4; simp only [zF] at h9; omega))
  refine lv_istore (lv' := [(6, .int 0), (5, .int 1), (4, .int (nI i)), (3, .ref (b + 66)), (2, .ref (b + 61)), (1, .ref b), (0, .ref b0)]) hx hb dL_law_443 hl (by decide) rfl (fun ls hl => ?_)
  refine lv_aload_n hx hb dL_law_445 rfl (lv_at hl 4 rfl) ?_
  refine z_ki (va_runV (As := []) (rest := []) hfix (zcX5_thrown l D cI H2 _ _ _ _ _ _ _ hM2) (cwV 0 hts gL_law_X5_thrown rfl rfl rfl (by decide +kernel) ⟨Nat.le_of_ble_eq_true rfl, Nat.le_of_ble_eq_true rfl⟩) (z_preV hK hKi hM2 (ci := 5) (q0 := 0) rfl rfl rfl) rfl rfl hl.1 rfl (lv_room (Nat.le_of_ble_eq_true rfl)) dL_law_446 ⟨by show cells + 1 + 0 + 0 ≤ 601024; omega, by show slots + 6 + 0 + 0 ≤ 7293033; omega⟩) ?_
  refine lv_iload hx hb dL_law_449 (lv_at hl 1 rfl) ?_
  refine lv_icmp_eq (tgt := 456) hx hb dL_law_451 (by decide) (fun c9 => ?_) (fun c9 => absurd rfl c9)
  refine lv_iload hx hb dL_law_456 (lv_at hl 1 rfl) ?_
  refine lv_if_ne (tgt := 473) hx hb dL_law_458 (by decide) (fun c9 => ?_) (fun c9 => absurd c9 (by decide))
  refine lv_goto (tgt := 1137) hx hb dL_law_473 (by decide) ?_
  refine W.widen (k := cells + 16) (n := slots + 214) (by omega) (by omega) ?_
  exact kk _ _ _ _ _ _ _ _ _ _ ⟨hC2, ⟨_, hO2⟩, ⟨_, _, hM2⟩, hI, hZ⟩ hS (lv_sub hl [2, 3, 4, 5, 6] rfl)
set_option maxHeartbeats 4000000 in
set_option maxRecDepth 100000 in
/-- zlv_half_h0 -/
theorem zlv_half_h0 {pg : Program} {l : Launch} {ev : Env} {s : State} {m : MethodId} {below : List Frame} {meth : Method} {cd : Code} {D : va_G} {cI cL cR : ClassId} {b0 L : Nat} {xs : Nat → Int32} {Q : State → Prop} {H : Heap} {b n : Nat} {me lo : Nat → Int32} {c e : Nat → Nat} {rd tk tn : Int32} {g : zG} {bf : Nat → Int32} {f : Nat → Int64} {i cells slots : Nat} {ls : Array Slot} (hfix : CallFix pg m cd cL_law 9 s #[.ref b0] wsL_law RL) (hK : va_K D vwCl [(cI, .int), (cL, .long), (cR, .array .int)] s) (hKw : zKw s) (hE : zE s.heap.size s) (hlt : l.stackTraces = false) (hX0 : va_X b0 L xs s s.heap) (hb0 : b0 < s.heap.size) (hbs : s.heap.size ≤ b) (hC : zCW D cI b n me lo c e rd tk g H) (hM : va_P D vwCl (zMo cI (b + 61) tn n (jf g me lo c) bf (zn e) (nm rd tk)) H) (hO : va_P D vwCl [(b + 66, .inl (cL, 1, .inr (.inl f)))] H) (hI : zI n me lo c e) (hZ : zJ n g) (hS : va_S (fun q => s.heap.size ≤ q) s.heap H []) (hi : i + 4 ≤ L) (hL : L ≤ 2048) (hcell : cells + 16 ≤ 601024) (hslot : slots + 214 ≤ 7293033) (hl : lv_has ls 9 [(4, .int (nI i)), (3, .ref (b + 66)), (2, .ref (b + 61)), (1, .ref b), (0, .ref b0)]) (kk : zLK pg l ev s m below meth cd D cI cL b0 Q b i cells slots) (p : Nat) (q : Nat) (hp : p < n) (hq : q ≤ 2) (h1 : xs (i + 1) = (nI p)) (h2 : xs (i + 2) = 0) (h3 : xs (i + 3) = (nI q)) : W pg l ev room_1 s m #[Value.ref b0] below meth cd H [] cells slots Q (F0 m 476 ls []) := by
  obtain ⟨hx, hb, hml, hown, hts⟩ := id hfix
  have hbA : ¬ (fun q : Nat => s.heap.size ≤ q) b0 := Nat.not_le.mpr hb0
  have hKi : va_K D vwCl [(cI, .int)] s := hK.sub [0] rfl
  have hKl : va_K D vwCl [(cI, .int), (cL, .long)] s := hK.sub [0, 1] rfl
  have hKq : va_K D vwCl [(cI, .int), (cR, .array .int)] s := hK.sub [0, 2] rfl
  have hsz := hS.1
  refine lv_aload_n hx hb dL_law_476 rfl (lv_at hl 3 rfl) ?_
  refine lv_aload_n hx hb dL_law_477 rfl (lv_at hl 4 rfl) ?_
  refine lv_iload hx hb dL_law_478 (lv_at hl 0 rfl) ?_
  refine lv_iconst (v := 1) hx hb dL_law_480 (by decide) ?_
  refine lv_iadd hx hb dL_law_481 ?_
  refine z_toi (y := nI (i + 1)) (nI_add i 1) ?_
  refine va_sld hx hb hX0 hb0 hbA hS (vp_in_nI (by omega) (by omega)) dL_law_482 ?_
  refine z_toi (y := (nI p)) (by rw [nI_clamp (by omega)]; exact h1) ?_
  refine lv_aload_n hx hb dL_law_483 rfl (lv_at hl 4 rfl) ?_
  refine lv_iload hx hb dL_law_484 (lv_at hl 0 rfl) ?_
  refine lv_iconst (v := 2) hx hb dL_law_486 (by decide) ?_
  refine lv_iadd hx hb dL_law_487 ?_
  refine z_toi (y := nI (i + 2)) (nI_add i 2) ?_
  refine va_sld hx hb hX0 hb0 hbA hS (vp_in_nI (by omega) (by omega)) dL_law_488 ?_
  refine z_toi (y := xs (i + 2)) (by rw [nI_clamp (by omega)]) ?_
  refine lv_if_eq (tgt := 496) hx hb dL_law_489 (by decide) (fun c9 => ?_) (fun c9 => absurd h2 c9)
  refine lv_iconst (v := 0) hx hb dL_law_496 (by decide) ?_
  refine lv_aload_n hx hb dL_law_497 rfl (lv_at hl 4 rfl) ?_
  refine lv_iload hx hb dL_law_498 (lv_at hl 0 rfl) ?_
  refine lv_iconst (v := 3) hx hb dL_law_500 (by decide) ?_
  refine lv_iadd hx hb dL_law_501 ?_
  refine z_toi (y := nI (i + 3)) (nI_add i 3) ?_
  refine va_sld hx hb hX0 hb0 hbA hS (vp_in_nI (by omega) (by omega)) dL_law_502 ?_
  refine z_toi (y := (nI q)) (by rw [nI_clamp (by omega)]; exact h3) ?_
  refine lv_aload_n hx hb dL_law_503 rfl (lv_at hl 1 rfl) ?_
  refine z_mi (vx_runSW (As := [.ref b, .int (nI p), .int 0, .int (nI q), .ref (b + 66)]) (rest := []) hfix (zcL_half_k0 l D cI cL H s.heap.size (b + 66) f b n me lo c e rd tk g p q hC hI hp hq hO (by omega)) (vx_cwSW 5 hts gL_law_L_half rfl rfl rfl (by decide +kernel) ⟨Nat.le_of_ble_eq_true rfl, Nat.le_of_ble_eq_true rfl⟩) (z_xpreS hE (fun q h1 h2 => hS.2.1 q h1 h2) hKl) rfl rfl hl.1 rfl (lv_room (Nat.le_of_ble_eq_true rfl)) dL_law_504 ⟨by show cells + 0 ≤ 601024; omega, by show slots + 0 ≤ 7293033; omega⟩) hS (fun z _ h => by have h9 : zF b (b + 61) z ∨ @Eq Nat z (b + 66) := h; have h8 := hS.1; show s.heap.size ≤ z; simp only [zF] at h9; omega) (fun z h => by have h9 : zF b (b + 61) z ∨ @Eq Nat z (b + 66) := h; have h8 := hS.1; show s.heap.size ≤ z; simp only [zF] at h9; omega) (fun H1 lo1 hB hz1 hk1 hS => ?_)
  refine va_forget (fun q h => hS.2.2 q h) ?_
  have hS : va_S (fun q => s.heap.size ≤ q) s.heap H1 [] := ⟨hS.1, hS.2.1, fun z h => absurd h List.not_mem_nil⟩
  have hM1 := zMo_kept hM (fun z h1 h2 h3 => hk1 z h1 (fun h4 => by have h9 : zF b (b + 61) z ∨ @Eq Nat z (b + 66) := h4; simp only [zF] at h9; omega))
  have hC1 := hB.1
  have hO1 := hB.2.1
  refine lv_istore (lv' := [(5, .int 0), (4, .int (nI i)), (3, .ref (b + 66)), (2, .ref (b + 61)), (1, .ref b), (0, .ref b0)]) hx hb dL_law_507 hl (by decide) rfl (fun ls hl => ?_)
  refine lv_aload_n hx hb dL_law_509 rfl (lv_at hl 3 rfl) ?_
  refine lv_aload_n hx hb dL_law_510 rfl (lv_at hl 5 rfl) ?_
  refine lv_iload hx hb dL_law_511 (lv_at hl 1 rfl) ?_
  refine lv_iconst (v := 1) hx hb dL_law_513 (by decide) ?_
  refine lv_iadd hx hb dL_law_514 ?_
  refine z_toi (y := nI (i + 1)) (nI_add i 1) ?_
  refine va_sld hx hb hX0 hb0 hbA hS (vp_in_nI (by omega) (by omega)) dL_law_515 ?_
  refine z_toi (y := (nI p)) (by rw [nI_clamp (by omega)]; exact h1) ?_
  refine lv_aload_n hx hb dL_law_516 rfl (lv_at hl 5 rfl) ?_
  refine lv_iload hx hb dL_law_517 (lv_at hl 1 rfl) ?_
  refine lv_iconst (v := 2) hx hb dL_law_519 (by decide) ?_
  refine lv_iadd hx hb dL_law_520 ?_
  refine z_toi (y := nI (i + 2)) (nI_add i 2) ?_
  refine va_sld hx hb hX0 hb0 hbA hS (vp_in_nI (by omega) (by omega)) dL_law_521 ?_
  refine z_toi (y := xs (i + 2)) (by rw [nI_clamp (by omega)]) ?_
  refine lv_if_eq (tgt := 529) hx hb dL_law_522 (by decide) (fun c9 => ?_) (fun c9 => absurd h2 c9)
  refine lv_iconst (v := 0) hx hb dL_law_529 (by decide) ?_
  refine lv_aload_n hx hb dL_law_530 rfl (lv_at hl 5 rfl) ?_
  refine lv_iload hx hb dL_law_531 (lv_at hl 1 rfl) ?_
  refine lv_iconst (v := 3) hx hb dL_law_533 (by decide) ?_
  refine lv_iadd hx hb dL_law_534 ?_
  refine z_toi (y := nI (i + 3)) (nI_add i 3) ?_
  refine va_sld hx hb hX0 hb0 hbA hS (vp_in_nI (by omega) (by omega)) dL_law_535 ?_
  refine z_toi (y := (nI q)) (by rw [nI_clamp (by omega)]; exact h3) ?_
  refine z_mi (va_runV (As := [.int (nI p), .int 0, .int (nI q)]) (rest := []) hfix (zcX5_half_k0 l D cI H1 (b + 61) tn n g me lo c bf e rd tk p q hM1 hI hp hq) (cwV 3 hts gL_law_X5_half rfl rfl rfl (by decide +kernel) ⟨Nat.le_of_ble_eq_true rfl, Nat.le_of_ble_eq_true rfl⟩) (z_preV hK hKi hM1 (ci := 5) (q0 := 0) rfl rfl rfl) rfl rfl hl.1 rfl (lv_room (Nat.le_of_ble_eq_true rfl)) dL_law_536 ⟨by show cells + 0 + 0 ≤ 601024; omega, by show slots + 0 + 0 ≤ 7293033; omega⟩) hS (fun z _ h => by have h9 : zF (b + 61) (b + 61 + 5) z := h; have h8 := hS.1; show s.heap.size ≤ z; simp only [zF] at h9; omega) (fun z h => by have h9 : zF (b + 61) (b + 61 + 5) z := h; have h8 := hS.1; show s.heap.size ≤ z; simp only [zF] at h9; omega) (fun H2 lo2 hB hz2 hk2 hS => ?_)
  refine va_forget (fun q h => hS.2.2 q h) ?_
  have hS : va_S (fun q => s.heap.size ≤ q) s.heap H2 [] := ⟨hS.1, hS.2.1, fun z h => absurd h List.not_mem_nil⟩
  obtain ⟨hM2, hB9⟩ := hB
  have hC2 := zCW_kept hC1 (fun z h1 h2 h3 => hk2 z h1 (fun h4 => by have h9 : zF (b + 61) (b + 61 + 5) z := h4; simp only [zF] at h9; omega))
  have hO2 := zOb_kept hO1 (fun z h1 h2 h3 => hk2 z h1 (fun h4 => by have h9 : zF (b + 61) (b + 61 + 5) z := h4; simp only [zF] at h9; omega))
  refine lv_istore (lv' := [(6, .int (th g p 0 q)), (5, .int 0), (4, .int (nI i)), (3, .ref (b + 66)), (2, .ref (b + 61)), (1, .ref b), (0, .ref b0)]) hx hb dL_law_539 hl (by decide) rfl (fun ls hl => ?_)
  refine lv_aload_n hx hb dL_law_541 rfl (lv_at hl 4 rfl) ?_
  refine z_ki (va_runV (As := []) (rest := []) hfix (zcX5_thrown l D cI H2 _ _ _ _ _ _ _ hM2) (cwV 0 hts gL_law_X5_thrown rfl rfl rfl (by decide +kernel) ⟨Nat.le_of_ble_eq_true rfl, Nat.le_of_ble_eq_true rfl⟩) (z_preV hK hKi hM2 (ci := 5) (q0 := 0) rfl rfl rfl) rfl rfl hl.1 rfl (lv_room (Nat.le_of_ble_eq_true rfl)) dL_law_542 ⟨by show cells + 0 + 0 + 0 ≤ 601024; omega, by show slots + 0 + 0 + 0 ≤ 7293033; omega⟩) ?_
  refine lv_iload hx hb dL_law_545 (lv_at hl 1 rfl) ?_
  refine lv_icmp_eq (tgt := 552) hx hb dL_law_547 (by decide) (fun c9 => ?_) (fun c9 => absurd rfl c9)
  refine lv_iload hx hb dL_law_552 (lv_at hl 1 rfl) ?_
  refine lv_if_ne (tgt := 569) hx hb dL_law_554 (by decide) (fun c9 => absurd rfl c9) (fun c9 => ?_)
  refine lv_aload_n hx hb dL_law_557 rfl (lv_at hl 3 rfl) ?_
  refine lv_iconst (v := 0) hx hb dL_law_558 (by decide) ?_
  refine va_lald hx hb hK hO2 0 1 rfl rfl (vp_in_nI (n := 0) (by decide) (by decide)) dL_law_559 ?_
  refine z_tol (y := ((th g p 0 q)).toInt64) (by rfl) ?_
  refine lv_iload hx hb dL_law_560 (lv_at hl 0 rfl) ?_
  refine lv_i2l (v := ((th g p 0 q)).toInt64) hx hb dL_law_562 rfl ?_
  refine W.lcmp hx hb dL_law_563 ?_
  refine z_toi (y := 0) ((lg_cmp_eq _ _).mpr rfl) ?_
  refine lv_if_eq (tgt := 569) hx hb dL_law_564 (by decide) (fun c9 => ?_) (fun c9 => absurd rfl c9)
  refine lv_goto (tgt := 1137) hx hb dL_law_569 (by decide) ?_
  refine W.widen (k := cells + 16) (n := slots + 214) (by omega) (by omega) ?_
  exact kk _ _ _ _ _ _ _ _ _ _ ⟨hC2, ⟨_, hO2⟩, ⟨_, _, hM2⟩, hI, hZ⟩ hS (lv_sub hl [2, 3, 4, 5, 6] rfl)
set_option maxHeartbeats 4000000 in
set_option maxRecDepth 100000 in
/-- zlv_half_h1 -/
theorem zlv_half_h1 {pg : Program} {l : Launch} {ev : Env} {s : State} {m : MethodId} {below : List Frame} {meth : Method} {cd : Code} {D : va_G} {cI cL cR : ClassId} {b0 L : Nat} {xs : Nat → Int32} {Q : State → Prop} {H : Heap} {b n : Nat} {me lo : Nat → Int32} {c e : Nat → Nat} {rd tk tn : Int32} {g : zG} {bf : Nat → Int32} {f : Nat → Int64} {i cells slots : Nat} {ls : Array Slot} (hfix : CallFix pg m cd cL_law 9 s #[.ref b0] wsL_law RL) (hK : va_K D vwCl [(cI, .int), (cL, .long), (cR, .array .int)] s) (hKw : zKw s) (hE : zE s.heap.size s) (hlt : l.stackTraces = false) (hX0 : va_X b0 L xs s s.heap) (hb0 : b0 < s.heap.size) (hbs : s.heap.size ≤ b) (hC : zCW D cI b n me lo c e rd tk g H) (hM : va_P D vwCl (zMo cI (b + 61) tn n (jf g me lo c) bf (zn e) (nm rd tk)) H) (hO : va_P D vwCl [(b + 66, .inl (cL, 1, .inr (.inl f)))] H) (hI : zI n me lo c e) (hZ : zJ n g) (hS : va_S (fun q => s.heap.size ≤ q) s.heap H []) (hi : i + 4 ≤ L) (hL : L ≤ 2048) (hcell : cells + 16 ≤ 601024) (hslot : slots + 214 ≤ 7293033) (hl : lv_has ls 9 [(4, .int (nI i)), (3, .ref (b + 66)), (2, .ref (b + 61)), (1, .ref b), (0, .ref b0)]) (kk : zLK pg l ev s m below meth cd D cI cL b0 Q b i cells slots) (p : Nat) (q : Nat) (hp : p < n) (hq : q ≤ 2) (h1 : xs (i + 1) = (nI p)) (h2 : ¬ xs (i + 2) = 0) (h3 : xs (i + 3) = (nI q)) : W pg l ev room_1 s m #[Value.ref b0] below meth cd H [] cells slots Q (F0 m 476 ls []) := by
  obtain ⟨hx, hb, hml, hown, hts⟩ := id hfix
  have hbA : ¬ (fun q : Nat => s.heap.size ≤ q) b0 := Nat.not_le.mpr hb0
  have hKi : va_K D vwCl [(cI, .int)] s := hK.sub [0] rfl
  have hKl : va_K D vwCl [(cI, .int), (cL, .long)] s := hK.sub [0, 1] rfl
  have hKq : va_K D vwCl [(cI, .int), (cR, .array .int)] s := hK.sub [0, 2] rfl
  have hsz := hS.1
  refine lv_aload_n hx hb dL_law_476 rfl (lv_at hl 3 rfl) ?_
  refine lv_aload_n hx hb dL_law_477 rfl (lv_at hl 4 rfl) ?_
  refine lv_iload hx hb dL_law_478 (lv_at hl 0 rfl) ?_
  refine lv_iconst (v := 1) hx hb dL_law_480 (by decide) ?_
  refine lv_iadd hx hb dL_law_481 ?_
  refine z_toi (y := nI (i + 1)) (nI_add i 1) ?_
  refine va_sld hx hb hX0 hb0 hbA hS (vp_in_nI (by omega) (by omega)) dL_law_482 ?_
  refine z_toi (y := (nI p)) (by rw [nI_clamp (by omega)]; exact h1) ?_
  refine lv_aload_n hx hb dL_law_483 rfl (lv_at hl 4 rfl) ?_
  refine lv_iload hx hb dL_law_484 (lv_at hl 0 rfl) ?_
  refine lv_iconst (v := 2) hx hb dL_law_486 (by decide) ?_
  refine lv_iadd hx hb dL_law_487 ?_
  refine z_toi (y := nI (i + 2)) (nI_add i 2) ?_
  refine va_sld hx hb hX0 hb0 hbA hS (vp_in_nI (by omega) (by omega)) dL_law_488 ?_
  refine z_toi (y := xs (i + 2)) (by rw [nI_clamp (by omega)]) ?_
  refine lv_if_eq (tgt := 496) hx hb dL_law_489 (by decide) (fun c9 => absurd c9 h2) (fun c9 => ?_)
  refine lv_iconst (v := 1) hx hb dL_law_492 (by decide) ?_
  refine lv_goto (tgt := 497) hx hb dL_law_493 (by decide) ?_
  refine lv_aload_n hx hb dL_law_497 rfl (lv_at hl 4 rfl) ?_
  refine lv_iload hx hb dL_law_498 (lv_at hl 0 rfl) ?_
  refine lv_iconst (v := 3) hx hb dL_law_500 (by decide) ?_
  refine lv_iadd hx hb dL_law_501 ?_
  refine z_toi (y := nI (i + 3)) (nI_add i 3) ?_
  refine va_sld hx hb hX0 hb0 hbA hS (vp_in_nI (by omega) (by omega)) dL_law_502 ?_
  refine z_toi (y := (nI q)) (by rw [nI_clamp (by omega)]; exact h3) ?_
  refine lv_aload_n hx hb dL_law_503 rfl (lv_at hl 1 rfl) ?_
  refine z_mi (vx_runSW (As := [.ref b, .int (nI p), .int 1, .int (nI q), .ref (b + 66)]) (rest := []) hfix (zcL_half_k1 l D cI cL H s.heap.size (b + 66) f b n me lo c e rd tk g p q hC hI hp hq hO (by omega)) (vx_cwSW 5 hts gL_law_L_half rfl rfl rfl (by decide +kernel) ⟨Nat.le_of_ble_eq_true rfl, Nat.le_of_ble_eq_true rfl⟩) (z_xpreS hE (fun q h1 h2 => hS.2.1 q h1 h2) hKl) rfl rfl hl.1 rfl (lv_room (Nat.le_of_ble_eq_true rfl)) dL_law_504 ⟨by show cells + 0 ≤ 601024; omega, by show slots + 0 ≤ 7293033; omega⟩) hS (fun z _ h => by have h9 : zF b (b + 61) z ∨ @Eq Nat z (b + 66) := h; have h8 := hS.1; show s.heap.size ≤ z; simp only [zF] at h9; omega) (fun z h => by have h9 : zF b (b + 61) z ∨ @Eq Nat z (b + 66) := h; have h8 := hS.1; show s.heap.size ≤ z; simp only [zF] at h9; omega) (fun H1 lo1 hB hz1 hk1 hS => ?_)
  refine va_forget (fun q h => hS.2.2 q h) ?_
  have hS : va_S (fun q => s.heap.size ≤ q) s.heap H1 [] := ⟨hS.1, hS.2.1, fun z h => absurd h List.not_mem_nil⟩
  have hM1 := zMo_kept hM (fun z h1 h2 h3 => hk1 z h1 (fun h4 => by have h9 : zF b (b + 61) z ∨ @Eq Nat z (b + 66) := h4; simp only [zF] at h9; omega))
  have hC1 := hB.1
  have hO1 := hB.2.1
  refine lv_istore (lv' := [(5, .int 0), (4, .int (nI i)), (3, .ref (b + 66)), (2, .ref (b + 61)), (1, .ref b), (0, .ref b0)]) hx hb dL_law_507 hl (by decide) rfl (fun ls hl => ?_)
  refine lv_aload_n hx hb dL_law_509 rfl (lv_at hl 3 rfl) ?_
  refine lv_aload_n hx hb dL_law_510 rfl (lv_at hl 5 rfl) ?_
  refine lv_iload hx hb dL_law_511 (lv_at hl 1 rfl) ?_
  refine lv_iconst (v := 1) hx hb dL_law_513 (by decide) ?_
  refine lv_iadd hx hb dL_law_514 ?_
  refine z_toi (y := nI (i + 1)) (nI_add i 1) ?_
  refine va_sld hx hb hX0 hb0 hbA hS (vp_in_nI (by omega) (by omega)) dL_law_515 ?_
  refine z_toi (y := (nI p)) (by rw [nI_clamp (by omega)]; exact h1) ?_
  refine lv_aload_n hx hb dL_law_516 rfl (lv_at hl 5 rfl) ?_
  refine lv_iload hx hb dL_law_517 (lv_at hl 1 rfl) ?_
  refine lv_iconst (v := 2) hx hb dL_law_519 (by decide) ?_
  refine lv_iadd hx hb dL_law_520 ?_
  refine z_toi (y := nI (i + 2)) (nI_add i 2) ?_
  refine va_sld hx hb hX0 hb0 hbA hS (vp_in_nI (by omega) (by omega)) dL_law_521 ?_
  refine z_toi (y := xs (i + 2)) (by rw [nI_clamp (by omega)]) ?_
  refine lv_if_eq (tgt := 529) hx hb dL_law_522 (by decide) (fun c9 => absurd c9 h2) (fun c9 => ?_)
  refine lv_iconst (v := 1) hx hb dL_law_525 (by decide) ?_
  refine lv_goto (tgt := 530) hx hb dL_law_526 (by decide) ?_
  refine lv_aload_n hx hb dL_law_530 rfl (lv_at hl 5 rfl) ?_
  refine lv_iload hx hb dL_law_531 (lv_at hl 1 rfl) ?_
  refine lv_iconst (v := 3) hx hb dL_law_533 (by decide) ?_
  refine lv_iadd hx hb dL_law_534 ?_
  refine z_toi (y := nI (i + 3)) (nI_add i 3) ?_
  refine va_sld hx hb hX0 hb0 hbA hS (vp_in_nI (by omega) (by omega)) dL_law_535 ?_
  refine z_toi (y := (nI q)) (by rw [nI_clamp (by omega)]; exact h3) ?_
  refine z_mi (va_runV (As := [.int (nI p), .int 1, .int (nI q)]) (rest := []) hfix (zcX5_half_k1 l D cI H1 (b + 61) tn n g me lo c bf e rd tk p q hM1 hI hp hq) (cwV 3 hts gL_law_X5_half rfl rfl rfl (by decide +kernel) ⟨Nat.le_of_ble_eq_true rfl, Nat.le_of_ble_eq_true rfl⟩) (z_preV hK hKi hM1 (ci := 5) (q0 := 0) rfl rfl rfl) rfl rfl hl.1 rfl (lv_room (Nat.le_of_ble_eq_true rfl)) dL_law_536 ⟨by show cells + 0 + 0 ≤ 601024; omega, by show slots + 0 + 0 ≤ 7293033; omega⟩) hS (fun z _ h => by have h9 : zF (b + 61) (b + 61 + 5) z := h; have h8 := hS.1; show s.heap.size ≤ z; simp only [zF] at h9; omega) (fun z h => by have h9 : zF (b + 61) (b + 61 + 5) z := h; have h8 := hS.1; show s.heap.size ≤ z; simp only [zF] at h9; omega) (fun H2 lo2 hB hz2 hk2 hS => ?_)
  refine va_forget (fun q h => hS.2.2 q h) ?_
  have hS : va_S (fun q => s.heap.size ≤ q) s.heap H2 [] := ⟨hS.1, hS.2.1, fun z h => absurd h List.not_mem_nil⟩
  obtain ⟨hM2, hB9⟩ := hB
  have hC2 := zCW_kept hC1 (fun z h1 h2 h3 => hk2 z h1 (fun h4 => by have h9 : zF (b + 61) (b + 61 + 5) z := h4; simp only [zF] at h9; omega))
  have hO2 := zOb_kept hO1 (fun z h1 h2 h3 => hk2 z h1 (fun h4 => by have h9 : zF (b + 61) (b + 61 + 5) z := h4; simp only [zF] at h9; omega))
  refine lv_istore (lv' := [(6, .int (th g p 1 q)), (5, .int 0), (4, .int (nI i)), (3, .ref (b + 66)), (2, .ref (b + 61)), (1, .ref b), (0, .ref b0)]) hx hb dL_law_539 hl (by decide) rfl (fun ls hl => ?_)
  refine lv_aload_n hx hb dL_law_541 rfl (lv_at hl 4 rfl) ?_
  refine z_ki (va_runV (As := []) (rest := []) hfix (zcX5_thrown l D cI H2 _ _ _ _ _ _ _ hM2) (cwV 0 hts gL_law_X5_thrown rfl rfl rfl (by decide +kernel) ⟨Nat.le_of_ble_eq_true rfl, Nat.le_of_ble_eq_true rfl⟩) (z_preV hK hKi hM2 (ci := 5) (q0 := 0) rfl rfl rfl) rfl rfl hl.1 rfl (lv_room (Nat.le_of_ble_eq_true rfl)) dL_law_542 ⟨by show cells + 0 + 0 + 0 ≤ 601024; omega, by show slots + 0 + 0 + 0 ≤ 7293033; omega⟩) ?_
  refine lv_iload hx hb dL_law_545 (lv_at hl 1 rfl) ?_
  refine lv_icmp_eq (tgt := 552) hx hb dL_law_547 (by decide) (fun c9 => ?_) (fun c9 => absurd rfl c9)
  refine lv_iload hx hb dL_law_552 (lv_at hl 1 rfl) ?_
  refine lv_if_ne (tgt := 569) hx hb dL_law_554 (by decide) (fun c9 => absurd rfl c9) (fun c9 => ?_)
  refine lv_aload_n hx hb dL_law_557 rfl (lv_at hl 3 rfl) ?_
  refine lv_iconst (v := 0) hx hb dL_law_558 (by decide) ?_
  refine va_lald hx hb hK hO2 0 1 rfl rfl (vp_in_nI (n := 0) (by decide) (by decide)) dL_law_559 ?_
  refine z_tol (y := ((th g p 1 q)).toInt64) (by rfl) ?_
  refine lv_iload hx hb dL_law_560 (lv_at hl 0 rfl) ?_
  refine lv_i2l (v := ((th g p 1 q)).toInt64) hx hb dL_law_562 rfl ?_
  refine W.lcmp hx hb dL_law_563 ?_
  refine z_toi (y := 0) ((lg_cmp_eq _ _).mpr rfl) ?_
  refine lv_if_eq (tgt := 569) hx hb dL_law_564 (by decide) (fun c9 => ?_) (fun c9 => absurd rfl c9)
  refine lv_goto (tgt := 1137) hx hb dL_law_569 (by decide) ?_
  refine W.widen (k := cells + 16) (n := slots + 214) (by omega) (by omega) ?_
  exact kk _ _ _ _ _ _ _ _ _ _ ⟨hC2, ⟨_, hO2⟩, ⟨_, _, hM2⟩, hI, hZ⟩ hS (lv_sub hl [2, 3, 4, 5, 6] rfl)
set_option maxHeartbeats 4000000 in
set_option maxRecDepth 100000 in
/-- zlv_half_b1_0 -/
theorem zlv_half_b1_0 {pg : Program} {l : Launch} {ev : Env} {s : State} {m : MethodId} {below : List Frame} {meth : Method} {cd : Code} {D : va_G} {cI cL cR : ClassId} {b0 L : Nat} {xs : Nat → Int32} {Q : State → Prop} {H : Heap} {b n : Nat} {me lo : Nat → Int32} {c e : Nat → Nat} {rd tk tn : Int32} {g : zG} {bf : Nat → Int32} {f : Nat → Int64} {i cells slots : Nat} {ls : Array Slot} (hfix : CallFix pg m cd cL_law 9 s #[.ref b0] wsL_law RL) (hK : va_K D vwCl [(cI, .int), (cL, .long), (cR, .array .int)] s) (hKw : zKw s) (hE : zE s.heap.size s) (hlt : l.stackTraces = false) (hX0 : va_X b0 L xs s s.heap) (hb0 : b0 < s.heap.size) (hbs : s.heap.size ≤ b) (hC : zCW D cI b n me lo c e rd tk g H) (hM : va_P D vwCl (zMo cI (b + 61) tn n (jf g me lo c) bf (zn e) (nm rd tk)) H) (hO : va_P D vwCl [(b + 66, .inl (cL, 1, .inr (.inl f)))] H) (hI : zI n me lo c e) (hZ : zJ n g) (hS : va_S (fun q => s.heap.size ≤ q) s.heap H []) (hi : i + 4 ≤ L) (hL : L ≤ 2048) (hcell : cells + 16 ≤ 601024) (hslot : slots + 214 ≤ 7293033) (hl : lv_has ls 9 [(4, .int (nI i)), (3, .ref (b + 66)), (2, .ref (b + 61)), (1, .ref b), (0, .ref b0)]) (kk : zLK pg l ev s m below meth cd D cI cL b0 Q b i cells slots) (x : Int32) (y : Int32) (hx9 : ¬ ∃ j, j < n ∧ x = nI j) (h1 : xs (i + 1) = x) (h2 : xs (i + 2) = 0) (h3 : xs (i + 3) = y) : W pg l ev room_1 s m #[Value.ref b0] below meth cd H [] cells slots Q (F0 m 476 ls []) := by
  obtain ⟨hx, hb, hml, hown, hts⟩ := id hfix
  have hbA : ¬ (fun q : Nat => s.heap.size ≤ q) b0 := Nat.not_le.mpr hb0
  have hKi : va_K D vwCl [(cI, .int)] s := hK.sub [0] rfl
  have hKl : va_K D vwCl [(cI, .int), (cL, .long)] s := hK.sub [0, 1] rfl
  have hKq : va_K D vwCl [(cI, .int), (cR, .array .int)] s := hK.sub [0, 2] rfl
  have hsz := hS.1
  refine lv_aload_n hx hb dL_law_476 rfl (lv_at hl 3 rfl) ?_
  refine lv_aload_n hx hb dL_law_477 rfl (lv_at hl 4 rfl) ?_
  refine lv_iload hx hb dL_law_478 (lv_at hl 0 rfl) ?_
  refine lv_iconst (v := 1) hx hb dL_law_480 (by decide) ?_
  refine lv_iadd hx hb dL_law_481 ?_
  refine z_toi (y := nI (i + 1)) (nI_add i 1) ?_
  refine va_sld hx hb hX0 hb0 hbA hS (vp_in_nI (by omega) (by omega)) dL_law_482 ?_
  refine z_toi (y := x) (by rw [nI_clamp (by omega)]; exact h1) ?_
  refine lv_aload_n hx hb dL_law_483 rfl (lv_at hl 4 rfl) ?_
  refine lv_iload hx hb dL_law_484 (lv_at hl 0 rfl) ?_
  refine lv_iconst (v := 2) hx hb dL_law_486 (by decide) ?_
  refine lv_iadd hx hb dL_law_487 ?_
  refine z_toi (y := nI (i + 2)) (nI_add i 2) ?_
  refine va_sld hx hb hX0 hb0 hbA hS (vp_in_nI (by omega) (by omega)) dL_law_488 ?_
  refine z_toi (y := xs (i + 2)) (by rw [nI_clamp (by omega)]) ?_
  refine lv_if_eq (tgt := 496) hx hb dL_law_489 (by decide) (fun c9 => ?_) (fun c9 => absurd h2 c9)
  refine lv_iconst (v := 0) hx hb dL_law_496 (by decide) ?_
  refine lv_aload_n hx hb dL_law_497 rfl (lv_at hl 4 rfl) ?_
  refine lv_iload hx hb dL_law_498 (lv_at hl 0 rfl) ?_
  refine lv_iconst (v := 3) hx hb dL_law_500 (by decide) ?_
  refine lv_iadd hx hb dL_law_501 ?_
  refine z_toi (y := nI (i + 3)) (nI_add i 3) ?_
  refine va_sld hx hb hX0 hb0 hbA hS (vp_in_nI (by omega) (by omega)) dL_law_502 ?_
  refine z_toi (y := y) (by rw [nI_clamp (by omega)]; exact h3) ?_
  refine lv_aload_n hx hb dL_law_503 rfl (lv_at hl 1 rfl) ?_
  refine z_mi (vx_runSW (As := [.ref b, .int x, .int 0, .int y, .ref (b + 66)]) (rest := []) hfix (zcL_half_b1 l D cI cL H s.heap.size (b + 66) hlt hS.1 b n me lo c e rd tk g x 0 y hC hI hx9) (vx_cwSW 5 hts gL_law_L_half rfl rfl rfl (by decide +kernel) ⟨Nat.le_of_ble_eq_true rfl, Nat.le_of_ble_eq_true rfl⟩) (z_xpreS hE (fun q h1 h2 => hS.2.1 q h1 h2) hKl) rfl rfl hl.1 rfl (lv_room (Nat.le_of_ble_eq_true rfl)) dL_law_504 ⟨by show cells + 1 ≤ 601024; omega, by show slots + 6 ≤ 7293033; omega⟩) hS (fun z _ h => by have h9 : H.size ≤ z := h; have h8 := hS.1; show s.heap.size ≤ z; omega) (fun z h => by have h9 : H.size ≤ z := h; have h8 := hS.1; show s.heap.size ≤ z; omega) (fun H1 lo1 hB hz1 hk1 hS => ?_)
  refine va_forget (fun q h => hS.2.2 q h) ?_
  have hS : va_S (fun q => s.heap.size ≤ q) s.heap H1 [] := ⟨hS.1, hS.2.1, fun z h => absurd h List.not_mem_nil⟩
  have hM1 := zMo_kept hM (fun z h1 h2 h3 => hk1 z h1 (fun h4 => by have h9 : H.size ≤ z := h4; omega))
  have hC1 := zCW_kept hC (fun z h1 h2 h3 => hk1 z h1 (fun h4 => by have h9 : H.size ≤ z := h4; omega))
  have hO1 := zOb_kept hO (fun z h1 h2 h3 => hk1 z h1 (fun h4 => by have h9 : H.size ≤ z := h4; omega))
  refine lv_istore (lv' := [(5, .int 1), (4, .int (nI i)), (3, .ref (b + 66)), (2, .ref (b + 61)), (1, .ref b), (0, .ref b0)]) hx hb dL_law_507 hl (by decide) rfl (fun ls hl => ?_)
  refine lv_aload_n hx hb dL_law_509 rfl (lv_at hl 3 rfl) ?_
  refine lv_aload_n hx hb dL_law_510 rfl (lv_at hl 5 rfl) ?_
  refine lv_iload hx hb dL_law_511 (lv_at hl 1 rfl) ?_
  refine lv_iconst (v := 1) hx hb dL_law_513 (by decide) ?_
  refine lv_iadd hx hb dL_law_514 ?_
  refine z_toi (y := nI (i + 1)) (nI_add i 1) ?_
  refine va_sld hx hb hX0 hb0 hbA hS (vp_in_nI (by omega) (by omega)) dL_law_515 ?_
  refine z_toi (y := x) (by rw [nI_clamp (by omega)]; exact h1) ?_
  refine lv_aload_n hx hb dL_law_516 rfl (lv_at hl 5 rfl) ?_
  refine lv_iload hx hb dL_law_517 (lv_at hl 1 rfl) ?_
  refine lv_iconst (v := 2) hx hb dL_law_519 (by decide) ?_
  refine lv_iadd hx hb dL_law_520 ?_
  refine z_toi (y := nI (i + 2)) (nI_add i 2) ?_
  refine va_sld hx hb hX0 hb0 hbA hS (vp_in_nI (by omega) (by omega)) dL_law_521 ?_
  refine z_toi (y := xs (i + 2)) (by rw [nI_clamp (by omega)]) ?_
  refine lv_if_eq (tgt := 529) hx hb dL_law_522 (by decide) (fun c9 => ?_) (fun c9 => absurd h2 c9)
  refine lv_iconst (v := 0) hx hb dL_law_529 (by decide) ?_
  refine lv_aload_n hx hb dL_law_530 rfl (lv_at hl 5 rfl) ?_
  refine lv_iload hx hb dL_law_531 (lv_at hl 1 rfl) ?_
  refine lv_iconst (v := 3) hx hb dL_law_533 (by decide) ?_
  refine lv_iadd hx hb dL_law_534 ?_
  refine z_toi (y := nI (i + 3)) (nI_add i 3) ?_
  refine va_sld hx hb hX0 hb0 hbA hS (vp_in_nI (by omega) (by omega)) dL_law_535 ?_
  refine z_toi (y := y) (by rw [nI_clamp (by omega)]; exact h3) ?_
  refine z_mi (va_runV (As := [.int x, .int 0, .int y]) (rest := []) hfix (zcX5_half_b1 l D cI H1 (b + 61) tn n g me lo c bf e rd tk x 0 y hM1 hI hx9) (cwV 3 hts gL_law_X5_half rfl rfl rfl (by decide +kernel) ⟨Nat.le_of_ble_eq_true rfl, Nat.le_of_ble_eq_true rfl⟩) (z_preV hK hKi hM1 (ci := 5) (q0 := 0) rfl rfl rfl) rfl rfl hl.1 rfl (lv_room (Nat.le_of_ble_eq_true rfl)) dL_law_536 ⟨by show cells + 1 + 0 ≤ 601024; omega, by show slots + 6 + 0 ≤ 7293033; omega⟩) hS (fun z _ h => by have h9 : zF (b + 61) (b + 61 + 5) z := h; have h8 := hS.1; show s.heap.size ≤ z; simp only [zF] at h9; omega) (fun z h => by have h9 : zF (b + 61) (b + 61 + 5) z := h; have h8 := hS.1; show s.heap.size ≤ z; simp only [zF] at h9; omega) (fun H2 lo2 hB hz2 hk2 hS => ?_)
  refine va_forget (fun q h => hS.2.2 q h) ?_
  have hS : va_S (fun q => s.heap.size ≤ q) s.heap H2 [] := ⟨hS.1, hS.2.1, fun z h => absurd h List.not_mem_nil⟩
  obtain ⟨hM2, hB9⟩ := hB
  have hC2 := zCW_kept hC1 (fun z h1 h2 h3 => hk2 z h1 (fun h4 => by have h9 : zF (b + 61) (b + 61 + 5) z := h4; simp only [zF] at h9; omega))
  have hO2 := zOb_kept hO1 (fun z h1 h2 h3 => hk2 z h1 (fun h4 => by have h9 : zF (b + 61) (b + 61 + 5) z := h4; simp only [zF] at h9; omega))
  refine lv_istore (lv' := [(6, .int 0), (5, .int 1), (4, .int (nI i)), (3, .ref (b + 66)), (2, .ref (b + 61)), (1, .ref b), (0, .ref b0)]) hx hb dL_law_539 hl (by decide) rfl (fun ls hl => ?_)
  refine lv_aload_n hx hb dL_law_541 rfl (lv_at hl 4 rfl) ?_
  refine z_ki (va_runV (As := []) (rest := []) hfix (zcX5_thrown l D cI H2 _ _ _ _ _ _ _ hM2) (cwV 0 hts gL_law_X5_thrown rfl rfl rfl (by decide +kernel) ⟨Nat.le_of_ble_eq_true rfl, Nat.le_of_ble_eq_true rfl⟩) (z_preV hK hKi hM2 (ci := 5) (q0 := 0) rfl rfl rfl) rfl rfl hl.1 rfl (lv_room (Nat.le_of_ble_eq_true rfl)) dL_law_542 ⟨by show cells + 1 + 0 + 0 ≤ 601024; omega, by show slots + 6 + 0 + 0 ≤ 7293033; omega⟩) ?_
  refine lv_iload hx hb dL_law_545 (lv_at hl 1 rfl) ?_
  refine lv_icmp_eq (tgt := 552) hx hb dL_law_547 (by decide) (fun c9 => ?_) (fun c9 => absurd rfl c9)
  refine lv_iload hx hb dL_law_552 (lv_at hl 1 rfl) ?_
  refine lv_if_ne (tgt := 569) hx hb dL_law_554 (by decide) (fun c9 => ?_) (fun c9 => absurd c9 (by decide))
  refine lv_goto (tgt := 1137) hx hb dL_law_569 (by decide) ?_
  refine W.widen (k := cells + 16) (n := slots + 214) (by omega) (by omega) ?_
  exact kk _ _ _ _ _ _ _ _ _ _ ⟨hC2, ⟨_, hO2⟩, ⟨_, _, hM2⟩, hI, hZ⟩ hS (lv_sub hl [2, 3, 4, 5, 6] rfl)
set_option maxHeartbeats 4000000 in
set_option maxRecDepth 100000 in
/-- zlv_half_b1_1 -/
theorem zlv_half_b1_1 {pg : Program} {l : Launch} {ev : Env} {s : State} {m : MethodId} {below : List Frame} {meth : Method} {cd : Code} {D : va_G} {cI cL cR : ClassId} {b0 L : Nat} {xs : Nat → Int32} {Q : State → Prop} {H : Heap} {b n : Nat} {me lo : Nat → Int32} {c e : Nat → Nat} {rd tk tn : Int32} {g : zG} {bf : Nat → Int32} {f : Nat → Int64} {i cells slots : Nat} {ls : Array Slot} (hfix : CallFix pg m cd cL_law 9 s #[.ref b0] wsL_law RL) (hK : va_K D vwCl [(cI, .int), (cL, .long), (cR, .array .int)] s) (hKw : zKw s) (hE : zE s.heap.size s) (hlt : l.stackTraces = false) (hX0 : va_X b0 L xs s s.heap) (hb0 : b0 < s.heap.size) (hbs : s.heap.size ≤ b) (hC : zCW D cI b n me lo c e rd tk g H) (hM : va_P D vwCl (zMo cI (b + 61) tn n (jf g me lo c) bf (zn e) (nm rd tk)) H) (hO : va_P D vwCl [(b + 66, .inl (cL, 1, .inr (.inl f)))] H) (hI : zI n me lo c e) (hZ : zJ n g) (hS : va_S (fun q => s.heap.size ≤ q) s.heap H []) (hi : i + 4 ≤ L) (hL : L ≤ 2048) (hcell : cells + 16 ≤ 601024) (hslot : slots + 214 ≤ 7293033) (hl : lv_has ls 9 [(4, .int (nI i)), (3, .ref (b + 66)), (2, .ref (b + 61)), (1, .ref b), (0, .ref b0)]) (kk : zLK pg l ev s m below meth cd D cI cL b0 Q b i cells slots) (x : Int32) (y : Int32) (hx9 : ¬ ∃ j, j < n ∧ x = nI j) (h1 : xs (i + 1) = x) (h2 : ¬ xs (i + 2) = 0) (h3 : xs (i + 3) = y) : W pg l ev room_1 s m #[Value.ref b0] below meth cd H [] cells slots Q (F0 m 476 ls []) := by
  obtain ⟨hx, hb, hml, hown, hts⟩ := id hfix
  have hbA : ¬ (fun q : Nat => s.heap.size ≤ q) b0 := Nat.not_le.mpr hb0
  have hKi : va_K D vwCl [(cI, .int)] s := hK.sub [0] rfl
  have hKl : va_K D vwCl [(cI, .int), (cL, .long)] s := hK.sub [0, 1] rfl
  have hKq : va_K D vwCl [(cI, .int), (cR, .array .int)] s := hK.sub [0, 2] rfl
  have hsz := hS.1
  refine lv_aload_n hx hb dL_law_476 rfl (lv_at hl 3 rfl) ?_
  refine lv_aload_n hx hb dL_law_477 rfl (lv_at hl 4 rfl) ?_
  refine lv_iload hx hb dL_law_478 (lv_at hl 0 rfl) ?_
  refine lv_iconst (v := 1) hx hb dL_law_480 (by decide) ?_
  refine lv_iadd hx hb dL_law_481 ?_
  refine z_toi (y := nI (i + 1)) (nI_add i 1) ?_
  refine va_sld hx hb hX0 hb0 hbA hS (vp_in_nI (by omega) (by omega)) dL_law_482 ?_
  refine z_toi (y := x) (by rw [nI_clamp (by omega)]; exact h1) ?_
  refine lv_aload_n hx hb dL_law_483 rfl (lv_at hl 4 rfl) ?_
  refine lv_iload hx hb dL_law_484 (lv_at hl 0 rfl) ?_
  refine lv_iconst (v := 2) hx hb dL_law_486 (by decide) ?_
  refine lv_iadd hx hb dL_law_487 ?_
  refine z_toi (y := nI (i + 2)) (nI_add i 2) ?_
  refine va_sld hx hb hX0 hb0 hbA hS (vp_in_nI (by omega) (by omega)) dL_law_488 ?_
  refine z_toi (y := xs (i + 2)) (by rw [nI_clamp (by omega)]) ?_
  refine lv_if_eq (tgt := 496) hx hb dL_law_489 (by decide) (fun c9 => absurd c9 h2) (fun c9 => ?_)
  refine lv_iconst (v := 1) hx hb dL_law_492 (by decide) ?_
  refine lv_goto (tgt := 497) hx hb dL_law_493 (by decide) ?_
  refine lv_aload_n hx hb dL_law_497 rfl (lv_at hl 4 rfl) ?_
  refine lv_iload hx hb dL_law_498 (lv_at hl 0 rfl) ?_
  refine lv_iconst (v := 3) hx hb dL_law_500 (by decide) ?_
  refine lv_iadd hx hb dL_law_501 ?_
  refine z_toi (y := nI (i + 3)) (nI_add i 3) ?_
  refine va_sld hx hb hX0 hb0 hbA hS (vp_in_nI (by omega) (by omega)) dL_law_502 ?_
  refine z_toi (y := y) (by rw [nI_clamp (by omega)]; exact h3) ?_
  refine lv_aload_n hx hb dL_law_503 rfl (lv_at hl 1 rfl) ?_
  refine z_mi (vx_runSW (As := [.ref b, .int x, .int 1, .int y, .ref (b + 66)]) (rest := []) hfix (zcL_half_b1 l D cI cL H s.heap.size (b + 66) hlt hS.1 b n me lo c e rd tk g x 1 y hC hI hx9) (vx_cwSW 5 hts gL_law_L_half rfl rfl rfl (by decide +kernel) ⟨Nat.le_of_ble_eq_true rfl, Nat.le_of_ble_eq_true rfl⟩) (z_xpreS hE (fun q h1 h2 => hS.2.1 q h1 h2) hKl) rfl rfl hl.1 rfl (lv_room (Nat.le_of_ble_eq_true rfl)) dL_law_504 ⟨by show cells + 1 ≤ 601024; omega, by show slots + 6 ≤ 7293033; omega⟩) hS (fun z _ h => by have h9 : H.size ≤ z := h; have h8 := hS.1; show s.heap.size ≤ z; omega) (fun z h => by have h9 : H.size ≤ z := h; have h8 := hS.1; show s.heap.size ≤ z; omega) (fun H1 lo1 hB hz1 hk1 hS => ?_)
  refine va_forget (fun q h => hS.2.2 q h) ?_
  have hS : va_S (fun q => s.heap.size ≤ q) s.heap H1 [] := ⟨hS.1, hS.2.1, fun z h => absurd h List.not_mem_nil⟩
  have hM1 := zMo_kept hM (fun z h1 h2 h3 => hk1 z h1 (fun h4 => by have h9 : H.size ≤ z := h4; omega))
  have hC1 := zCW_kept hC (fun z h1 h2 h3 => hk1 z h1 (fun h4 => by have h9 : H.size ≤ z := h4; omega))
  have hO1 := zOb_kept hO (fun z h1 h2 h3 => hk1 z h1 (fun h4 => by have h9 : H.size ≤ z := h4; omega))
  refine lv_istore (lv' := [(5, .int 1), (4, .int (nI i)), (3, .ref (b + 66)), (2, .ref (b + 61)), (1, .ref b), (0, .ref b0)]) hx hb dL_law_507 hl (by decide) rfl (fun ls hl => ?_)
  refine lv_aload_n hx hb dL_law_509 rfl (lv_at hl 3 rfl) ?_
  refine lv_aload_n hx hb dL_law_510 rfl (lv_at hl 5 rfl) ?_
  refine lv_iload hx hb dL_law_511 (lv_at hl 1 rfl) ?_
  refine lv_iconst (v := 1) hx hb dL_law_513 (by decide) ?_
  refine lv_iadd hx hb dL_law_514 ?_
  refine z_toi (y := nI (i + 1)) (nI_add i 1) ?_
  refine va_sld hx hb hX0 hb0 hbA hS (vp_in_nI (by omega) (by omega)) dL_law_515 ?_
  refine z_toi (y := x) (by rw [nI_clamp (by omega)]; exact h1) ?_
  refine lv_aload_n hx hb dL_law_516 rfl (lv_at hl 5 rfl) ?_
  refine lv_iload hx hb dL_law_517 (lv_at hl 1 rfl) ?_
  refine lv_iconst (v := 2) hx hb dL_law_519 (by decide) ?_
  refine lv_iadd hx hb dL_law_520 ?_
  refine z_toi (y := nI (i + 2)) (nI_add i 2) ?_
  refine va_sld hx hb hX0 hb0 hbA hS (vp_in_nI (by omega) (by omega)) dL_law_521 ?_
  refine z_toi (y := xs (i + 2)) (by rw [nI_clamp (by omega)]) ?_
  refine lv_if_eq (tgt := 529) hx hb dL_law_522 (by decide) (fun c9 => absurd c9 h2) (fun c9 => ?_)
  refine lv_iconst (v := 1) hx hb dL_law_525 (by decide) ?_
  refine lv_goto (tgt := 530) hx hb dL_law_526 (by decide) ?_
  refine lv_aload_n hx hb dL_law_530 rfl (lv_at hl 5 rfl) ?_
  refine lv_iload hx hb dL_law_531 (lv_at hl 1 rfl) ?_
  refine lv_iconst (v := 3) hx hb dL_law_533 (by decide) ?_
  refine lv_iadd hx hb dL_law_534 ?_
  refine z_toi (y := nI (i + 3)) (nI_add i 3) ?_
  refine va_sld hx hb hX0 hb0 hbA hS (vp_in_nI (by omega) (by omega)) dL_law_535 ?_
  refine z_toi (y := y) (by rw [nI_clamp (by omega)]; exact h3) ?_
  refine z_mi (va_runV (As := [.int x, .int 1, .int y]) (rest := []) hfix (zcX5_half_b1 l D cI H1 (b + 61) tn n g me lo c bf e rd tk x 1 y hM1 hI hx9) (cwV 3 hts gL_law_X5_half rfl rfl rfl (by decide +kernel) ⟨Nat.le_of_ble_eq_true rfl, Nat.le_of_ble_eq_true rfl⟩) (z_preV hK hKi hM1 (ci := 5) (q0 := 0) rfl rfl rfl) rfl rfl hl.1 rfl (lv_room (Nat.le_of_ble_eq_true rfl)) dL_law_536 ⟨by show cells + 1 + 0 ≤ 601024; omega, by show slots + 6 + 0 ≤ 7293033; omega⟩) hS (fun z _ h => by have h9 : zF (b + 61) (b + 61 + 5) z := h; have h8 := hS.1; show s.heap.size ≤ z; simp only [zF] at h9; omega) (fun z h => by have h9 : zF (b + 61) (b + 61 + 5) z := h; have h8 := hS.1; show s.heap.size ≤ z; simp only [zF] at h9; omega) (fun H2 lo2 hB hz2 hk2 hS => ?_)
  refine va_forget (fun q h => hS.2.2 q h) ?_
  have hS : va_S (fun q => s.heap.size ≤ q) s.heap H2 [] := ⟨hS.1, hS.2.1, fun z h => absurd h List.not_mem_nil⟩
  obtain ⟨hM2, hB9⟩ := hB
  have hC2 := zCW_kept hC1 (fun z h1 h2 h3 => hk2 z h1 (fun h4 => by have h9 : zF (b + 61) (b + 61 + 5) z := h4; simp only [zF] at h9; omega))
  have hO2 := zOb_kept hO1 (fun z h1 h2 h3 => hk2 z h1 (fun h4 => by have h9 : zF (b + 61) (b + 61 + 5) z := h4; simp only [zF] at h9; omega))
  refine lv_istore (lv' := [(6, .int 0), (5, .int 1), (4, .int (nI i)), (3, .ref (b + 66)), (2, .ref (b + 61)), (1, .ref b), (0, .ref b0)]) hx hb dL_law_539 hl (by decide) rfl (fun ls hl => ?_)
  refine lv_aload_n hx hb dL_law_541 rfl (lv_at hl 4 rfl) ?_
  refine z_ki (va_runV (As := []) (rest := []) hfix (zcX5_thrown l D cI H2 _ _ _ _ _ _ _ hM2) (cwV 0 hts gL_law_X5_thrown rfl rfl rfl (by decide +kernel) ⟨Nat.le_of_ble_eq_true rfl, Nat.le_of_ble_eq_true rfl⟩) (z_preV hK hKi hM2 (ci := 5) (q0 := 0) rfl rfl rfl) rfl rfl hl.1 rfl (lv_room (Nat.le_of_ble_eq_true rfl)) dL_law_542 ⟨by show cells + 1 + 0 + 0 ≤ 601024; omega, by show slots + 6 + 0 + 0 ≤ 7293033; omega⟩) ?_
  refine lv_iload hx hb dL_law_545 (lv_at hl 1 rfl) ?_
  refine lv_icmp_eq (tgt := 552) hx hb dL_law_547 (by decide) (fun c9 => ?_) (fun c9 => absurd rfl c9)
  refine lv_iload hx hb dL_law_552 (lv_at hl 1 rfl) ?_
  refine lv_if_ne (tgt := 569) hx hb dL_law_554 (by decide) (fun c9 => ?_) (fun c9 => absurd c9 (by decide))
  refine lv_goto (tgt := 1137) hx hb dL_law_569 (by decide) ?_
  refine W.widen (k := cells + 16) (n := slots + 214) (by omega) (by omega) ?_
  exact kk _ _ _ _ _ _ _ _ _ _ ⟨hC2, ⟨_, hO2⟩, ⟨_, _, hM2⟩, hI, hZ⟩ hS (lv_sub hl [2, 3, 4, 5, 6] rfl)
set_option maxHeartbeats 4000000 in
set_option maxRecDepth 100000 in
/-- zlv_half_b2_0 -/
theorem zlv_half_b2_0 {pg : Program} {l : Launch} {ev : Env} {s : State} {m : MethodId} {below : List Frame} {meth : Method} {cd : Code} {D : va_G} {cI cL cR : ClassId} {b0 L : Nat} {xs : Nat → Int32} {Q : State → Prop} {H : Heap} {b n : Nat} {me lo : Nat → Int32} {c e : Nat → Nat} {rd tk tn : Int32} {g : zG} {bf : Nat → Int32} {f : Nat → Int64} {i cells slots : Nat} {ls : Array Slot} (hfix : CallFix pg m cd cL_law 9 s #[.ref b0] wsL_law RL) (hK : va_K D vwCl [(cI, .int), (cL, .long), (cR, .array .int)] s) (hKw : zKw s) (hE : zE s.heap.size s) (hlt : l.stackTraces = false) (hX0 : va_X b0 L xs s s.heap) (hb0 : b0 < s.heap.size) (hbs : s.heap.size ≤ b) (hC : zCW D cI b n me lo c e rd tk g H) (hM : va_P D vwCl (zMo cI (b + 61) tn n (jf g me lo c) bf (zn e) (nm rd tk)) H) (hO : va_P D vwCl [(b + 66, .inl (cL, 1, .inr (.inl f)))] H) (hI : zI n me lo c e) (hZ : zJ n g) (hS : va_S (fun q => s.heap.size ≤ q) s.heap H []) (hi : i + 4 ≤ L) (hL : L ≤ 2048) (hcell : cells + 16 ≤ 601024) (hslot : slots + 214 ≤ 7293033) (hl : lv_has ls 9 [(4, .int (nI i)), (3, .ref (b + 66)), (2, .ref (b + 61)), (1, .ref b), (0, .ref b0)]) (kk : zLK pg l ev s m below meth cd D cI cL b0 Q b i cells slots) (p : Nat) (y : Int32) (hp : p < n) (hx9 : y < 0 ∨ ¬ y ≤ 2) (h1 : xs (i + 1) = (nI p)) (h2 : xs (i + 2) = 0) (h3 : xs (i + 3) = y) : W pg l ev room_1 s m #[Value.ref b0] below meth cd H [] cells slots Q (F0 m 476 ls []) := by
  obtain ⟨hx, hb, hml, hown, hts⟩ := id hfix
  have hbA : ¬ (fun q : Nat => s.heap.size ≤ q) b0 := Nat.not_le.mpr hb0
  have hKi : va_K D vwCl [(cI, .int)] s := hK.sub [0] rfl
  have hKl : va_K D vwCl [(cI, .int), (cL, .long)] s := hK.sub [0, 1] rfl
  have hKq : va_K D vwCl [(cI, .int), (cR, .array .int)] s := hK.sub [0, 2] rfl
  have hsz := hS.1
  refine lv_aload_n hx hb dL_law_476 rfl (lv_at hl 3 rfl) ?_
  refine lv_aload_n hx hb dL_law_477 rfl (lv_at hl 4 rfl) ?_
  refine lv_iload hx hb dL_law_478 (lv_at hl 0 rfl) ?_
  refine lv_iconst (v := 1) hx hb dL_law_480 (by decide) ?_
  refine lv_iadd hx hb dL_law_481 ?_
  refine z_toi (y := nI (i + 1)) (nI_add i 1) ?_
  refine va_sld hx hb hX0 hb0 hbA hS (vp_in_nI (by omega) (by omega)) dL_law_482 ?_
  refine z_toi (y := (nI p)) (by rw [nI_clamp (by omega)]; exact h1) ?_
  refine lv_aload_n hx hb dL_law_483 rfl (lv_at hl 4 rfl) ?_
  refine lv_iload hx hb dL_law_484 (lv_at hl 0 rfl) ?_
  refine lv_iconst (v := 2) hx hb dL_law_486 (by decide) ?_
  refine lv_iadd hx hb dL_law_487 ?_
  refine z_toi (y := nI (i + 2)) (nI_add i 2) ?_
  refine va_sld hx hb hX0 hb0 hbA hS (vp_in_nI (by omega) (by omega)) dL_law_488 ?_
  refine z_toi (y := xs (i + 2)) (by rw [nI_clamp (by omega)]) ?_
  refine lv_if_eq (tgt := 496) hx hb dL_law_489 (by decide) (fun c9 => ?_) (fun c9 => absurd h2 c9)
  refine lv_iconst (v := 0) hx hb dL_law_496 (by decide) ?_
  refine lv_aload_n hx hb dL_law_497 rfl (lv_at hl 4 rfl) ?_
  refine lv_iload hx hb dL_law_498 (lv_at hl 0 rfl) ?_
  refine lv_iconst (v := 3) hx hb dL_law_500 (by decide) ?_
  refine lv_iadd hx hb dL_law_501 ?_
  refine z_toi (y := nI (i + 3)) (nI_add i 3) ?_
  refine va_sld hx hb hX0 hb0 hbA hS (vp_in_nI (by omega) (by omega)) dL_law_502 ?_
  refine z_toi (y := y) (by rw [nI_clamp (by omega)]; exact h3) ?_
  refine lv_aload_n hx hb dL_law_503 rfl (lv_at hl 1 rfl) ?_
  refine z_mi (vx_runSW (As := [.ref b, .int (nI p), .int 0, .int y, .ref (b + 66)]) (rest := []) hfix (zcL_half_b2 l D cI cL H s.heap.size (b + 66) hlt hS.1 b n me lo c e rd tk g p 0 y hC hI hp hx9) (vx_cwSW 5 hts gL_law_L_half rfl rfl rfl (by decide +kernel) ⟨Nat.le_of_ble_eq_true rfl, Nat.le_of_ble_eq_true rfl⟩) (z_xpreS hE (fun q h1 h2 => hS.2.1 q h1 h2) hKl) rfl rfl hl.1 rfl (lv_room (Nat.le_of_ble_eq_true rfl)) dL_law_504 ⟨by show cells + 1 ≤ 601024; omega, by show slots + 6 ≤ 7293033; omega⟩) hS (fun z _ h => by have h9 : H.size ≤ z := h; have h8 := hS.1; show s.heap.size ≤ z; omega) (fun z h => by have h9 : H.size ≤ z := h; have h8 := hS.1; show s.heap.size ≤ z; omega) (fun H1 lo1 hB hz1 hk1 hS => ?_)
  refine va_forget (fun q h => hS.2.2 q h) ?_
  have hS : va_S (fun q => s.heap.size ≤ q) s.heap H1 [] := ⟨hS.1, hS.2.1, fun z h => absurd h List.not_mem_nil⟩
  have hM1 := zMo_kept hM (fun z h1 h2 h3 => hk1 z h1 (fun h4 => by have h9 : H.size ≤ z := h4; omega))
  have hC1 := zCW_kept hC (fun z h1 h2 h3 => hk1 z h1 (fun h4 => by have h9 : H.size ≤ z := h4; omega))
  have hO1 := zOb_kept hO (fun z h1 h2 h3 => hk1 z h1 (fun h4 => by have h9 : H.size ≤ z := h4; omega))
  refine lv_istore (lv' := [(5, .int 1), (4, .int (nI i)), (3, .ref (b + 66)), (2, .ref (b + 61)), (1, .ref b), (0, .ref b0)]) hx hb dL_law_507 hl (by decide) rfl (fun ls hl => ?_)
  refine lv_aload_n hx hb dL_law_509 rfl (lv_at hl 3 rfl) ?_
  refine lv_aload_n hx hb dL_law_510 rfl (lv_at hl 5 rfl) ?_
  refine lv_iload hx hb dL_law_511 (lv_at hl 1 rfl) ?_
  refine lv_iconst (v := 1) hx hb dL_law_513 (by decide) ?_
  refine lv_iadd hx hb dL_law_514 ?_
  refine z_toi (y := nI (i + 1)) (nI_add i 1) ?_
  refine va_sld hx hb hX0 hb0 hbA hS (vp_in_nI (by omega) (by omega)) dL_law_515 ?_
  refine z_toi (y := (nI p)) (by rw [nI_clamp (by omega)]; exact h1) ?_
  refine lv_aload_n hx hb dL_law_516 rfl (lv_at hl 5 rfl) ?_
  refine lv_iload hx hb dL_law_517 (lv_at hl 1 rfl) ?_
  refine lv_iconst (v := 2) hx hb dL_law_519 (by decide) ?_
  refine lv_iadd hx hb dL_law_520 ?_
  refine z_toi (y := nI (i + 2)) (nI_add i 2) ?_
  refine va_sld hx hb hX0 hb0 hbA hS (vp_in_nI (by omega) (by omega)) dL_law_521 ?_
  refine z_toi (y := xs (i + 2)) (by rw [nI_clamp (by omega)]) ?_
  refine lv_if_eq (tgt := 529) hx hb dL_law_522 (by decide) (fun c9 => ?_) (fun c9 => absurd h2 c9)
  refine lv_iconst (v := 0) hx hb dL_law_529 (by decide) ?_
  refine lv_aload_n hx hb dL_law_530 rfl (lv_at hl 5 rfl) ?_
  refine lv_iload hx hb dL_law_531 (lv_at hl 1 rfl) ?_
  refine lv_iconst (v := 3) hx hb dL_law_533 (by decide) ?_
  refine lv_iadd hx hb dL_law_534 ?_
  refine z_toi (y := nI (i + 3)) (nI_add i 3) ?_
  refine va_sld hx hb hX0 hb0 hbA hS (vp_in_nI (by omega) (by omega)) dL_law_535 ?_
  refine z_toi (y := y) (by rw [nI_clamp (by omega)]; exact h3) ?_
  refine z_mi (va_runV (As := [.int (nI p), .int 0, .int y]) (rest := []) hfix (zcX5_half_b2 l D cI H1 (b + 61) tn n g me lo c bf e rd tk p 0 y hM1 hI hp hx9) (cwV 3 hts gL_law_X5_half rfl rfl rfl (by decide +kernel) ⟨Nat.le_of_ble_eq_true rfl, Nat.le_of_ble_eq_true rfl⟩) (z_preV hK hKi hM1 (ci := 5) (q0 := 0) rfl rfl rfl) rfl rfl hl.1 rfl (lv_room (Nat.le_of_ble_eq_true rfl)) dL_law_536 ⟨by show cells + 1 + 0 ≤ 601024; omega, by show slots + 6 + 0 ≤ 7293033; omega⟩) hS (fun z _ h => by have h9 : zF (b + 61) (b + 61 + 5) z := h; have h8 := hS.1; show s.heap.size ≤ z; simp only [zF] at h9; omega) (fun z h => by have h9 : zF (b + 61) (b + 61 + 5) z := h; have h8 := hS.1; show s.heap.size ≤ z; simp only [zF] at h9; omega) (fun H2 lo2 hB hz2 hk2 hS => ?_)
  refine va_forget (fun q h => hS.2.2 q h) ?_
  have hS : va_S (fun q => s.heap.size ≤ q) s.heap H2 [] := ⟨hS.1, hS.2.1, fun z h => absurd h List.not_mem_nil⟩
  obtain ⟨hM2, hB9⟩ := hB
  have hC2 := zCW_kept hC1 (fun z h1 h2 h3 => hk2 z h1 (fun h4 => by have h9 : zF (b + 61) (b + 61 + 5) z := h4; simp only [zF] at h9; omega))
  have hO2 := zOb_kept hO1 (fun z h1 h2 h3 => hk2 z h1 (fun h4 => by have h9 : zF (b + 61) (b + 61 + 5) z := h4; simp only [zF] at h9; omega))
  refine lv_istore (lv' := [(6, .int 0), (5, .int 1), (4, .int (nI i)), (3, .ref (b + 66)), (2, .ref (b + 61)), (1, .ref b), (0, .ref b0)]) hx hb dL_law_539 hl (by decide) rfl (fun ls hl => ?_)
  refine lv_aload_n hx hb dL_law_541 rfl (lv_at hl 4 rfl) ?_
  refine z_ki (va_runV (As := []) (rest := []) hfix (zcX5_thrown l D cI H2 _ _ _ _ _ _ _ hM2) (cwV 0 hts gL_law_X5_thrown rfl rfl rfl (by decide +kernel) ⟨Nat.le_of_ble_eq_true rfl, Nat.le_of_ble_eq_true rfl⟩) (z_preV hK hKi hM2 (ci := 5) (q0 := 0) rfl rfl rfl) rfl rfl hl.1 rfl (lv_room (Nat.le_of_ble_eq_true rfl)) dL_law_542 ⟨by show cells + 1 + 0 + 0 ≤ 601024; omega, by show slots + 6 + 0 + 0 ≤ 7293033; omega⟩) ?_
  refine lv_iload hx hb dL_law_545 (lv_at hl 1 rfl) ?_
  refine lv_icmp_eq (tgt := 552) hx hb dL_law_547 (by decide) (fun c9 => ?_) (fun c9 => absurd rfl c9)
  refine lv_iload hx hb dL_law_552 (lv_at hl 1 rfl) ?_
  refine lv_if_ne (tgt := 569) hx hb dL_law_554 (by decide) (fun c9 => ?_) (fun c9 => absurd c9 (by decide))
  refine lv_goto (tgt := 1137) hx hb dL_law_569 (by decide) ?_
  refine W.widen (k := cells + 16) (n := slots + 214) (by omega) (by omega) ?_
  exact kk _ _ _ _ _ _ _ _ _ _ ⟨hC2, ⟨_, hO2⟩, ⟨_, _, hM2⟩, hI, hZ⟩ hS (lv_sub hl [2, 3, 4, 5, 6] rfl)
set_option maxHeartbeats 4000000 in
set_option maxRecDepth 100000 in
/-- zlv_half_b2_1 -/
theorem zlv_half_b2_1 {pg : Program} {l : Launch} {ev : Env} {s : State} {m : MethodId} {below : List Frame} {meth : Method} {cd : Code} {D : va_G} {cI cL cR : ClassId} {b0 L : Nat} {xs : Nat → Int32} {Q : State → Prop} {H : Heap} {b n : Nat} {me lo : Nat → Int32} {c e : Nat → Nat} {rd tk tn : Int32} {g : zG} {bf : Nat → Int32} {f : Nat → Int64} {i cells slots : Nat} {ls : Array Slot} (hfix : CallFix pg m cd cL_law 9 s #[.ref b0] wsL_law RL) (hK : va_K D vwCl [(cI, .int), (cL, .long), (cR, .array .int)] s) (hKw : zKw s) (hE : zE s.heap.size s) (hlt : l.stackTraces = false) (hX0 : va_X b0 L xs s s.heap) (hb0 : b0 < s.heap.size) (hbs : s.heap.size ≤ b) (hC : zCW D cI b n me lo c e rd tk g H) (hM : va_P D vwCl (zMo cI (b + 61) tn n (jf g me lo c) bf (zn e) (nm rd tk)) H) (hO : va_P D vwCl [(b + 66, .inl (cL, 1, .inr (.inl f)))] H) (hI : zI n me lo c e) (hZ : zJ n g) (hS : va_S (fun q => s.heap.size ≤ q) s.heap H []) (hi : i + 4 ≤ L) (hL : L ≤ 2048) (hcell : cells + 16 ≤ 601024) (hslot : slots + 214 ≤ 7293033) (hl : lv_has ls 9 [(4, .int (nI i)), (3, .ref (b + 66)), (2, .ref (b + 61)), (1, .ref b), (0, .ref b0)]) (kk : zLK pg l ev s m below meth cd D cI cL b0 Q b i cells slots) (p : Nat) (y : Int32) (hp : p < n) (hx9 : y < 0 ∨ ¬ y ≤ 2) (h1 : xs (i + 1) = (nI p)) (h2 : ¬ xs (i + 2) = 0) (h3 : xs (i + 3) = y) : W pg l ev room_1 s m #[Value.ref b0] below meth cd H [] cells slots Q (F0 m 476 ls []) := by
  obtain ⟨hx, hb, hml, hown, hts⟩ := id hfix
  have hbA : ¬ (fun q : Nat => s.heap.size ≤ q) b0 := Nat.not_le.mpr hb0
  have hKi : va_K D vwCl [(cI, .int)] s := hK.sub [0] rfl
  have hKl : va_K D vwCl [(cI, .int), (cL, .long)] s := hK.sub [0, 1] rfl
  have hKq : va_K D vwCl [(cI, .int), (cR, .array .int)] s := hK.sub [0, 2] rfl
  have hsz := hS.1
  refine lv_aload_n hx hb dL_law_476 rfl (lv_at hl 3 rfl) ?_
  refine lv_aload_n hx hb dL_law_477 rfl (lv_at hl 4 rfl) ?_
  refine lv_iload hx hb dL_law_478 (lv_at hl 0 rfl) ?_
  refine lv_iconst (v := 1) hx hb dL_law_480 (by decide) ?_
  refine lv_iadd hx hb dL_law_481 ?_
  refine z_toi (y := nI (i + 1)) (nI_add i 1) ?_
  refine va_sld hx hb hX0 hb0 hbA hS (vp_in_nI (by omega) (by omega)) dL_law_482 ?_
  refine z_toi (y := (nI p)) (by rw [nI_clamp (by omega)]; exact h1) ?_
  refine lv_aload_n hx hb dL_law_483 rfl (lv_at hl 4 rfl) ?_
  refine lv_iload hx hb dL_law_484 (lv_at hl 0 rfl) ?_
  refine lv_iconst (v := 2) hx hb dL_law_486 (by decide) ?_
  refine lv_iadd hx hb dL_law_487 ?_
  refine z_toi (y := nI (i + 2)) (nI_add i 2) ?_
  refine va_sld hx hb hX0 hb0 hbA hS (vp_in_nI (by omega) (by omega)) dL_law_488 ?_
  refine z_toi (y := xs (i + 2)) (by rw [nI_clamp (by omega)]) ?_
  refine lv_if_eq (tgt := 496) hx hb dL_law_489 (by decide) (fun c9 => absurd c9 h2) (fun c9 => ?_)
  refine lv_iconst (v := 1) hx hb dL_law_492 (by decide) ?_
  refine lv_goto (tgt := 497) hx hb dL_law_493 (by decide) ?_
  refine lv_aload_n hx hb dL_law_497 rfl (lv_at hl 4 rfl) ?_
  refine lv_iload hx hb dL_law_498 (lv_at hl 0 rfl) ?_
  refine lv_iconst (v := 3) hx hb dL_law_500 (by decide) ?_
  refine lv_iadd hx hb dL_law_501 ?_
  refine z_toi (y := nI (i + 3)) (nI_add i 3) ?_
  refine va_sld hx hb hX0 hb0 hbA hS (vp_in_nI (by omega) (by omega)) dL_law_502 ?_
  refine z_toi (y := y) (by rw [nI_clamp (by omega)]; exact h3) ?_
  refine lv_aload_n hx hb dL_law_503 rfl (lv_at hl 1 rfl) ?_
  refine z_mi (vx_runSW (As := [.ref b, .int (nI p), .int 1, .int y, .ref (b + 66)]) (rest := []) hfix (zcL_half_b2 l D cI cL H s.heap.size (b + 66) hlt hS.1 b n me lo c e rd tk g p 1 y hC hI hp hx9) (vx_cwSW 5 hts gL_law_L_half rfl rfl rfl (by decide +kernel) ⟨Nat.le_of_ble_eq_true rfl, Nat.le_of_ble_eq_true rfl⟩) (z_xpreS hE (fun q h1 h2 => hS.2.1 q h1 h2) hKl) rfl rfl hl.1 rfl (lv_room (Nat.le_of_ble_eq_true rfl)) dL_law_504 ⟨by show cells + 1 ≤ 601024; omega, by show slots + 6 ≤ 7293033; omega⟩) hS (fun z _ h => by have h9 : H.size ≤ z := h; have h8 := hS.1; show s.heap.size ≤ z; omega) (fun z h => by have h9 : H.size ≤ z := h; have h8 := hS.1; show s.heap.size ≤ z; omega) (fun H1 lo1 hB hz1 hk1 hS => ?_)
  refine va_forget (fun q h => hS.2.2 q h) ?_
  have hS : va_S (fun q => s.heap.size ≤ q) s.heap H1 [] := ⟨hS.1, hS.2.1, fun z h => absurd h List.not_mem_nil⟩
  have hM1 := zMo_kept hM (fun z h1 h2 h3 => hk1 z h1 (fun h4 => by have h9 : H.size ≤ z := h4; omega))
  have hC1 := zCW_kept hC (fun z h1 h2 h3 => hk1 z h1 (fun h4 => by have h9 : H.size ≤ z := h4; omega))
  have hO1 := zOb_kept hO (fun z h1 h2 h3 => hk1 z h1 (fun h4 => by have h9 : H.size ≤ z := h4; omega))
  refine lv_istore (lv' := [(5, .int 1), (4, .int (nI i)), (3, .ref (b + 66)), (2, .ref (b + 61)), (1, .ref b), (0, .ref b0)]) hx hb dL_law_507 hl (by decide) rfl (fun ls hl => ?_)
  refine lv_aload_n hx hb dL_law_509 rfl (lv_at hl 3 rfl) ?_
  refine lv_aload_n hx hb dL_law_510 rfl (lv_at hl 5 rfl) ?_
  refine lv_iload hx hb dL_law_511 (lv_at hl 1 rfl) ?_
  refine lv_iconst (v := 1) hx hb dL_law_513 (by decide) ?_
  refine lv_iadd hx hb dL_law_514 ?_
  refine z_toi (y := nI (i + 1)) (nI_add i 1) ?_
  refine va_sld hx hb hX0 hb0 hbA hS (vp_in_nI (by omega) (by omega)) dL_law_515 ?_
  refine z_toi (y := (nI p)) (by rw [nI_clamp (by omega)]; exact h1) ?_
  refine lv_aload_n hx hb dL_law_516 rfl (lv_at hl 5 rfl) ?_
  refine lv_iload hx hb dL_law_517 (lv_at hl 1 rfl) ?_
  refine lv_iconst (v := 2) hx hb dL_law_519 (by decide) ?_
  refine lv_iadd hx hb dL_law_520 ?_
  refine z_toi (y := nI (i + 2)) (nI_add i 2) ?_
  refine va_sld hx hb hX0 hb0 hbA hS (vp_in_nI (by omega) (by omega)) dL_law_521 ?_
  refine z_toi (y := xs (i + 2)) (by rw [nI_clamp (by omega)]) ?_
  refine lv_if_eq (tgt := 529) hx hb dL_law_522 (by decide) (fun c9 => absurd c9 h2) (fun c9 => ?_)
  refine lv_iconst (v := 1) hx hb dL_law_525 (by decide) ?_
  refine lv_goto (tgt := 530) hx hb dL_law_526 (by decide) ?_
  refine lv_aload_n hx hb dL_law_530 rfl (lv_at hl 5 rfl) ?_
  refine lv_iload hx hb dL_law_531 (lv_at hl 1 rfl) ?_
  refine lv_iconst (v := 3) hx hb dL_law_533 (by decide) ?_
  refine lv_iadd hx hb dL_law_534 ?_
  refine z_toi (y := nI (i + 3)) (nI_add i 3) ?_
  refine va_sld hx hb hX0 hb0 hbA hS (vp_in_nI (by omega) (by omega)) dL_law_535 ?_
  refine z_toi (y := y) (by rw [nI_clamp (by omega)]; exact h3) ?_
  refine z_mi (va_runV (As := [.int (nI p), .int 1, .int y]) (rest := []) hfix (zcX5_half_b2 l D cI H1 (b + 61) tn n g me lo c bf e rd tk p 1 y hM1 hI hp hx9) (cwV 3 hts gL_law_X5_half rfl rfl rfl (by decide +kernel) ⟨Nat.le_of_ble_eq_true rfl, Nat.le_of_ble_eq_true rfl⟩) (z_preV hK hKi hM1 (ci := 5) (q0 := 0) rfl rfl rfl) rfl rfl hl.1 rfl (lv_room (Nat.le_of_ble_eq_true rfl)) dL_law_536 ⟨by show cells + 1 + 0 ≤ 601024; omega, by show slots + 6 + 0 ≤ 7293033; omega⟩) hS (fun z _ h => by have h9 : zF (b + 61) (b + 61 + 5) z := h; have h8 := hS.1; show s.heap.size ≤ z; simp only [zF] at h9; omega) (fun z h => by have h9 : zF (b + 61) (b + 61 + 5) z := h; have h8 := hS.1; show s.heap.size ≤ z; simp only [zF] at h9; omega) (fun H2 lo2 hB hz2 hk2 hS => ?_)
  refine va_forget (fun q h => hS.2.2 q h) ?_
  have hS : va_S (fun q => s.heap.size ≤ q) s.heap H2 [] := ⟨hS.1, hS.2.1, fun z h => absurd h List.not_mem_nil⟩
  obtain ⟨hM2, hB9⟩ := hB
  have hC2 := zCW_kept hC1 (fun z h1 h2 h3 => hk2 z h1 (fun h4 => by have h9 : zF (b + 61) (b + 61 + 5) z := h4; simp only [zF] at h9; omega))
  have hO2 := zOb_kept hO1 (fun z h1 h2 h3 => hk2 z h1 (fun h4 => by have h9 : zF (b + 61) (b + 61 + 5) z := h4; simp only [zF] at h9; omega))
  refine lv_istore (lv' := [(6, .int 0), (5, .int 1), (4, .int (nI i)), (3, .ref (b + 66)), (2, .ref (b + 61)), (1, .ref b), (0, .ref b0)]) hx hb dL_law_539 hl (by decide) rfl (fun ls hl => ?_)
  refine lv_aload_n hx hb dL_law_541 rfl (lv_at hl 4 rfl) ?_
  refine z_ki (va_runV (As := []) (rest := []) hfix (zcX5_thrown l D cI H2 _ _ _ _ _ _ _ hM2) (cwV 0 hts gL_law_X5_thrown rfl rfl rfl (by decide +kernel) ⟨Nat.le_of_ble_eq_true rfl, Nat.le_of_ble_eq_true rfl⟩) (z_preV hK hKi hM2 (ci := 5) (q0 := 0) rfl rfl rfl) rfl rfl hl.1 rfl (lv_room (Nat.le_of_ble_eq_true rfl)) dL_law_542 ⟨by show cells + 1 + 0 + 0 ≤ 601024; omega, by show slots + 6 + 0 + 0 ≤ 7293033; omega⟩) ?_
  refine lv_iload hx hb dL_law_545 (lv_at hl 1 rfl) ?_
  refine lv_icmp_eq (tgt := 552) hx hb dL_law_547 (by decide) (fun c9 => ?_) (fun c9 => absurd rfl c9)
  refine lv_iload hx hb dL_law_552 (lv_at hl 1 rfl) ?_
  refine lv_if_ne (tgt := 569) hx hb dL_law_554 (by decide) (fun c9 => ?_) (fun c9 => absurd c9 (by decide))
  refine lv_goto (tgt := 1137) hx hb dL_law_569 (by decide) ?_
  refine W.widen (k := cells + 16) (n := slots + 214) (by omega) (by omega) ?_
  exact kk _ _ _ _ _ _ _ _ _ _ ⟨hC2, ⟨_, hO2⟩, ⟨_, _, hM2⟩, hI, hZ⟩ hS (lv_sub hl [2, 3, 4, 5, 6] rfl)
set_option maxHeartbeats 4000000 in
set_option maxRecDepth 100000 in
/-- zlv_hears_ok -/
theorem zlv_hears_ok {pg : Program} {l : Launch} {ev : Env} {s : State} {m : MethodId} {below : List Frame} {meth : Method} {cd : Code} {D : va_G} {cI cL cR : ClassId} {b0 L : Nat} {xs : Nat → Int32} {Q : State → Prop} {H : Heap} {b n : Nat} {me lo : Nat → Int32} {c e : Nat → Nat} {rd tk tn : Int32} {g : zG} {bf : Nat → Int32} {f : Nat → Int64} {i cells slots : Nat} {ls : Array Slot} (hfix : CallFix pg m cd cL_law 9 s #[.ref b0] wsL_law RL) (hK : va_K D vwCl [(cI, .int), (cL, .long), (cR, .array .int)] s) (hKw : zKw s) (hE : zE s.heap.size s) (hlt : l.stackTraces = false) (hX0 : va_X b0 L xs s s.heap) (hb0 : b0 < s.heap.size) (hbs : s.heap.size ≤ b) (hC : zCW D cI b n me lo c e rd tk g H) (hM : va_P D vwCl (zMo cI (b + 61) tn n (jf g me lo c) bf (zn e) (nm rd tk)) H) (hO : va_P D vwCl [(b + 66, .inl (cL, 1, .inr (.inl f)))] H) (hI : zI n me lo c e) (hZ : zJ n g) (hS : va_S (fun q => s.heap.size ≤ q) s.heap H []) (hi : i + 4 ≤ L) (hL : L ≤ 2048) (hcell : cells + 16 ≤ 601024) (hslot : slots + 214 ≤ 7293033) (hl : lv_has ls 9 [(4, .int (nI i)), (3, .ref (b + 66)), (2, .ref (b + 61)), (1, .ref b), (0, .ref b0)]) (kk : zLK pg l ev s m below meth cd D cI cL b0 Q b i cells slots) (p : Nat) (k : Nat) (hp : p < n) (hk : k < c p) (h1 : xs (i + 1) = (nI p)) (h2 : xs (i + 2) = (nI k)) : W pg l ev room_1 s m #[Value.ref b0] below meth cd H [] cells slots Q (F0 m 572 ls []) := by
  obtain ⟨hx, hb, hml, hown, hts⟩ := id hfix
  have hbA : ¬ (fun q : Nat => s.heap.size ≤ q) b0 := Nat.not_le.mpr hb0
  have hKi : va_K D vwCl [(cI, .int)] s := hK.sub [0] rfl
  have hKl : va_K D vwCl [(cI, .int), (cL, .long)] s := hK.sub [0, 1] rfl
  have hKq : va_K D vwCl [(cI, .int), (cR, .array .int)] s := hK.sub [0, 2] rfl
  have hsz := hS.1
  refine lv_aload_n hx hb dL_law_572 rfl (lv_at hl 3 rfl) ?_
  refine lv_aload_n hx hb dL_law_573 rfl (lv_at hl 4 rfl) ?_
  refine lv_iload hx hb dL_law_574 (lv_at hl 0 rfl) ?_
  refine lv_iconst (v := 1) hx hb dL_law_576 (by decide) ?_
  refine lv_iadd hx hb dL_law_577 ?_
  refine z_toi (y := nI (i + 1)) (nI_add i 1) ?_
  refine va_sld hx hb hX0 hb0 hbA hS (vp_in_nI (by omega) (by omega)) dL_law_578 ?_
  refine z_toi (y := (nI p)) (by rw [nI_clamp (by omega)]; exact h1) ?_
  refine lv_aload_n hx hb dL_law_579 rfl (lv_at hl 4 rfl) ?_
  refine lv_iload hx hb dL_law_580 (lv_at hl 0 rfl) ?_
  refine lv_iconst (v := 2) hx hb dL_law_582 (by decide) ?_
  refine lv_iadd hx hb dL_law_583 ?_
  refine z_toi (y := nI (i + 2)) (nI_add i 2) ?_
  refine va_sld hx hb hX0 hb0 hbA hS (vp_in_nI (by omega) (by omega)) dL_law_584 ?_
  refine z_toi (y := (nI k)) (by rw [nI_clamp (by omega)]; exact h2) ?_
  refine lv_aload_n hx hb dL_law_585 rfl (lv_at hl 1 rfl) ?_
  refine z_mi (vx_runSW (As := [.ref b, .int (nI p), .int (nI k), .ref (b + 66)]) (rest := []) hfix (zcL_hears_k l D cI cL H s.heap.size (b + 66) f b n me lo c e rd tk g p k hC hI hp hk hO (by omega)) (vx_cwSW 4 hts gL_law_L_hears rfl rfl rfl (by decide +kernel) ⟨Nat.le_of_ble_eq_true rfl, Nat.le_of_ble_eq_true rfl⟩) (z_xpreS hE (fun q h1 h2 => hS.2.1 q h1 h2) hKl) rfl rfl hl.1 rfl (lv_room (Nat.le_of_ble_eq_true rfl)) dL_law_586 ⟨by show cells + 0 ≤ 601024; omega, by show slots + 0 ≤ 7293033; omega⟩) hS (fun z _ h => by have h9 : zF b (b + 61) z ∨ @Eq Nat z (b + 66) := h; have h8 := hS.1; show s.heap.size ≤ z; simp only [zF] at h9; omega) (fun z h => by have h9 : zF b (b + 61) z ∨ @Eq Nat z (b + 66) := h; have h8 := hS.1; show s.heap.size ≤ z; simp only [zF] at h9; omega) (fun H1 lo1 hB hz1 hk1 hS => ?_)
  refine va_forget (fun q h => hS.2.2 q h) ?_
  have hS : va_S (fun q => s.heap.size ≤ q) s.heap H1 [] := ⟨hS.1, hS.2.1, fun z h => absurd h List.not_mem_nil⟩
  have hM1 := zMo_kept hM (fun z h1 h2 h3 => hk1 z h1 (fun h4 => by have h9 : zF b (b + 61) z ∨ @Eq Nat z (b + 66) := h4; simp only [zF] at h9; omega))
  have hC1 := hB.1
  have hO1 := hB.2.1
  refine lv_istore (lv' := [(5, .int 0), (4, .int (nI i)), (3, .ref (b + 66)), (2, .ref (b + 61)), (1, .ref b), (0, .ref b0)]) hx hb dL_law_589 hl (by decide) rfl (fun ls hl => ?_)
  refine lv_aload_n hx hb dL_law_591 rfl (lv_at hl 3 rfl) ?_
  refine lv_aload_n hx hb dL_law_592 rfl (lv_at hl 5 rfl) ?_
  refine lv_iload hx hb dL_law_593 (lv_at hl 1 rfl) ?_
  refine lv_iconst (v := 1) hx hb dL_law_595 (by decide) ?_
  refine lv_iadd hx hb dL_law_596 ?_
  refine z_toi (y := nI (i + 1)) (nI_add i 1) ?_
  refine va_sld hx hb hX0 hb0 hbA hS (vp_in_nI (by omega) (by omega)) dL_law_597 ?_
  refine z_toi (y := (nI p)) (by rw [nI_clamp (by omega)]; exact h1) ?_
  refine lv_aload_n hx hb dL_law_598 rfl (lv_at hl 5 rfl) ?_
  refine lv_iload hx hb dL_law_599 (lv_at hl 1 rfl) ?_
  refine lv_iconst (v := 2) hx hb dL_law_601 (by decide) ?_
  refine lv_iadd hx hb dL_law_602 ?_
  refine z_toi (y := nI (i + 2)) (nI_add i 2) ?_
  refine va_sld hx hb hX0 hb0 hbA hS (vp_in_nI (by omega) (by omega)) dL_law_603 ?_
  refine z_toi (y := (nI k)) (by rw [nI_clamp (by omega)]; exact h2) ?_
  refine z_mi (va_runV (As := [.int (nI p), .int (nI k)]) (rest := []) hfix (zcX5_hears_k l D cI H1 (b + 61) tn n g me lo c bf e rd tk p k hM1 hI hp hk) (cwV 2 hts gL_law_X5_hears rfl rfl rfl (by decide +kernel) ⟨Nat.le_of_ble_eq_true rfl, Nat.le_of_ble_eq_true rfl⟩) (z_preV hK hKi hM1 (ci := 5) (q0 := 0) rfl rfl rfl) rfl rfl hl.1 rfl (lv_room (Nat.le_of_ble_eq_true rfl)) dL_law_604 ⟨by show cells + 0 + 0 ≤ 601024; omega, by show slots + 0 + 0 ≤ 7293033; omega⟩) hS (fun z _ h => by have h9 : zF (b + 61) (b + 61 + 5) z := h; have h8 := hS.1; show s.heap.size ≤ z; simp only [zF] at h9; omega) (fun z h => by have h9 : zF (b + 61) (b + 61 + 5) z := h; have h8 := hS.1; show s.heap.size ≤ z; simp only [zF] at h9; omega) (fun H2 lo2 hB hz2 hk2 hS => ?_)
  refine va_forget (fun q h => hS.2.2 q h) ?_
  have hS : va_S (fun q => s.heap.size ≤ q) s.heap H2 [] := ⟨hS.1, hS.2.1, fun z h => absurd h List.not_mem_nil⟩
  obtain ⟨hM2, hB9⟩ := hB
  have hC2 := zCW_kept hC1 (fun z h1 h2 h3 => hk2 z h1 (fun h4 => by have h9 : zF (b + 61) (b + 61 + 5) z := h4; simp only [zF] at h9; omega))
  have hO2 := zOb_kept hO1 (fun z h1 h2 h3 => hk2 z h1 (fun h4 => by have h9 : zF (b + 61) (b + 61 + 5) z := h4; simp only [zF] at h9; omega))
  refine lv_istore (lv' := [(6, .int (nI (e (p * 4 + k)))), (5, .int 0), (4, .int (nI i)), (3, .ref (b + 66)), (2, .ref (b + 61)), (1, .ref b), (0, .ref b0)]) hx hb dL_law_607 hl (by decide) rfl (fun ls hl => ?_)
  refine lv_aload_n hx hb dL_law_609 rfl (lv_at hl 4 rfl) ?_
  refine z_ki (va_runV (As := []) (rest := []) hfix (zcX5_thrown l D cI H2 _ _ _ _ _ _ _ hM2) (cwV 0 hts gL_law_X5_thrown rfl rfl rfl (by decide +kernel) ⟨Nat.le_of_ble_eq_true rfl, Nat.le_of_ble_eq_true rfl⟩) (z_preV hK hKi hM2 (ci := 5) (q0 := 0) rfl rfl rfl) rfl rfl hl.1 rfl (lv_room (Nat.le_of_ble_eq_true rfl)) dL_law_610 ⟨by show cells + 0 + 0 + 0 ≤ 601024; omega, by show slots + 0 + 0 + 0 ≤ 7293033; omega⟩) ?_
  refine lv_iload hx hb dL_law_613 (lv_at hl 1 rfl) ?_
  refine lv_icmp_eq (tgt := 620) hx hb dL_law_615 (by decide) (fun c9 => ?_) (fun c9 => absurd rfl c9)
  refine lv_iload hx hb dL_law_620 (lv_at hl 1 rfl) ?_
  refine lv_if_ne (tgt := 637) hx hb dL_law_622 (by decide) (fun c9 => absurd rfl c9) (fun c9 => ?_)
  refine lv_aload_n hx hb dL_law_625 rfl (lv_at hl 3 rfl) ?_
  refine lv_iconst (v := 0) hx hb dL_law_626 (by decide) ?_
  refine va_lald hx hb hK hO2 0 1 rfl rfl (vp_in_nI (n := 0) (by decide) (by decide)) dL_law_627 ?_
  refine z_tol (y := ((nI (e (p * 4 + k)))).toInt64) (by rfl) ?_
  refine lv_iload hx hb dL_law_628 (lv_at hl 0 rfl) ?_
  refine lv_i2l (v := ((nI (e (p * 4 + k)))).toInt64) hx hb dL_law_630 rfl ?_
  refine W.lcmp hx hb dL_law_631 ?_
  refine z_toi (y := 0) ((lg_cmp_eq _ _).mpr rfl) ?_
  refine lv_if_eq (tgt := 637) hx hb dL_law_632 (by decide) (fun c9 => ?_) (fun c9 => absurd rfl c9)
  refine lv_goto (tgt := 1137) hx hb dL_law_637 (by decide) ?_
  refine W.widen (k := cells + 16) (n := slots + 214) (by omega) (by omega) ?_
  exact kk _ _ _ _ _ _ _ _ _ _ ⟨hC2, ⟨_, hO2⟩, ⟨_, _, hM2⟩, hI, hZ⟩ hS (lv_sub hl [2, 3, 4, 5, 6] rfl)
set_option maxHeartbeats 4000000 in
set_option maxRecDepth 100000 in
/-- zlv_hears_b1 -/
theorem zlv_hears_b1 {pg : Program} {l : Launch} {ev : Env} {s : State} {m : MethodId} {below : List Frame} {meth : Method} {cd : Code} {D : va_G} {cI cL cR : ClassId} {b0 L : Nat} {xs : Nat → Int32} {Q : State → Prop} {H : Heap} {b n : Nat} {me lo : Nat → Int32} {c e : Nat → Nat} {rd tk tn : Int32} {g : zG} {bf : Nat → Int32} {f : Nat → Int64} {i cells slots : Nat} {ls : Array Slot} (hfix : CallFix pg m cd cL_law 9 s #[.ref b0] wsL_law RL) (hK : va_K D vwCl [(cI, .int), (cL, .long), (cR, .array .int)] s) (hKw : zKw s) (hE : zE s.heap.size s) (hlt : l.stackTraces = false) (hX0 : va_X b0 L xs s s.heap) (hb0 : b0 < s.heap.size) (hbs : s.heap.size ≤ b) (hC : zCW D cI b n me lo c e rd tk g H) (hM : va_P D vwCl (zMo cI (b + 61) tn n (jf g me lo c) bf (zn e) (nm rd tk)) H) (hO : va_P D vwCl [(b + 66, .inl (cL, 1, .inr (.inl f)))] H) (hI : zI n me lo c e) (hZ : zJ n g) (hS : va_S (fun q => s.heap.size ≤ q) s.heap H []) (hi : i + 4 ≤ L) (hL : L ≤ 2048) (hcell : cells + 16 ≤ 601024) (hslot : slots + 214 ≤ 7293033) (hl : lv_has ls 9 [(4, .int (nI i)), (3, .ref (b + 66)), (2, .ref (b + 61)), (1, .ref b), (0, .ref b0)]) (kk : zLK pg l ev s m below meth cd D cI cL b0 Q b i cells slots) (x : Int32) (y : Int32) (hx9 : ¬ ∃ j, j < n ∧ x = nI j) (h1 : xs (i + 1) = x) (h2 : xs (i + 2) = y) : W pg l ev room_1 s m #[Value.ref b0] below meth cd H [] cells slots Q (F0 m 572 ls []) := by
  obtain ⟨hx, hb, hml, hown, hts⟩ := id hfix
  have hbA : ¬ (fun q : Nat => s.heap.size ≤ q) b0 := Nat.not_le.mpr hb0
  have hKi : va_K D vwCl [(cI, .int)] s := hK.sub [0] rfl
  have hKl : va_K D vwCl [(cI, .int), (cL, .long)] s := hK.sub [0, 1] rfl
  have hKq : va_K D vwCl [(cI, .int), (cR, .array .int)] s := hK.sub [0, 2] rfl
  have hsz := hS.1
  refine lv_aload_n hx hb dL_law_572 rfl (lv_at hl 3 rfl) ?_
  refine lv_aload_n hx hb dL_law_573 rfl (lv_at hl 4 rfl) ?_
  refine lv_iload hx hb dL_law_574 (lv_at hl 0 rfl) ?_
  refine lv_iconst (v := 1) hx hb dL_law_576 (by decide) ?_
  refine lv_iadd hx hb dL_law_577 ?_
  refine z_toi (y := nI (i + 1)) (nI_add i 1) ?_
  refine va_sld hx hb hX0 hb0 hbA hS (vp_in_nI (by omega) (by omega)) dL_law_578 ?_
  refine z_toi (y := x) (by rw [nI_clamp (by omega)]; exact h1) ?_
  refine lv_aload_n hx hb dL_law_579 rfl (lv_at hl 4 rfl) ?_
  refine lv_iload hx hb dL_law_580 (lv_at hl 0 rfl) ?_
  refine lv_iconst (v := 2) hx hb dL_law_582 (by decide) ?_
  refine lv_iadd hx hb dL_law_583 ?_
  refine z_toi (y := nI (i + 2)) (nI_add i 2) ?_
  refine va_sld hx hb hX0 hb0 hbA hS (vp_in_nI (by omega) (by omega)) dL_law_584 ?_
  refine z_toi (y := y) (by rw [nI_clamp (by omega)]; exact h2) ?_
  refine lv_aload_n hx hb dL_law_585 rfl (lv_at hl 1 rfl) ?_
  refine z_mi (vx_runSW (As := [.ref b, .int x, .int y, .ref (b + 66)]) (rest := []) hfix (zcL_hears_b1 l D cI cL H s.heap.size (b + 66) hlt hS.1 b n me lo c e rd tk g x y hC hI hx9) (vx_cwSW 4 hts gL_law_L_hears rfl rfl rfl (by decide +kernel) ⟨Nat.le_of_ble_eq_true rfl, Nat.le_of_ble_eq_true rfl⟩) (z_xpreS hE (fun q h1 h2 => hS.2.1 q h1 h2) hKl) rfl rfl hl.1 rfl (lv_room (Nat.le_of_ble_eq_true rfl)) dL_law_586 ⟨by show cells + 1 ≤ 601024; omega, by show slots + 6 ≤ 7293033; omega⟩) hS (fun z _ h => by have h9 : H.size ≤ z := h; have h8 := hS.1; show s.heap.size ≤ z; omega) (fun z h => by have h9 : H.size ≤ z := h; have h8 := hS.1; show s.heap.size ≤ z; omega) (fun H1 lo1 hB hz1 hk1 hS => ?_)
  refine va_forget (fun q h => hS.2.2 q h) ?_
  have hS : va_S (fun q => s.heap.size ≤ q) s.heap H1 [] := ⟨hS.1, hS.2.1, fun z h => absurd h List.not_mem_nil⟩
  have hM1 := zMo_kept hM (fun z h1 h2 h3 => hk1 z h1 (fun h4 => by have h9 : H.size ≤ z := h4; omega))
  have hC1 := zCW_kept hC (fun z h1 h2 h3 => hk1 z h1 (fun h4 => by have h9 : H.size ≤ z := h4; omega))
  have hO1 := zOb_kept hO (fun z h1 h2 h3 => hk1 z h1 (fun h4 => by have h9 : H.size ≤ z := h4; omega))
  refine lv_istore (lv' := [(5, .int 1), (4, .int (nI i)), (3, .ref (b + 66)), (2, .ref (b + 61)), (1, .ref b), (0, .ref b0)]) hx hb dL_law_589 hl (by decide) rfl (fun ls hl => ?_)
  refine lv_aload_n hx hb dL_law_591 rfl (lv_at hl 3 rfl) ?_
  refine lv_aload_n hx hb dL_law_592 rfl (lv_at hl 5 rfl) ?_
  refine lv_iload hx hb dL_law_593 (lv_at hl 1 rfl) ?_
  refine lv_iconst (v := 1) hx hb dL_law_595 (by decide) ?_
  refine lv_iadd hx hb dL_law_596 ?_
  refine z_toi (y := nI (i + 1)) (nI_add i 1) ?_
  refine va_sld hx hb hX0 hb0 hbA hS (vp_in_nI (by omega) (by omega)) dL_law_597 ?_
  refine z_toi (y := x) (by rw [nI_clamp (by omega)]; exact h1) ?_
  refine lv_aload_n hx hb dL_law_598 rfl (lv_at hl 5 rfl) ?_
  refine lv_iload hx hb dL_law_599 (lv_at hl 1 rfl) ?_
  refine lv_iconst (v := 2) hx hb dL_law_601 (by decide) ?_
  refine lv_iadd hx hb dL_law_602 ?_
  refine z_toi (y := nI (i + 2)) (nI_add i 2) ?_
  refine va_sld hx hb hX0 hb0 hbA hS (vp_in_nI (by omega) (by omega)) dL_law_603 ?_
  refine z_toi (y := y) (by rw [nI_clamp (by omega)]; exact h2) ?_
  refine z_mi (va_runV (As := [.int x, .int y]) (rest := []) hfix (zcX5_hears_b1 l D cI H1 (b + 61) tn n g me lo c bf e rd tk x y hM1 hI hx9) (cwV 2 hts gL_law_X5_hears rfl rfl rfl (by decide +kernel) ⟨Nat.le_of_ble_eq_true rfl, Nat.le_of_ble_eq_true rfl⟩) (z_preV hK hKi hM1 (ci := 5) (q0 := 0) rfl rfl rfl) rfl rfl hl.1 rfl (lv_room (Nat.le_of_ble_eq_true rfl)) dL_law_604 ⟨by show cells + 1 + 0 ≤ 601024; omega, by show slots + 6 + 0 ≤ 7293033; omega⟩) hS (fun z _ h => by have h9 : zF (b + 61) (b + 61 + 5) z := h; have h8 := hS.1; show s.heap.size ≤ z; simp only [zF] at h9; omega) (fun z h => by have h9 : zF (b + 61) (b + 61 + 5) z := h; have h8 := hS.1; show s.heap.size ≤ z; simp only [zF] at h9; omega) (fun H2 lo2 hB hz2 hk2 hS => ?_)
  refine va_forget (fun q h => hS.2.2 q h) ?_
  have hS : va_S (fun q => s.heap.size ≤ q) s.heap H2 [] := ⟨hS.1, hS.2.1, fun z h => absurd h List.not_mem_nil⟩
  obtain ⟨hM2, hB9⟩ := hB
  have hC2 := zCW_kept hC1 (fun z h1 h2 h3 => hk2 z h1 (fun h4 => by have h9 : zF (b + 61) (b + 61 + 5) z := h4; simp only [zF] at h9; omega))
  have hO2 := zOb_kept hO1 (fun z h1 h2 h3 => hk2 z h1 (fun h4 => by have h9 : zF (b + 61) (b + 61 + 5) z := h4; simp only [zF] at h9; omega))
  refine lv_istore (lv' := [(6, .int 0), (5, .int 1), (4, .int (nI i)), (3, .ref (b + 66)), (2, .ref (b + 61)), (1, .ref b), (0, .ref b0)]) hx hb dL_law_607 hl (by decide) rfl (fun ls hl => ?_)
  refine lv_aload_n hx hb dL_law_609 rfl (lv_at hl 4 rfl) ?_
  refine z_ki (va_runV (As := []) (rest := []) hfix (zcX5_thrown l D cI H2 _ _ _ _ _ _ _ hM2) (cwV 0 hts gL_law_X5_thrown rfl rfl rfl (by decide +kernel) ⟨Nat.le_of_ble_eq_true rfl, Nat.le_of_ble_eq_true rfl⟩) (z_preV hK hKi hM2 (ci := 5) (q0 := 0) rfl rfl rfl) rfl rfl hl.1 rfl (lv_room (Nat.le_of_ble_eq_true rfl)) dL_law_610 ⟨by show cells + 1 + 0 + 0 ≤ 601024; omega, by show slots + 6 + 0 + 0 ≤ 7293033; omega⟩) ?_
  refine lv_iload hx hb dL_law_613 (lv_at hl 1 rfl) ?_
  refine lv_icmp_eq (tgt := 620) hx hb dL_law_615 (by decide) (fun c9 => ?_) (fun c9 => absurd rfl c9)
  refine lv_iload hx hb dL_law_620 (lv_at hl 1 rfl) ?_
  refine lv_if_ne (tgt := 637) hx hb dL_law_622 (by decide) (fun c9 => ?_) (fun c9 => absurd c9 (by decide))
  refine lv_goto (tgt := 1137) hx hb dL_law_637 (by decide) ?_
  refine W.widen (k := cells + 16) (n := slots + 214) (by omega) (by omega) ?_
  exact kk _ _ _ _ _ _ _ _ _ _ ⟨hC2, ⟨_, hO2⟩, ⟨_, _, hM2⟩, hI, hZ⟩ hS (lv_sub hl [2, 3, 4, 5, 6] rfl)
set_option maxHeartbeats 4000000 in
set_option maxRecDepth 100000 in
/-- zlv_hears_b2 -/
theorem zlv_hears_b2 {pg : Program} {l : Launch} {ev : Env} {s : State} {m : MethodId} {below : List Frame} {meth : Method} {cd : Code} {D : va_G} {cI cL cR : ClassId} {b0 L : Nat} {xs : Nat → Int32} {Q : State → Prop} {H : Heap} {b n : Nat} {me lo : Nat → Int32} {c e : Nat → Nat} {rd tk tn : Int32} {g : zG} {bf : Nat → Int32} {f : Nat → Int64} {i cells slots : Nat} {ls : Array Slot} (hfix : CallFix pg m cd cL_law 9 s #[.ref b0] wsL_law RL) (hK : va_K D vwCl [(cI, .int), (cL, .long), (cR, .array .int)] s) (hKw : zKw s) (hE : zE s.heap.size s) (hlt : l.stackTraces = false) (hX0 : va_X b0 L xs s s.heap) (hb0 : b0 < s.heap.size) (hbs : s.heap.size ≤ b) (hC : zCW D cI b n me lo c e rd tk g H) (hM : va_P D vwCl (zMo cI (b + 61) tn n (jf g me lo c) bf (zn e) (nm rd tk)) H) (hO : va_P D vwCl [(b + 66, .inl (cL, 1, .inr (.inl f)))] H) (hI : zI n me lo c e) (hZ : zJ n g) (hS : va_S (fun q => s.heap.size ≤ q) s.heap H []) (hi : i + 4 ≤ L) (hL : L ≤ 2048) (hcell : cells + 16 ≤ 601024) (hslot : slots + 214 ≤ 7293033) (hl : lv_has ls 9 [(4, .int (nI i)), (3, .ref (b + 66)), (2, .ref (b + 61)), (1, .ref b), (0, .ref b0)]) (kk : zLK pg l ev s m below meth cd D cI cL b0 Q b i cells slots) (p : Nat) (y : Int32) (hp : p < n) (hx9 : ¬ ∃ j, j < c p ∧ y = nI j) (h1 : xs (i + 1) = (nI p)) (h2 : xs (i + 2) = y) : W pg l ev room_1 s m #[Value.ref b0] below meth cd H [] cells slots Q (F0 m 572 ls []) := by
  obtain ⟨hx, hb, hml, hown, hts⟩ := id hfix
  have hbA : ¬ (fun q : Nat => s.heap.size ≤ q) b0 := Nat.not_le.mpr hb0
  have hKi : va_K D vwCl [(cI, .int)] s := hK.sub [0] rfl
  have hKl : va_K D vwCl [(cI, .int), (cL, .long)] s := hK.sub [0, 1] rfl
  have hKq : va_K D vwCl [(cI, .int), (cR, .array .int)] s := hK.sub [0, 2] rfl
  have hsz := hS.1
  refine lv_aload_n hx hb dL_law_572 rfl (lv_at hl 3 rfl) ?_
  refine lv_aload_n hx hb dL_law_573 rfl (lv_at hl 4 rfl) ?_
  refine lv_iload hx hb dL_law_574 (lv_at hl 0 rfl) ?_
  refine lv_iconst (v := 1) hx hb dL_law_576 (by decide) ?_
  refine lv_iadd hx hb dL_law_577 ?_
  refine z_toi (y := nI (i + 1)) (nI_add i 1) ?_
  refine va_sld hx hb hX0 hb0 hbA hS (vp_in_nI (by omega) (by omega)) dL_law_578 ?_
  refine z_toi (y := (nI p)) (by rw [nI_clamp (by omega)]; exact h1) ?_
  refine lv_aload_n hx hb dL_law_579 rfl (lv_at hl 4 rfl) ?_
  refine lv_iload hx hb dL_law_580 (lv_at hl 0 rfl) ?_
  refine lv_iconst (v := 2) hx hb dL_law_582 (by decide) ?_
  refine lv_iadd hx hb dL_law_583 ?_
  refine z_toi (y := nI (i + 2)) (nI_add i 2) ?_
  refine va_sld hx hb hX0 hb0 hbA hS (vp_in_nI (by omega) (by omega)) dL_law_584 ?_
  refine z_toi (y := y) (by rw [nI_clamp (by omega)]; exact h2) ?_
  refine lv_aload_n hx hb dL_law_585 rfl (lv_at hl 1 rfl) ?_
  refine z_mi (vx_runSW (As := [.ref b, .int (nI p), .int y, .ref (b + 66)]) (rest := []) hfix (zcL_hears_b2 l D cI cL H s.heap.size (b + 66) hlt hS.1 b n me lo c e rd tk g p y hC hI hp hx9) (vx_cwSW 4 hts gL_law_L_hears rfl rfl rfl (by decide +kernel) ⟨Nat.le_of_ble_eq_true rfl, Nat.le_of_ble_eq_true rfl⟩) (z_xpreS hE (fun q h1 h2 => hS.2.1 q h1 h2) hKl) rfl rfl hl.1 rfl (lv_room (Nat.le_of_ble_eq_true rfl)) dL_law_586 ⟨by show cells + 1 ≤ 601024; omega, by show slots + 6 ≤ 7293033; omega⟩) hS (fun z _ h => by have h9 : H.size ≤ z := h; have h8 := hS.1; show s.heap.size ≤ z; omega) (fun z h => by have h9 : H.size ≤ z := h; have h8 := hS.1; show s.heap.size ≤ z; omega) (fun H1 lo1 hB hz1 hk1 hS => ?_)
  refine va_forget (fun q h => hS.2.2 q h) ?_
  have hS : va_S (fun q => s.heap.size ≤ q) s.heap H1 [] := ⟨hS.1, hS.2.1, fun z h => absurd h List.not_mem_nil⟩
  have hM1 := zMo_kept hM (fun z h1 h2 h3 => hk1 z h1 (fun h4 => by have h9 : H.size ≤ z := h4; omega))
  have hC1 := zCW_kept hC (fun z h1 h2 h3 => hk1 z h1 (fun h4 => by have h9 : H.size ≤ z := h4; omega))
  have hO1 := zOb_kept hO (fun z h1 h2 h3 => hk1 z h1 (fun h4 => by have h9 : H.size ≤ z := h4; omega))
  refine lv_istore (lv' := [(5, .int 1), (4, .int (nI i)), (3, .ref (b + 66)), (2, .ref (b + 61)), (1, .ref b), (0, .ref b0)]) hx hb dL_law_589 hl (by decide) rfl (fun ls hl => ?_)
  refine lv_aload_n hx hb dL_law_591 rfl (lv_at hl 3 rfl) ?_
  refine lv_aload_n hx hb dL_law_592 rfl (lv_at hl 5 rfl) ?_
  refine lv_iload hx hb dL_law_593 (lv_at hl 1 rfl) ?_
  refine lv_iconst (v := 1) hx hb dL_law_595 (by decide) ?_
  refine lv_iadd hx hb dL_law_596 ?_
  refine z_toi (y := nI (i + 1)) (nI_add i 1) ?_
  refine va_sld hx hb hX0 hb0 hbA hS (vp_in_nI (by omega) (by omega)) dL_law_597 ?_
  refine z_toi (y := (nI p)) (by rw [nI_clamp (by omega)]; exact h1) ?_
  refine lv_aload_n hx hb dL_law_598 rfl (lv_at hl 5 rfl) ?_
  refine lv_iload hx hb dL_law_599 (lv_at hl 1 rfl) ?_
  refine lv_iconst (v := 2) hx hb dL_law_601 (by decide) ?_
  refine lv_iadd hx hb dL_law_602 ?_
  refine z_toi (y := nI (i + 2)) (nI_add i 2) ?_
  refine va_sld hx hb hX0 hb0 hbA hS (vp_in_nI (by omega) (by omega)) dL_law_603 ?_
  refine z_toi (y := y) (by rw [nI_clamp (by omega)]; exact h2) ?_
  refine z_mi (va_runV (As := [.int (nI p), .int y]) (rest := []) hfix (zcX5_hears_b2 l D cI H1 (b + 61) tn n g me lo c bf e rd tk p y hM1 hI hp hx9) (cwV 2 hts gL_law_X5_hears rfl rfl rfl (by decide +kernel) ⟨Nat.le_of_ble_eq_true rfl, Nat.le_of_ble_eq_true rfl⟩) (z_preV hK hKi hM1 (ci := 5) (q0 := 0) rfl rfl rfl) rfl rfl hl.1 rfl (lv_room (Nat.le_of_ble_eq_true rfl)) dL_law_604 ⟨by show cells + 1 + 0 ≤ 601024; omega, by show slots + 6 + 0 ≤ 7293033; omega⟩) hS (fun z _ h => by have h9 : zF (b + 61) (b + 61 + 5) z := h; have h8 := hS.1; show s.heap.size ≤ z; simp only [zF] at h9; omega) (fun z h => by have h9 : zF (b + 61) (b + 61 + 5) z := h; have h8 := hS.1; show s.heap.size ≤ z; simp only [zF] at h9; omega) (fun H2 lo2 hB hz2 hk2 hS => ?_)
  refine va_forget (fun q h => hS.2.2 q h) ?_
  have hS : va_S (fun q => s.heap.size ≤ q) s.heap H2 [] := ⟨hS.1, hS.2.1, fun z h => absurd h List.not_mem_nil⟩
  obtain ⟨hM2, hB9⟩ := hB
  have hC2 := zCW_kept hC1 (fun z h1 h2 h3 => hk2 z h1 (fun h4 => by have h9 : zF (b + 61) (b + 61 + 5) z := h4; simp only [zF] at h9; omega))
  have hO2 := zOb_kept hO1 (fun z h1 h2 h3 => hk2 z h1 (fun h4 => by have h9 : zF (b + 61) (b + 61 + 5) z := h4; simp only [zF] at h9; omega))
  refine lv_istore (lv' := [(6, .int 0), (5, .int 1), (4, .int (nI i)), (3, .ref (b + 66)), (2, .ref (b + 61)), (1, .ref b), (0, .ref b0)]) hx hb dL_law_607 hl (by decide) rfl (fun ls hl => ?_)
  refine lv_aload_n hx hb dL_law_609 rfl (lv_at hl 4 rfl) ?_
  refine z_ki (va_runV (As := []) (rest := []) hfix (zcX5_thrown l D cI H2 _ _ _ _ _ _ _ hM2) (cwV 0 hts gL_law_X5_thrown rfl rfl rfl (by decide +kernel) ⟨Nat.le_of_ble_eq_true rfl, Nat.le_of_ble_eq_true rfl⟩) (z_preV hK hKi hM2 (ci := 5) (q0 := 0) rfl rfl rfl) rfl rfl hl.1 rfl (lv_room (Nat.le_of_ble_eq_true rfl)) dL_law_610 ⟨by show cells + 1 + 0 + 0 ≤ 601024; omega, by show slots + 6 + 0 + 0 ≤ 7293033; omega⟩) ?_
  refine lv_iload hx hb dL_law_613 (lv_at hl 1 rfl) ?_
  refine lv_icmp_eq (tgt := 620) hx hb dL_law_615 (by decide) (fun c9 => ?_) (fun c9 => absurd rfl c9)
  refine lv_iload hx hb dL_law_620 (lv_at hl 1 rfl) ?_
  refine lv_if_ne (tgt := 637) hx hb dL_law_622 (by decide) (fun c9 => ?_) (fun c9 => absurd c9 (by decide))
  refine lv_goto (tgt := 1137) hx hb dL_law_637 (by decide) ?_
  refine W.widen (k := cells + 16) (n := slots + 214) (by omega) (by omega) ?_
  exact kk _ _ _ _ _ _ _ _ _ _ ⟨hC2, ⟨_, hO2⟩, ⟨_, _, hM2⟩, hI, hZ⟩ hS (lv_sub hl [2, 3, 4, 5, 6] rfl)
set_option maxHeartbeats 4000000 in
set_option maxRecDepth 100000 in
/-- zlv_votes_ok -/
theorem zlv_votes_ok {pg : Program} {l : Launch} {ev : Env} {s : State} {m : MethodId} {below : List Frame} {meth : Method} {cd : Code} {D : va_G} {cI cL cR : ClassId} {b0 L : Nat} {xs : Nat → Int32} {Q : State → Prop} {H : Heap} {b n : Nat} {me lo : Nat → Int32} {c e : Nat → Nat} {rd tk tn : Int32} {g : zG} {bf : Nat → Int32} {f : Nat → Int64} {i cells slots : Nat} {ls : Array Slot} (hfix : CallFix pg m cd cL_law 9 s #[.ref b0] wsL_law RL) (hK : va_K D vwCl [(cI, .int), (cL, .long), (cR, .array .int)] s) (hKw : zKw s) (hE : zE s.heap.size s) (hlt : l.stackTraces = false) (hX0 : va_X b0 L xs s s.heap) (hb0 : b0 < s.heap.size) (hbs : s.heap.size ≤ b) (hC : zCW D cI b n me lo c e rd tk g H) (hM : va_P D vwCl (zMo cI (b + 61) tn n (jf g me lo c) bf (zn e) (nm rd tk)) H) (hO : va_P D vwCl [(b + 66, .inl (cL, 1, .inr (.inl f)))] H) (hI : zI n me lo c e) (hZ : zJ n g) (hS : va_S (fun q => s.heap.size ≤ q) s.heap H []) (hi : i + 4 ≤ L) (hL : L ≤ 2048) (hcell : cells + 16 ≤ 601024) (hslot : slots + 214 ≤ 7293033) (hl : lv_has ls 9 [(4, .int (nI i)), (3, .ref (b + 66)), (2, .ref (b + 61)), (1, .ref b), (0, .ref b0)]) (kk : zLK pg l ev s m below meth cd D cI cL b0 Q b i cells slots) (w : Nat) (hw : w ≤ 9999) (h1 : xs (i + 1) = (nI w)) : W pg l ev room_1 s m #[Value.ref b0] below meth cd H [] cells slots Q (F0 m 640 ls []) := by
  obtain ⟨hx, hb, hml, hown, hts⟩ := id hfix
  have hbA : ¬ (fun q : Nat => s.heap.size ≤ q) b0 := Nat.not_le.mpr hb0
  have hKi : va_K D vwCl [(cI, .int)] s := hK.sub [0] rfl
  have hKl : va_K D vwCl [(cI, .int), (cL, .long)] s := hK.sub [0, 1] rfl
  have hKq : va_K D vwCl [(cI, .int), (cR, .array .int)] s := hK.sub [0, 2] rfl
  have hsz := hS.1
  refine lv_aload_n hx hb dL_law_640 rfl (lv_at hl 3 rfl) ?_
  refine lv_aload_n hx hb dL_law_641 rfl (lv_at hl 4 rfl) ?_
  refine lv_iload hx hb dL_law_642 (lv_at hl 0 rfl) ?_
  refine lv_iconst (v := 1) hx hb dL_law_644 (by decide) ?_
  refine lv_iadd hx hb dL_law_645 ?_
  refine z_toi (y := nI (i + 1)) (nI_add i 1) ?_
  refine va_sld hx hb hX0 hb0 hbA hS (vp_in_nI (by omega) (by omega)) dL_law_646 ?_
  refine z_toi (y := (nI w)) (by rw [nI_clamp (by omega)]; exact h1) ?_
  refine lv_aload_n hx hb dL_law_647 rfl (lv_at hl 1 rfl) ?_
  refine z_mi (vx_runSW (As := [.ref b, .int (nI w), .ref (b + 66)]) (rest := []) hfix (zcL_votes_k l D cI cL H s.heap.size (b + 66) f b n me lo c e rd tk g w hC hI hw hO (by omega)) (vx_cwSW 3 hts gL_law_L_votes rfl rfl rfl (by decide +kernel) ⟨Nat.le_of_ble_eq_true rfl, Nat.le_of_ble_eq_true rfl⟩) (z_xpreS hE (fun q h1 h2 => hS.2.1 q h1 h2) hKl) rfl rfl hl.1 rfl (lv_room (Nat.le_of_ble_eq_true rfl)) dL_law_648 ⟨by show cells + 0 ≤ 601024; omega, by show slots + 0 ≤ 7293033; omega⟩) hS (fun z _ h => by have h9 : zF b (b + 61) z ∨ @Eq Nat z (b + 66) := h; have h8 := hS.1; show s.heap.size ≤ z; simp only [zF] at h9; omega) (fun z h => by have h9 : zF b (b + 61) z ∨ @Eq Nat z (b + 66) := h; have h8 := hS.1; show s.heap.size ≤ z; simp only [zF] at h9; omega) (fun H1 lo1 hB hz1 hk1 hS => ?_)
  refine va_forget (fun q h => hS.2.2 q h) ?_
  have hS : va_S (fun q => s.heap.size ≤ q) s.heap H1 [] := ⟨hS.1, hS.2.1, fun z h => absurd h List.not_mem_nil⟩
  have hM1 := zMo_kept hM (fun z h1 h2 h3 => hk1 z h1 (fun h4 => by have h9 : zF b (b + 61) z ∨ @Eq Nat z (b + 66) := h4; simp only [zF] at h9; omega))
  have hC1 := hB.1
  have hO1 := hB.2.1
  refine lv_istore (lv' := [(5, .int 0), (4, .int (nI i)), (3, .ref (b + 66)), (2, .ref (b + 61)), (1, .ref b), (0, .ref b0)]) hx hb dL_law_651 hl (by decide) rfl (fun ls hl => ?_)
  refine lv_aload_n hx hb dL_law_653 rfl (lv_at hl 3 rfl) ?_
  refine lv_aload_n hx hb dL_law_654 rfl (lv_at hl 5 rfl) ?_
  refine lv_iload hx hb dL_law_655 (lv_at hl 1 rfl) ?_
  refine lv_iconst (v := 1) hx hb dL_law_657 (by decide) ?_
  refine lv_iadd hx hb dL_law_658 ?_
  refine z_toi (y := nI (i + 1)) (nI_add i 1) ?_
  refine va_sld hx hb hX0 hb0 hbA hS (vp_in_nI (by omega) (by omega)) dL_law_659 ?_
  refine z_toi (y := (nI w)) (by rw [nI_clamp (by omega)]; exact h1) ?_
  refine z_mi (va_runV (As := [.int (nI w)]) (rest := []) hfix (zcX5_votes_k l D cI H1 (b + 61) tn n g me lo c bf e rd tk w hM1 hI hw) (cwV 1 hts gL_law_X5_votes rfl rfl rfl (by decide +kernel) ⟨Nat.le_of_ble_eq_true rfl, Nat.le_of_ble_eq_true rfl⟩) (z_preV hK hKi hM1 (ci := 5) (q0 := 0) rfl rfl rfl) rfl rfl hl.1 rfl (lv_room (Nat.le_of_ble_eq_true rfl)) dL_law_660 ⟨by show cells + 0 + 0 ≤ 601024; omega, by show slots + 0 + 0 ≤ 7293033; omega⟩) hS (fun z _ h => by have h9 : zF (b + 61) (b + 61 + 5) z := h; have h8 := hS.1; show s.heap.size ≤ z; simp only [zF] at h9; omega) (fun z h => by have h9 : zF (b + 61) (b + 61 + 5) z := h; have h8 := hS.1; show s.heap.size ≤ z; simp only [zF] at h9; omega) (fun H2 lo2 hB hz2 hk2 hS => ?_)
  refine va_forget (fun q h => hS.2.2 q h) ?_
  have hS : va_S (fun q => s.heap.size ≤ q) s.heap H2 [] := ⟨hS.1, hS.2.1, fun z h => absurd h List.not_mem_nil⟩
  obtain ⟨hM2, hB9⟩ := hB
  have hC2 := zCW_kept hC1 (fun z h1 h2 h3 => hk2 z h1 (fun h4 => by have h9 : zF (b + 61) (b + 61 + 5) z := h4; simp only [zF] at h9; omega))
  have hO2 := zOb_kept hO1 (fun z h1 h2 h3 => hk2 z h1 (fun h4 => by have h9 : zF (b + 61) (b + 61 + 5) z := h4; simp only [zF] at h9; omega))
  refine lv_istore (lv' := [(6, .int (nI (vt g (nI w) n))), (5, .int 0), (4, .int (nI i)), (3, .ref (b + 66)), (2, .ref (b + 61)), (1, .ref b), (0, .ref b0)]) hx hb dL_law_663 hl (by decide) rfl (fun ls hl => ?_)
  refine lv_aload_n hx hb dL_law_665 rfl (lv_at hl 4 rfl) ?_
  refine z_ki (va_runV (As := []) (rest := []) hfix (zcX5_thrown l D cI H2 _ _ _ _ _ _ _ hM2) (cwV 0 hts gL_law_X5_thrown rfl rfl rfl (by decide +kernel) ⟨Nat.le_of_ble_eq_true rfl, Nat.le_of_ble_eq_true rfl⟩) (z_preV hK hKi hM2 (ci := 5) (q0 := 0) rfl rfl rfl) rfl rfl hl.1 rfl (lv_room (Nat.le_of_ble_eq_true rfl)) dL_law_666 ⟨by show cells + 0 + 0 + 0 ≤ 601024; omega, by show slots + 0 + 0 + 0 ≤ 7293033; omega⟩) ?_
  refine lv_iload hx hb dL_law_669 (lv_at hl 1 rfl) ?_
  refine lv_icmp_eq (tgt := 676) hx hb dL_law_671 (by decide) (fun c9 => ?_) (fun c9 => absurd rfl c9)
  refine lv_iload hx hb dL_law_676 (lv_at hl 1 rfl) ?_
  refine lv_if_ne (tgt := 693) hx hb dL_law_678 (by decide) (fun c9 => absurd rfl c9) (fun c9 => ?_)
  refine lv_aload_n hx hb dL_law_681 rfl (lv_at hl 3 rfl) ?_
  refine lv_iconst (v := 0) hx hb dL_law_682 (by decide) ?_
  refine va_lald hx hb hK hO2 0 1 rfl rfl (vp_in_nI (n := 0) (by decide) (by decide)) dL_law_683 ?_
  refine z_tol (y := ((nI (vt g (nI w) n))).toInt64) (by rfl) ?_
  refine lv_iload hx hb dL_law_684 (lv_at hl 0 rfl) ?_
  refine lv_i2l (v := ((nI (vt g (nI w) n))).toInt64) hx hb dL_law_686 rfl ?_
  refine W.lcmp hx hb dL_law_687 ?_
  refine z_toi (y := 0) ((lg_cmp_eq _ _).mpr rfl) ?_
  refine lv_if_eq (tgt := 693) hx hb dL_law_688 (by decide) (fun c9 => ?_) (fun c9 => absurd rfl c9)
  refine lv_goto (tgt := 1137) hx hb dL_law_693 (by decide) ?_
  refine W.widen (k := cells + 16) (n := slots + 214) (by omega) (by omega) ?_
  exact kk _ _ _ _ _ _ _ _ _ _ ⟨hC2, ⟨_, hO2⟩, ⟨_, _, hM2⟩, hI, hZ⟩ hS (lv_sub hl [2, 3, 4, 5, 6] rfl)
set_option maxHeartbeats 4000000 in
set_option maxRecDepth 100000 in
/-- zlv_votes_b1 -/
theorem zlv_votes_b1 {pg : Program} {l : Launch} {ev : Env} {s : State} {m : MethodId} {below : List Frame} {meth : Method} {cd : Code} {D : va_G} {cI cL cR : ClassId} {b0 L : Nat} {xs : Nat → Int32} {Q : State → Prop} {H : Heap} {b n : Nat} {me lo : Nat → Int32} {c e : Nat → Nat} {rd tk tn : Int32} {g : zG} {bf : Nat → Int32} {f : Nat → Int64} {i cells slots : Nat} {ls : Array Slot} (hfix : CallFix pg m cd cL_law 9 s #[.ref b0] wsL_law RL) (hK : va_K D vwCl [(cI, .int), (cL, .long), (cR, .array .int)] s) (hKw : zKw s) (hE : zE s.heap.size s) (hlt : l.stackTraces = false) (hX0 : va_X b0 L xs s s.heap) (hb0 : b0 < s.heap.size) (hbs : s.heap.size ≤ b) (hC : zCW D cI b n me lo c e rd tk g H) (hM : va_P D vwCl (zMo cI (b + 61) tn n (jf g me lo c) bf (zn e) (nm rd tk)) H) (hO : va_P D vwCl [(b + 66, .inl (cL, 1, .inr (.inl f)))] H) (hI : zI n me lo c e) (hZ : zJ n g) (hS : va_S (fun q => s.heap.size ≤ q) s.heap H []) (hi : i + 4 ≤ L) (hL : L ≤ 2048) (hcell : cells + 16 ≤ 601024) (hslot : slots + 214 ≤ 7293033) (hl : lv_has ls 9 [(4, .int (nI i)), (3, .ref (b + 66)), (2, .ref (b + 61)), (1, .ref b), (0, .ref b0)]) (kk : zLK pg l ev s m below meth cd D cI cL b0 Q b i cells slots) (x : Int32) (hx9 : x < 0 ∨ ¬ x ≤ 9999) (h1 : xs (i + 1) = x) : W pg l ev room_1 s m #[Value.ref b0] below meth cd H [] cells slots Q (F0 m 640 ls []) := by
  obtain ⟨hx, hb, hml, hown, hts⟩ := id hfix
  have hbA : ¬ (fun q : Nat => s.heap.size ≤ q) b0 := Nat.not_le.mpr hb0
  have hKi : va_K D vwCl [(cI, .int)] s := hK.sub [0] rfl
  have hKl : va_K D vwCl [(cI, .int), (cL, .long)] s := hK.sub [0, 1] rfl
  have hKq : va_K D vwCl [(cI, .int), (cR, .array .int)] s := hK.sub [0, 2] rfl
  have hsz := hS.1
  refine lv_aload_n hx hb dL_law_640 rfl (lv_at hl 3 rfl) ?_
  refine lv_aload_n hx hb dL_law_641 rfl (lv_at hl 4 rfl) ?_
  refine lv_iload hx hb dL_law_642 (lv_at hl 0 rfl) ?_
  refine lv_iconst (v := 1) hx hb dL_law_644 (by decide) ?_
  refine lv_iadd hx hb dL_law_645 ?_
  refine z_toi (y := nI (i + 1)) (nI_add i 1) ?_
  refine va_sld hx hb hX0 hb0 hbA hS (vp_in_nI (by omega) (by omega)) dL_law_646 ?_
  refine z_toi (y := x) (by rw [nI_clamp (by omega)]; exact h1) ?_
  refine lv_aload_n hx hb dL_law_647 rfl (lv_at hl 1 rfl) ?_
  refine z_mi (vx_runSW (As := [.ref b, .int x, .ref (b + 66)]) (rest := []) hfix (zcL_votes_b1 l D cI cL H s.heap.size (b + 66) hlt hS.1 b n me lo c e rd tk g x hC hI hx9) (vx_cwSW 3 hts gL_law_L_votes rfl rfl rfl (by decide +kernel) ⟨Nat.le_of_ble_eq_true rfl, Nat.le_of_ble_eq_true rfl⟩) (z_xpreS hE (fun q h1 h2 => hS.2.1 q h1 h2) hKl) rfl rfl hl.1 rfl (lv_room (Nat.le_of_ble_eq_true rfl)) dL_law_648 ⟨by show cells + 1 ≤ 601024; omega, by show slots + 6 ≤ 7293033; omega⟩) hS (fun z _ h => by have h9 : H.size ≤ z := h; have h8 := hS.1; show s.heap.size ≤ z; omega) (fun z h => by have h9 : H.size ≤ z := h; have h8 := hS.1; show s.heap.size ≤ z; omega) (fun H1 lo1 hB hz1 hk1 hS => ?_)
  refine va_forget (fun q h => hS.2.2 q h) ?_
  have hS : va_S (fun q => s.heap.size ≤ q) s.heap H1 [] := ⟨hS.1, hS.2.1, fun z h => absurd h List.not_mem_nil⟩
  have hM1 := zMo_kept hM (fun z h1 h2 h3 => hk1 z h1 (fun h4 => by have h9 : H.size ≤ z := h4; omega))
  have hC1 := zCW_kept hC (fun z h1 h2 h3 => hk1 z h1 (fun h4 => by have h9 : H.size ≤ z := h4; omega))
  have hO1 := zOb_kept hO (fun z h1 h2 h3 => hk1 z h1 (fun h4 => by have h9 : H.size ≤ z := h4; omega))
  refine lv_istore (lv' := [(5, .int 1), (4, .int (nI i)), (3, .ref (b + 66)), (2, .ref (b + 61)), (1, .ref b), (0, .ref b0)]) hx hb dL_law_651 hl (by decide) rfl (fun ls hl => ?_)
  refine lv_aload_n hx hb dL_law_653 rfl (lv_at hl 3 rfl) ?_
  refine lv_aload_n hx hb dL_law_654 rfl (lv_at hl 5 rfl) ?_
  refine lv_iload hx hb dL_law_655 (lv_at hl 1 rfl) ?_
  refine lv_iconst (v := 1) hx hb dL_law_657 (by decide) ?_
  refine lv_iadd hx hb dL_law_658 ?_
  refine z_toi (y := nI (i + 1)) (nI_add i 1) ?_
  refine va_sld hx hb hX0 hb0 hbA hS (vp_in_nI (by omega) (by omega)) dL_law_659 ?_
  refine z_toi (y := x) (by rw [nI_clamp (by omega)]; exact h1) ?_
  refine z_mi (va_runV (As := [.int x]) (rest := []) hfix (zcX5_votes_b1 l D cI H1 (b + 61) tn n g me lo c bf e rd tk x hM1 hI hx9) (cwV 1 hts gL_law_X5_votes rfl rfl rfl (by decide +kernel) ⟨Nat.le_of_ble_eq_true rfl, Nat.le_of_ble_eq_true rfl⟩) (z_preV hK hKi hM1 (ci := 5) (q0 := 0) rfl rfl rfl) rfl rfl hl.1 rfl (lv_room (Nat.le_of_ble_eq_true rfl)) dL_law_660 ⟨by show cells + 1 + 0 ≤ 601024; omega, by show slots + 6 + 0 ≤ 7293033; omega⟩) hS (fun z _ h => by have h9 : zF (b + 61) (b + 61 + 5) z := h; have h8 := hS.1; show s.heap.size ≤ z; simp only [zF] at h9; omega) (fun z h => by have h9 : zF (b + 61) (b + 61 + 5) z := h; have h8 := hS.1; show s.heap.size ≤ z; simp only [zF] at h9; omega) (fun H2 lo2 hB hz2 hk2 hS => ?_)
  refine va_forget (fun q h => hS.2.2 q h) ?_
  have hS : va_S (fun q => s.heap.size ≤ q) s.heap H2 [] := ⟨hS.1, hS.2.1, fun z h => absurd h List.not_mem_nil⟩
  obtain ⟨hM2, hB9⟩ := hB
  have hC2 := zCW_kept hC1 (fun z h1 h2 h3 => hk2 z h1 (fun h4 => by have h9 : zF (b + 61) (b + 61 + 5) z := h4; simp only [zF] at h9; omega))
  have hO2 := zOb_kept hO1 (fun z h1 h2 h3 => hk2 z h1 (fun h4 => by have h9 : zF (b + 61) (b + 61 + 5) z := h4; simp only [zF] at h9; omega))
  refine lv_istore (lv' := [(6, .int 0), (5, .int 1), (4, .int (nI i)), (3, .ref (b + 66)), (2, .ref (b + 61)), (1, .ref b), (0, .ref b0)]) hx hb dL_law_663 hl (by decide) rfl (fun ls hl => ?_)
  refine lv_aload_n hx hb dL_law_665 rfl (lv_at hl 4 rfl) ?_
  refine z_ki (va_runV (As := []) (rest := []) hfix (zcX5_thrown l D cI H2 _ _ _ _ _ _ _ hM2) (cwV 0 hts gL_law_X5_thrown rfl rfl rfl (by decide +kernel) ⟨Nat.le_of_ble_eq_true rfl, Nat.le_of_ble_eq_true rfl⟩) (z_preV hK hKi hM2 (ci := 5) (q0 := 0) rfl rfl rfl) rfl rfl hl.1 rfl (lv_room (Nat.le_of_ble_eq_true rfl)) dL_law_666 ⟨by show cells + 1 + 0 + 0 ≤ 601024; omega, by show slots + 6 + 0 + 0 ≤ 7293033; omega⟩) ?_
  refine lv_iload hx hb dL_law_669 (lv_at hl 1 rfl) ?_
  refine lv_icmp_eq (tgt := 676) hx hb dL_law_671 (by decide) (fun c9 => ?_) (fun c9 => absurd rfl c9)
  refine lv_iload hx hb dL_law_676 (lv_at hl 1 rfl) ?_
  refine lv_if_ne (tgt := 693) hx hb dL_law_678 (by decide) (fun c9 => ?_) (fun c9 => absurd c9 (by decide))
  refine lv_goto (tgt := 1137) hx hb dL_law_693 (by decide) ?_
  refine W.widen (k := cells + 16) (n := slots + 214) (by omega) (by omega) ?_
  exact kk _ _ _ _ _ _ _ _ _ _ ⟨hC2, ⟨_, hO2⟩, ⟨_, _, hM2⟩, hI, hZ⟩ hS (lv_sub hl [2, 3, 4, 5, 6] rfl)
set_option maxHeartbeats 4000000 in
set_option maxRecDepth 100000 in
/-- zlv_left_ok -/
theorem zlv_left_ok {pg : Program} {l : Launch} {ev : Env} {s : State} {m : MethodId} {below : List Frame} {meth : Method} {cd : Code} {D : va_G} {cI cL cR : ClassId} {b0 L : Nat} {xs : Nat → Int32} {Q : State → Prop} {H : Heap} {b n : Nat} {me lo : Nat → Int32} {c e : Nat → Nat} {rd tk tn : Int32} {g : zG} {bf : Nat → Int32} {f : Nat → Int64} {i cells slots : Nat} {ls : Array Slot} (hfix : CallFix pg m cd cL_law 9 s #[.ref b0] wsL_law RL) (hK : va_K D vwCl [(cI, .int), (cL, .long), (cR, .array .int)] s) (hKw : zKw s) (hE : zE s.heap.size s) (hlt : l.stackTraces = false) (hX0 : va_X b0 L xs s s.heap) (hb0 : b0 < s.heap.size) (hbs : s.heap.size ≤ b) (hC : zCW D cI b n me lo c e rd tk g H) (hM : va_P D vwCl (zMo cI (b + 61) tn n (jf g me lo c) bf (zn e) (nm rd tk)) H) (hO : va_P D vwCl [(b + 66, .inl (cL, 1, .inr (.inl f)))] H) (hI : zI n me lo c e) (hZ : zJ n g) (hS : va_S (fun q => s.heap.size ≤ q) s.heap H []) (hi : i + 4 ≤ L) (hL : L ≤ 2048) (hcell : cells + 16 ≤ 601024) (hslot : slots + 214 ≤ 7293033) (hl : lv_has ls 9 [(4, .int (nI i)), (3, .ref (b + 66)), (2, .ref (b + 61)), (1, .ref b), (0, .ref b0)]) (kk : zLK pg l ev s m below meth cd D cI cL b0 Q b i cells slots) (w : Nat) (hw : w ≤ 9999) (h1 : xs (i + 1) = (nI w)) : W pg l ev room_1 s m #[Value.ref b0] below meth cd H [] cells slots Q (F0 m 709 ls []) := by
  obtain ⟨hx, hb, hml, hown, hts⟩ := id hfix
  have hbA : ¬ (fun q : Nat => s.heap.size ≤ q) b0 := Nat.not_le.mpr hb0
  have hKi : va_K D vwCl [(cI, .int)] s := hK.sub [0] rfl
  have hKl : va_K D vwCl [(cI, .int), (cL, .long)] s := hK.sub [0, 1] rfl
  have hKq : va_K D vwCl [(cI, .int), (cR, .array .int)] s := hK.sub [0, 2] rfl
  have hsz := hS.1
  refine lv_aload_n hx hb dL_law_709 rfl (lv_at hl 3 rfl) ?_
  refine lv_aload_n hx hb dL_law_710 rfl (lv_at hl 4 rfl) ?_
  refine lv_iload hx hb dL_law_711 (lv_at hl 0 rfl) ?_
  refine lv_iconst (v := 1) hx hb dL_law_713 (by decide) ?_
  refine lv_iadd hx hb dL_law_714 ?_
  refine z_toi (y := nI (i + 1)) (nI_add i 1) ?_
  refine va_sld hx hb hX0 hb0 hbA hS (vp_in_nI (by omega) (by omega)) dL_law_715 ?_
  refine z_toi (y := (nI w)) (by rw [nI_clamp (by omega)]; exact h1) ?_
  refine lv_aload_n hx hb dL_law_716 rfl (lv_at hl 1 rfl) ?_
  refine z_mi (vx_runSW (As := [.ref b, .int (nI w), .ref (b + 66)]) (rest := []) hfix (zcL_left_k l D cI cL H s.heap.size (b + 66) f b n me lo c e rd tk g w hC hI hw hO (by omega)) (vx_cwSW 3 hts gL_law_L_left rfl rfl rfl (by decide +kernel) ⟨Nat.le_of_ble_eq_true rfl, Nat.le_of_ble_eq_true rfl⟩) (z_xpreS hE (fun q h1 h2 => hS.2.1 q h1 h2) hKl) rfl rfl hl.1 rfl (lv_room (Nat.le_of_ble_eq_true rfl)) dL_law_717 ⟨by show cells + 0 ≤ 601024; omega, by show slots + 0 ≤ 7293033; omega⟩) hS (fun z _ h => by have h9 : zF b (b + 61) z ∨ @Eq Nat z (b + 66) := h; have h8 := hS.1; show s.heap.size ≤ z; simp only [zF] at h9; omega) (fun z h => by have h9 : zF b (b + 61) z ∨ @Eq Nat z (b + 66) := h; have h8 := hS.1; show s.heap.size ≤ z; simp only [zF] at h9; omega) (fun H1 lo1 hB hz1 hk1 hS => ?_)
  refine va_forget (fun q h => hS.2.2 q h) ?_
  have hS : va_S (fun q => s.heap.size ≤ q) s.heap H1 [] := ⟨hS.1, hS.2.1, fun z h => absurd h List.not_mem_nil⟩
  have hM1 := zMo_kept hM (fun z h1 h2 h3 => hk1 z h1 (fun h4 => by have h9 : zF b (b + 61) z ∨ @Eq Nat z (b + 66) := h4; simp only [zF] at h9; omega))
  have hC1 := hB.1
  have hO1 := hB.2.1
  refine lv_istore (lv' := [(5, .int 0), (4, .int (nI i)), (3, .ref (b + 66)), (2, .ref (b + 61)), (1, .ref b), (0, .ref b0)]) hx hb dL_law_720 hl (by decide) rfl (fun ls hl => ?_)
  refine lv_aload_n hx hb dL_law_722 rfl (lv_at hl 3 rfl) ?_
  refine lv_aload_n hx hb dL_law_723 rfl (lv_at hl 5 rfl) ?_
  refine lv_iload hx hb dL_law_724 (lv_at hl 1 rfl) ?_
  refine lv_iconst (v := 1) hx hb dL_law_726 (by decide) ?_
  refine lv_iadd hx hb dL_law_727 ?_
  refine z_toi (y := nI (i + 1)) (nI_add i 1) ?_
  refine va_sld hx hb hX0 hb0 hbA hS (vp_in_nI (by omega) (by omega)) dL_law_728 ?_
  refine z_toi (y := (nI w)) (by rw [nI_clamp (by omega)]; exact h1) ?_
  refine z_mi (va_runV (As := [.int (nI w)]) (rest := []) hfix (zcX5_left_k l D cI H1 (b + 61) tn n g me lo c bf e rd tk w hM1 hI hw) (cwV 1 hts gL_law_X5_left rfl rfl rfl (by decide +kernel) ⟨Nat.le_of_ble_eq_true rfl, Nat.le_of_ble_eq_true rfl⟩) (z_preV hK hKi hM1 (ci := 5) (q0 := 0) rfl rfl rfl) rfl rfl hl.1 rfl (lv_room (Nat.le_of_ble_eq_true rfl)) dL_law_729 ⟨by show cells + 0 + 0 ≤ 601024; omega, by show slots + 0 + 0 ≤ 7293033; omega⟩) hS (fun z _ h => by have h9 : zF (b + 61) (b + 61 + 5) z := h; have h8 := hS.1; show s.heap.size ≤ z; simp only [zF] at h9; omega) (fun z h => by have h9 : zF (b + 61) (b + 61 + 5) z := h; have h8 := hS.1; show s.heap.size ≤ z; simp only [zF] at h9; omega) (fun H2 lo2 hB hz2 hk2 hS => ?_)
  refine va_forget (fun q h => hS.2.2 q h) ?_
  have hS : va_S (fun q => s.heap.size ≤ q) s.heap H2 [] := ⟨hS.1, hS.2.1, fun z h => absurd h List.not_mem_nil⟩
  obtain ⟨hM2, hB9⟩ := hB
  have hC2 := zCW_kept hC1 (fun z h1 h2 h3 => hk2 z h1 (fun h4 => by have h9 : zF (b + 61) (b + 61 + 5) z := h4; simp only [zF] at h9; omega))
  have hO2 := zOb_kept hO1 (fun z h1 h2 h3 => hk2 z h1 (fun h4 => by have h9 : zF (b + 61) (b + 61 + 5) z := h4; simp only [zF] at h9; omega))
  refine lv_istore (lv' := [(6, .int (nI (lf g (nI w) n))), (5, .int 0), (4, .int (nI i)), (3, .ref (b + 66)), (2, .ref (b + 61)), (1, .ref b), (0, .ref b0)]) hx hb dL_law_732 hl (by decide) rfl (fun ls hl => ?_)
  refine lv_aload_n hx hb dL_law_734 rfl (lv_at hl 4 rfl) ?_
  refine z_ki (va_runV (As := []) (rest := []) hfix (zcX5_thrown l D cI H2 _ _ _ _ _ _ _ hM2) (cwV 0 hts gL_law_X5_thrown rfl rfl rfl (by decide +kernel) ⟨Nat.le_of_ble_eq_true rfl, Nat.le_of_ble_eq_true rfl⟩) (z_preV hK hKi hM2 (ci := 5) (q0 := 0) rfl rfl rfl) rfl rfl hl.1 rfl (lv_room (Nat.le_of_ble_eq_true rfl)) dL_law_735 ⟨by show cells + 0 + 0 + 0 ≤ 601024; omega, by show slots + 0 + 0 + 0 ≤ 7293033; omega⟩) ?_
  refine lv_iload hx hb dL_law_738 (lv_at hl 1 rfl) ?_
  refine lv_icmp_eq (tgt := 745) hx hb dL_law_740 (by decide) (fun c9 => ?_) (fun c9 => absurd rfl c9)
  refine lv_iload hx hb dL_law_745 (lv_at hl 1 rfl) ?_
  refine lv_if_ne (tgt := 762) hx hb dL_law_747 (by decide) (fun c9 => absurd rfl c9) (fun c9 => ?_)
  refine lv_aload_n hx hb dL_law_750 rfl (lv_at hl 3 rfl) ?_
  refine lv_iconst (v := 0) hx hb dL_law_751 (by decide) ?_
  refine va_lald hx hb hK hO2 0 1 rfl rfl (vp_in_nI (n := 0) (by decide) (by decide)) dL_law_752 ?_
  refine z_tol (y := ((nI (lf g (nI w) n))).toInt64) (by rfl) ?_
  refine lv_iload hx hb dL_law_753 (lv_at hl 0 rfl) ?_
  refine lv_i2l (v := ((nI (lf g (nI w) n))).toInt64) hx hb dL_law_755 rfl ?_
  refine W.lcmp hx hb dL_law_756 ?_
  refine z_toi (y := 0) ((lg_cmp_eq _ _).mpr rfl) ?_
  refine lv_if_eq (tgt := 762) hx hb dL_law_757 (by decide) (fun c9 => ?_) (fun c9 => absurd rfl c9)
  refine lv_goto (tgt := 1137) hx hb dL_law_762 (by decide) ?_
  refine W.widen (k := cells + 16) (n := slots + 214) (by omega) (by omega) ?_
  exact kk _ _ _ _ _ _ _ _ _ _ ⟨hC2, ⟨_, hO2⟩, ⟨_, _, hM2⟩, hI, hZ⟩ hS (lv_sub hl [2, 3, 4, 5, 6] rfl)
set_option maxHeartbeats 4000000 in
set_option maxRecDepth 100000 in
/-- zlv_left_b1 -/
theorem zlv_left_b1 {pg : Program} {l : Launch} {ev : Env} {s : State} {m : MethodId} {below : List Frame} {meth : Method} {cd : Code} {D : va_G} {cI cL cR : ClassId} {b0 L : Nat} {xs : Nat → Int32} {Q : State → Prop} {H : Heap} {b n : Nat} {me lo : Nat → Int32} {c e : Nat → Nat} {rd tk tn : Int32} {g : zG} {bf : Nat → Int32} {f : Nat → Int64} {i cells slots : Nat} {ls : Array Slot} (hfix : CallFix pg m cd cL_law 9 s #[.ref b0] wsL_law RL) (hK : va_K D vwCl [(cI, .int), (cL, .long), (cR, .array .int)] s) (hKw : zKw s) (hE : zE s.heap.size s) (hlt : l.stackTraces = false) (hX0 : va_X b0 L xs s s.heap) (hb0 : b0 < s.heap.size) (hbs : s.heap.size ≤ b) (hC : zCW D cI b n me lo c e rd tk g H) (hM : va_P D vwCl (zMo cI (b + 61) tn n (jf g me lo c) bf (zn e) (nm rd tk)) H) (hO : va_P D vwCl [(b + 66, .inl (cL, 1, .inr (.inl f)))] H) (hI : zI n me lo c e) (hZ : zJ n g) (hS : va_S (fun q => s.heap.size ≤ q) s.heap H []) (hi : i + 4 ≤ L) (hL : L ≤ 2048) (hcell : cells + 16 ≤ 601024) (hslot : slots + 214 ≤ 7293033) (hl : lv_has ls 9 [(4, .int (nI i)), (3, .ref (b + 66)), (2, .ref (b + 61)), (1, .ref b), (0, .ref b0)]) (kk : zLK pg l ev s m below meth cd D cI cL b0 Q b i cells slots) (x : Int32) (hx9 : x < 0 ∨ ¬ x ≤ 9999) (h1 : xs (i + 1) = x) : W pg l ev room_1 s m #[Value.ref b0] below meth cd H [] cells slots Q (F0 m 709 ls []) := by
  obtain ⟨hx, hb, hml, hown, hts⟩ := id hfix
  have hbA : ¬ (fun q : Nat => s.heap.size ≤ q) b0 := Nat.not_le.mpr hb0
  have hKi : va_K D vwCl [(cI, .int)] s := hK.sub [0] rfl
  have hKl : va_K D vwCl [(cI, .int), (cL, .long)] s := hK.sub [0, 1] rfl
  have hKq : va_K D vwCl [(cI, .int), (cR, .array .int)] s := hK.sub [0, 2] rfl
  have hsz := hS.1
  refine lv_aload_n hx hb dL_law_709 rfl (lv_at hl 3 rfl) ?_
  refine lv_aload_n hx hb dL_law_710 rfl (lv_at hl 4 rfl) ?_
  refine lv_iload hx hb dL_law_711 (lv_at hl 0 rfl) ?_
  refine lv_iconst (v := 1) hx hb dL_law_713 (by decide) ?_
  refine lv_iadd hx hb dL_law_714 ?_
  refine z_toi (y := nI (i + 1)) (nI_add i 1) ?_
  refine va_sld hx hb hX0 hb0 hbA hS (vp_in_nI (by omega) (by omega)) dL_law_715 ?_
  refine z_toi (y := x) (by rw [nI_clamp (by omega)]; exact h1) ?_
  refine lv_aload_n hx hb dL_law_716 rfl (lv_at hl 1 rfl) ?_
  refine z_mi (vx_runSW (As := [.ref b, .int x, .ref (b + 66)]) (rest := []) hfix (zcL_left_b1 l D cI cL H s.heap.size (b + 66) hlt hS.1 b n me lo c e rd tk g x hC hI hx9) (vx_cwSW 3 hts gL_law_L_left rfl rfl rfl (by decide +kernel) ⟨Nat.le_of_ble_eq_true rfl, Nat.le_of_ble_eq_true rfl⟩) (z_xpreS hE (fun q h1 h2 => hS.2.1 q h1 h2) hKl) rfl rfl hl.1 rfl (lv_room (Nat.le_of_ble_eq_true rfl)) dL_law_717 ⟨by show cells + 1 ≤ 601024; omega, by show slots + 6 ≤ 7293033; omega⟩) hS (fun z _ h => by have h9 : H.size ≤ z := h; have h8 := hS.1; show s.heap.size ≤ z; omega) (fun z h => by have h9 : H.size ≤ z := h; have h8 := hS.1; show s.heap.size ≤ z; omega) (fun H1 lo1 hB hz1 hk1 hS => ?_)
  refine va_forget (fun q h => hS.2.2 q h) ?_
  have hS : va_S (fun q => s.heap.size ≤ q) s.heap H1 [] := ⟨hS.1, hS.2.1, fun z h => absurd h List.not_mem_nil⟩
  have hM1 := zMo_kept hM (fun z h1 h2 h3 => hk1 z h1 (fun h4 => by have h9 : H.size ≤ z := h4; omega))
  have hC1 := zCW_kept hC (fun z h1 h2 h3 => hk1 z h1 (fun h4 => by have h9 : H.size ≤ z := h4; omega))
  have hO1 := zOb_kept hO (fun z h1 h2 h3 => hk1 z h1 (fun h4 => by have h9 : H.size ≤ z := h4; omega))
  refine lv_istore (lv' := [(5, .int 1), (4, .int (nI i)), (3, .ref (b + 66)), (2, .ref (b + 61)), (1, .ref b), (0, .ref b0)]) hx hb dL_law_720 hl (by decide) rfl (fun ls hl => ?_)
  refine lv_aload_n hx hb dL_law_722 rfl (lv_at hl 3 rfl) ?_
  refine lv_aload_n hx hb dL_law_723 rfl (lv_at hl 5 rfl) ?_
  refine lv_iload hx hb dL_law_724 (lv_at hl 1 rfl) ?_
  refine lv_iconst (v := 1) hx hb dL_law_726 (by decide) ?_
  refine lv_iadd hx hb dL_law_727 ?_
  refine z_toi (y := nI (i + 1)) (nI_add i 1) ?_
  refine va_sld hx hb hX0 hb0 hbA hS (vp_in_nI (by omega) (by omega)) dL_law_728 ?_
  refine z_toi (y := x) (by rw [nI_clamp (by omega)]; exact h1) ?_
  refine z_mi (va_runV (As := [.int x]) (rest := []) hfix (zcX5_left_b1 l D cI H1 (b + 61) tn n g me lo c bf e rd tk x hM1 hI hx9) (cwV 1 hts gL_law_X5_left rfl rfl rfl (by decide +kernel) ⟨Nat.le_of_ble_eq_true rfl, Nat.le_of_ble_eq_true rfl⟩) (z_preV hK hKi hM1 (ci := 5) (q0 := 0) rfl rfl rfl) rfl rfl hl.1 rfl (lv_room (Nat.le_of_ble_eq_true rfl)) dL_law_729 ⟨by show cells + 1 + 0 ≤ 601024; omega, by show slots + 6 + 0 ≤ 7293033; omega⟩) hS (fun z _ h => by have h9 : zF (b + 61) (b + 61 + 5) z := h; have h8 := hS.1; show s.heap.size ≤ z; simp only [zF] at h9; omega) (fun z h => by have h9 : zF (b + 61) (b + 61 + 5) z := h; have h8 := hS.1; show s.heap.size ≤ z; simp only [zF] at h9; omega) (fun H2 lo2 hB hz2 hk2 hS => ?_)
  refine va_forget (fun q h => hS.2.2 q h) ?_
  have hS : va_S (fun q => s.heap.size ≤ q) s.heap H2 [] := ⟨hS.1, hS.2.1, fun z h => absurd h List.not_mem_nil⟩
  obtain ⟨hM2, hB9⟩ := hB
  have hC2 := zCW_kept hC1 (fun z h1 h2 h3 => hk2 z h1 (fun h4 => by have h9 : zF (b + 61) (b + 61 + 5) z := h4; simp only [zF] at h9; omega))
  have hO2 := zOb_kept hO1 (fun z h1 h2 h3 => hk2 z h1 (fun h4 => by have h9 : zF (b + 61) (b + 61 + 5) z := h4; simp only [zF] at h9; omega))
  refine lv_istore (lv' := [(6, .int 0), (5, .int 1), (4, .int (nI i)), (3, .ref (b + 66)), (2, .ref (b + 61)), (1, .ref b), (0, .ref b0)]) hx hb dL_law_732 hl (by decide) rfl (fun ls hl => ?_)
  refine lv_aload_n hx hb dL_law_734 rfl (lv_at hl 4 rfl) ?_
  refine z_ki (va_runV (As := []) (rest := []) hfix (zcX5_thrown l D cI H2 _ _ _ _ _ _ _ hM2) (cwV 0 hts gL_law_X5_thrown rfl rfl rfl (by decide +kernel) ⟨Nat.le_of_ble_eq_true rfl, Nat.le_of_ble_eq_true rfl⟩) (z_preV hK hKi hM2 (ci := 5) (q0 := 0) rfl rfl rfl) rfl rfl hl.1 rfl (lv_room (Nat.le_of_ble_eq_true rfl)) dL_law_735 ⟨by show cells + 1 + 0 + 0 ≤ 601024; omega, by show slots + 6 + 0 + 0 ≤ 7293033; omega⟩) ?_
  refine lv_iload hx hb dL_law_738 (lv_at hl 1 rfl) ?_
  refine lv_icmp_eq (tgt := 745) hx hb dL_law_740 (by decide) (fun c9 => ?_) (fun c9 => absurd rfl c9)
  refine lv_iload hx hb dL_law_745 (lv_at hl 1 rfl) ?_
  refine lv_if_ne (tgt := 762) hx hb dL_law_747 (by decide) (fun c9 => ?_) (fun c9 => absurd c9 (by decide))
  refine lv_goto (tgt := 1137) hx hb dL_law_762 (by decide) ?_
  refine W.widen (k := cells + 16) (n := slots + 214) (by omega) (by omega) ?_
  exact kk _ _ _ _ _ _ _ _ _ _ ⟨hC2, ⟨_, hO2⟩, ⟨_, _, hM2⟩, hI, hZ⟩ hS (lv_sub hl [2, 3, 4, 5, 6] rfl)
set_option maxHeartbeats 4000000 in
set_option maxRecDepth 100000 in
/-- zlv_count_ok -/
theorem zlv_count_ok {pg : Program} {l : Launch} {ev : Env} {s : State} {m : MethodId} {below : List Frame} {meth : Method} {cd : Code} {D : va_G} {cI cL cR : ClassId} {b0 L : Nat} {xs : Nat → Int32} {Q : State → Prop} {H : Heap} {b n : Nat} {me lo : Nat → Int32} {c e : Nat → Nat} {rd tk tn : Int32} {g : zG} {bf : Nat → Int32} {f : Nat → Int64} {i cells slots : Nat} {ls : Array Slot} (hfix : CallFix pg m cd cL_law 9 s #[.ref b0] wsL_law RL) (hK : va_K D vwCl [(cI, .int), (cL, .long), (cR, .array .int)] s) (hKw : zKw s) (hE : zE s.heap.size s) (hlt : l.stackTraces = false) (hX0 : va_X b0 L xs s s.heap) (hb0 : b0 < s.heap.size) (hbs : s.heap.size ≤ b) (hC : zCW D cI b n me lo c e rd tk g H) (hM : va_P D vwCl (zMo cI (b + 61) tn n (jf g me lo c) bf (zn e) (nm rd tk)) H) (hO : va_P D vwCl [(b + 66, .inl (cL, 1, .inr (.inl f)))] H) (hI : zI n me lo c e) (hZ : zJ n g) (hS : va_S (fun q => s.heap.size ≤ q) s.heap H []) (hi : i + 4 ≤ L) (hL : L ≤ 2048) (hcell : cells + 16 ≤ 601024) (hslot : slots + 214 ≤ 7293033) (hl : lv_has ls 9 [(4, .int (nI i)), (3, .ref (b + 66)), (2, .ref (b + 61)), (1, .ref b), (0, .ref b0)]) (kk : zLK pg l ev s m below meth cd D cI cL b0 Q b i cells slots) (q : Nat) (hq : q ≤ 5) (h1 : xs (i + 1) = (nI q)) : W pg l ev room_1 s m #[Value.ref b0] below meth cd H [] cells slots Q (F0 m 765 ls []) := by
  obtain ⟨hx, hb, hml, hown, hts⟩ := id hfix
  have hbA : ¬ (fun q : Nat => s.heap.size ≤ q) b0 := Nat.not_le.mpr hb0
  have hKi : va_K D vwCl [(cI, .int)] s := hK.sub [0] rfl
  have hKl : va_K D vwCl [(cI, .int), (cL, .long)] s := hK.sub [0, 1] rfl
  have hKq : va_K D vwCl [(cI, .int), (cR, .array .int)] s := hK.sub [0, 2] rfl
  have hsz := hS.1
  refine lv_aload_n hx hb dL_law_765 rfl (lv_at hl 3 rfl) ?_
  refine lv_aload_n hx hb dL_law_766 rfl (lv_at hl 4 rfl) ?_
  refine lv_iload hx hb dL_law_767 (lv_at hl 0 rfl) ?_
  refine lv_iconst (v := 1) hx hb dL_law_769 (by decide) ?_
  refine lv_iadd hx hb dL_law_770 ?_
  refine z_toi (y := nI (i + 1)) (nI_add i 1) ?_
  refine va_sld hx hb hX0 hb0 hbA hS (vp_in_nI (by omega) (by omega)) dL_law_771 ?_
  refine z_toi (y := (nI q)) (by rw [nI_clamp (by omega)]; exact h1) ?_
  refine lv_aload_n hx hb dL_law_772 rfl (lv_at hl 1 rfl) ?_
  refine z_mi (vx_runSW (As := [.ref b, .int (nI q), .ref (b + 66)]) (rest := []) hfix (zcL_count_k l D cI cL H s.heap.size (b + 66) f b n me lo c e rd tk g q hC hI hq hO (by omega)) (vx_cwSW 3 hts gL_law_L_count rfl rfl rfl (by decide +kernel) ⟨Nat.le_of_ble_eq_true rfl, Nat.le_of_ble_eq_true rfl⟩) (z_xpreS hE (fun q h1 h2 => hS.2.1 q h1 h2) hKl) rfl rfl hl.1 rfl (lv_room (Nat.le_of_ble_eq_true rfl)) dL_law_773 ⟨by show cells + 0 ≤ 601024; omega, by show slots + 0 ≤ 7293033; omega⟩) hS (fun z _ h => by have h9 : zF b (b + 61) z ∨ @Eq Nat z (b + 66) := h; have h8 := hS.1; show s.heap.size ≤ z; simp only [zF] at h9; omega) (fun z h => by have h9 : zF b (b + 61) z ∨ @Eq Nat z (b + 66) := h; have h8 := hS.1; show s.heap.size ≤ z; simp only [zF] at h9; omega) (fun H1 lo1 hB hz1 hk1 hS => ?_)
  refine va_forget (fun q h => hS.2.2 q h) ?_
  have hS : va_S (fun q => s.heap.size ≤ q) s.heap H1 [] := ⟨hS.1, hS.2.1, fun z h => absurd h List.not_mem_nil⟩
  have hM1 := zMo_kept hM (fun z h1 h2 h3 => hk1 z h1 (fun h4 => by have h9 : zF b (b + 61) z ∨ @Eq Nat z (b + 66) := h4; simp only [zF] at h9; omega))
  have hC1 := hB.1
  have hO1 := hB.2.1
  refine lv_istore (lv' := [(5, .int 0), (4, .int (nI i)), (3, .ref (b + 66)), (2, .ref (b + 61)), (1, .ref b), (0, .ref b0)]) hx hb dL_law_776 hl (by decide) rfl (fun ls hl => ?_)
  refine lv_aload_n hx hb dL_law_778 rfl (lv_at hl 3 rfl) ?_
  refine lv_aload_n hx hb dL_law_779 rfl (lv_at hl 5 rfl) ?_
  refine lv_iload hx hb dL_law_780 (lv_at hl 1 rfl) ?_
  refine lv_iconst (v := 1) hx hb dL_law_782 (by decide) ?_
  refine lv_iadd hx hb dL_law_783 ?_
  refine z_toi (y := nI (i + 1)) (nI_add i 1) ?_
  refine va_sld hx hb hX0 hb0 hbA hS (vp_in_nI (by omega) (by omega)) dL_law_784 ?_
  refine z_toi (y := (nI q)) (by rw [nI_clamp (by omega)]; exact h1) ?_
  refine z_mi (va_runV (As := [.int (nI q)]) (rest := []) hfix (zcX5_count_k l D cI H1 (b + 61) tn n g me lo c bf e rd tk q hM1 hI hq) (cwV 1 hts gL_law_X5_count rfl rfl rfl (by decide +kernel) ⟨Nat.le_of_ble_eq_true rfl, Nat.le_of_ble_eq_true rfl⟩) (z_preV hK hKi hM1 (ci := 5) (q0 := 0) rfl rfl rfl) rfl rfl hl.1 rfl (lv_room (Nat.le_of_ble_eq_true rfl)) dL_law_785 ⟨by show cells + 0 + 0 ≤ 601024; omega, by show slots + 0 + 0 ≤ 7293033; omega⟩) hS (fun z _ h => by have h9 : zF (b + 61) (b + 61 + 5) z := h; have h8 := hS.1; show s.heap.size ≤ z; simp only [zF] at h9; omega) (fun z h => by have h9 : zF (b + 61) (b + 61 + 5) z := h; have h8 := hS.1; show s.heap.size ≤ z; simp only [zF] at h9; omega) (fun H2 lo2 hB hz2 hk2 hS => ?_)
  refine va_forget (fun q h => hS.2.2 q h) ?_
  have hS : va_S (fun q => s.heap.size ≤ q) s.heap H2 [] := ⟨hS.1, hS.2.1, fun z h => absurd h List.not_mem_nil⟩
  obtain ⟨hM2, hB9⟩ := hB
  have hC2 := zCW_kept hC1 (fun z h1 h2 h3 => hk2 z h1 (fun h4 => by have h9 : zF (b + 61) (b + 61 + 5) z := h4; simp only [zF] at h9; omega))
  have hO2 := zOb_kept hO1 (fun z h1 h2 h3 => hk2 z h1 (fun h4 => by have h9 : zF (b + 61) (b + 61 + 5) z := h4; simp only [zF] at h9; omega))
  refine lv_istore (lv' := [(6, .int (tj n (rd, tk, g) q)), (5, .int 0), (4, .int (nI i)), (3, .ref (b + 66)), (2, .ref (b + 61)), (1, .ref b), (0, .ref b0)]) hx hb dL_law_788 hl (by decide) rfl (fun ls hl => ?_)
  refine lv_aload_n hx hb dL_law_790 rfl (lv_at hl 4 rfl) ?_
  refine z_ki (va_runV (As := []) (rest := []) hfix (zcX5_thrown l D cI H2 _ _ _ _ _ _ _ hM2) (cwV 0 hts gL_law_X5_thrown rfl rfl rfl (by decide +kernel) ⟨Nat.le_of_ble_eq_true rfl, Nat.le_of_ble_eq_true rfl⟩) (z_preV hK hKi hM2 (ci := 5) (q0 := 0) rfl rfl rfl) rfl rfl hl.1 rfl (lv_room (Nat.le_of_ble_eq_true rfl)) dL_law_791 ⟨by show cells + 0 + 0 + 0 ≤ 601024; omega, by show slots + 0 + 0 + 0 ≤ 7293033; omega⟩) ?_
  refine lv_iload hx hb dL_law_794 (lv_at hl 1 rfl) ?_
  refine lv_icmp_eq (tgt := 801) hx hb dL_law_796 (by decide) (fun c9 => ?_) (fun c9 => absurd rfl c9)
  refine lv_iload hx hb dL_law_801 (lv_at hl 1 rfl) ?_
  refine lv_if_ne (tgt := 818) hx hb dL_law_803 (by decide) (fun c9 => absurd rfl c9) (fun c9 => ?_)
  refine lv_aload_n hx hb dL_law_806 rfl (lv_at hl 3 rfl) ?_
  refine lv_iconst (v := 0) hx hb dL_law_807 (by decide) ?_
  refine va_lald hx hb hK hO2 0 1 rfl rfl (vp_in_nI (n := 0) (by decide) (by decide)) dL_law_808 ?_
  refine z_tol (y := ((tj n (rd, tk, g) q)).toInt64) (by rfl) ?_
  refine lv_iload hx hb dL_law_809 (lv_at hl 0 rfl) ?_
  refine lv_i2l (v := ((tj n (rd, tk, g) q)).toInt64) hx hb dL_law_811 rfl ?_
  refine W.lcmp hx hb dL_law_812 ?_
  refine z_toi (y := 0) ((lg_cmp_eq _ _).mpr rfl) ?_
  refine lv_if_eq (tgt := 818) hx hb dL_law_813 (by decide) (fun c9 => ?_) (fun c9 => absurd rfl c9)
  refine lv_goto (tgt := 1137) hx hb dL_law_818 (by decide) ?_
  refine W.widen (k := cells + 16) (n := slots + 214) (by omega) (by omega) ?_
  exact kk _ _ _ _ _ _ _ _ _ _ ⟨hC2, ⟨_, hO2⟩, ⟨_, _, hM2⟩, hI, hZ⟩ hS (lv_sub hl [2, 3, 4, 5, 6] rfl)
set_option maxHeartbeats 4000000 in
set_option maxRecDepth 100000 in
/-- zlv_count_b1 -/
theorem zlv_count_b1 {pg : Program} {l : Launch} {ev : Env} {s : State} {m : MethodId} {below : List Frame} {meth : Method} {cd : Code} {D : va_G} {cI cL cR : ClassId} {b0 L : Nat} {xs : Nat → Int32} {Q : State → Prop} {H : Heap} {b n : Nat} {me lo : Nat → Int32} {c e : Nat → Nat} {rd tk tn : Int32} {g : zG} {bf : Nat → Int32} {f : Nat → Int64} {i cells slots : Nat} {ls : Array Slot} (hfix : CallFix pg m cd cL_law 9 s #[.ref b0] wsL_law RL) (hK : va_K D vwCl [(cI, .int), (cL, .long), (cR, .array .int)] s) (hKw : zKw s) (hE : zE s.heap.size s) (hlt : l.stackTraces = false) (hX0 : va_X b0 L xs s s.heap) (hb0 : b0 < s.heap.size) (hbs : s.heap.size ≤ b) (hC : zCW D cI b n me lo c e rd tk g H) (hM : va_P D vwCl (zMo cI (b + 61) tn n (jf g me lo c) bf (zn e) (nm rd tk)) H) (hO : va_P D vwCl [(b + 66, .inl (cL, 1, .inr (.inl f)))] H) (hI : zI n me lo c e) (hZ : zJ n g) (hS : va_S (fun q => s.heap.size ≤ q) s.heap H []) (hi : i + 4 ≤ L) (hL : L ≤ 2048) (hcell : cells + 16 ≤ 601024) (hslot : slots + 214 ≤ 7293033) (hl : lv_has ls 9 [(4, .int (nI i)), (3, .ref (b + 66)), (2, .ref (b + 61)), (1, .ref b), (0, .ref b0)]) (kk : zLK pg l ev s m below meth cd D cI cL b0 Q b i cells slots) (x : Int32) (hx9 : x < 0 ∨ ¬ x ≤ 5) (h1 : xs (i + 1) = x) : W pg l ev room_1 s m #[Value.ref b0] below meth cd H [] cells slots Q (F0 m 765 ls []) := by
  obtain ⟨hx, hb, hml, hown, hts⟩ := id hfix
  have hbA : ¬ (fun q : Nat => s.heap.size ≤ q) b0 := Nat.not_le.mpr hb0
  have hKi : va_K D vwCl [(cI, .int)] s := hK.sub [0] rfl
  have hKl : va_K D vwCl [(cI, .int), (cL, .long)] s := hK.sub [0, 1] rfl
  have hKq : va_K D vwCl [(cI, .int), (cR, .array .int)] s := hK.sub [0, 2] rfl
  have hsz := hS.1
  refine lv_aload_n hx hb dL_law_765 rfl (lv_at hl 3 rfl) ?_
  refine lv_aload_n hx hb dL_law_766 rfl (lv_at hl 4 rfl) ?_
  refine lv_iload hx hb dL_law_767 (lv_at hl 0 rfl) ?_
  refine lv_iconst (v := 1) hx hb dL_law_769 (by decide) ?_
  refine lv_iadd hx hb dL_law_770 ?_
  refine z_toi (y := nI (i + 1)) (nI_add i 1) ?_
  refine va_sld hx hb hX0 hb0 hbA hS (vp_in_nI (by omega) (by omega)) dL_law_771 ?_
  refine z_toi (y := x) (by rw [nI_clamp (by omega)]; exact h1) ?_
  refine lv_aload_n hx hb dL_law_772 rfl (lv_at hl 1 rfl) ?_
  refine z_mi (vx_runSW (As := [.ref b, .int x, .ref (b + 66)]) (rest := []) hfix (zcL_count_b1 l D cI cL H s.heap.size (b + 66) hlt hS.1 b n me lo c e rd tk g x hC hI hx9) (vx_cwSW 3 hts gL_law_L_count rfl rfl rfl (by decide +kernel) ⟨Nat.le_of_ble_eq_true rfl, Nat.le_of_ble_eq_true rfl⟩) (z_xpreS hE (fun q h1 h2 => hS.2.1 q h1 h2) hKl) rfl rfl hl.1 rfl (lv_room (Nat.le_of_ble_eq_true rfl)) dL_law_773 ⟨by show cells + 1 ≤ 601024; omega, by show slots + 6 ≤ 7293033; omega⟩) hS (fun z _ h => by have h9 : H.size ≤ z := h; have h8 := hS.1; show s.heap.size ≤ z; omega) (fun z h => by have h9 : H.size ≤ z := h; have h8 := hS.1; show s.heap.size ≤ z; omega) (fun H1 lo1 hB hz1 hk1 hS => ?_)
  refine va_forget (fun q h => hS.2.2 q h) ?_
  have hS : va_S (fun q => s.heap.size ≤ q) s.heap H1 [] := ⟨hS.1, hS.2.1, fun z h => absurd h List.not_mem_nil⟩
  have hM1 := zMo_kept hM (fun z h1 h2 h3 => hk1 z h1 (fun h4 => by have h9 : H.size ≤ z := h4; omega))
  have hC1 := zCW_kept hC (fun z h1 h2 h3 => hk1 z h1 (fun h4 => by have h9 : H.size ≤ z := h4; omega))
  have hO1 := zOb_kept hO (fun z h1 h2 h3 => hk1 z h1 (fun h4 => by have h9 : H.size ≤ z := h4; omega))
  refine lv_istore (lv' := [(5, .int 1), (4, .int (nI i)), (3, .ref (b + 66)), (2, .ref (b + 61)), (1, .ref b), (0, .ref b0)]) hx hb dL_law_776 hl (by decide) rfl (fun ls hl => ?_)
  refine lv_aload_n hx hb dL_law_778 rfl (lv_at hl 3 rfl) ?_
  refine lv_aload_n hx hb dL_law_779 rfl (lv_at hl 5 rfl) ?_
  refine lv_iload hx hb dL_law_780 (lv_at hl 1 rfl) ?_
  refine lv_iconst (v := 1) hx hb dL_law_782 (by decide) ?_
  refine lv_iadd hx hb dL_law_783 ?_
  refine z_toi (y := nI (i + 1)) (nI_add i 1) ?_
  refine va_sld hx hb hX0 hb0 hbA hS (vp_in_nI (by omega) (by omega)) dL_law_784 ?_
  refine z_toi (y := x) (by rw [nI_clamp (by omega)]; exact h1) ?_
  refine z_mi (va_runV (As := [.int x]) (rest := []) hfix (zcX5_count_b1 l D cI H1 (b + 61) tn n g me lo c bf e rd tk x hM1 hI hx9) (cwV 1 hts gL_law_X5_count rfl rfl rfl (by decide +kernel) ⟨Nat.le_of_ble_eq_true rfl, Nat.le_of_ble_eq_true rfl⟩) (z_preV hK hKi hM1 (ci := 5) (q0 := 0) rfl rfl rfl) rfl rfl hl.1 rfl (lv_room (Nat.le_of_ble_eq_true rfl)) dL_law_785 ⟨by show cells + 1 + 0 ≤ 601024; omega, by show slots + 6 + 0 ≤ 7293033; omega⟩) hS (fun z _ h => by have h9 : zF (b + 61) (b + 61 + 5) z := h; have h8 := hS.1; show s.heap.size ≤ z; simp only [zF] at h9; omega) (fun z h => by have h9 : zF (b + 61) (b + 61 + 5) z := h; have h8 := hS.1; show s.heap.size ≤ z; simp only [zF] at h9; omega) (fun H2 lo2 hB hz2 hk2 hS => ?_)
  refine va_forget (fun q h => hS.2.2 q h) ?_
  have hS : va_S (fun q => s.heap.size ≤ q) s.heap H2 [] := ⟨hS.1, hS.2.1, fun z h => absurd h List.not_mem_nil⟩
  obtain ⟨hM2, hB9⟩ := hB
  have hC2 := zCW_kept hC1 (fun z h1 h2 h3 => hk2 z h1 (fun h4 => by have h9 : zF (b + 61) (b + 61 + 5) z := h4; simp only [zF] at h9; omega))
  have hO2 := zOb_kept hO1 (fun z h1 h2 h3 => hk2 z h1 (fun h4 => by have h9 : zF (b + 61) (b + 61 + 5) z := h4; simp only [zF] at h9; omega))
  refine lv_istore (lv' := [(6, .int 0), (5, .int 1), (4, .int (nI i)), (3, .ref (b + 66)), (2, .ref (b + 61)), (1, .ref b), (0, .ref b0)]) hx hb dL_law_788 hl (by decide) rfl (fun ls hl => ?_)
  refine lv_aload_n hx hb dL_law_790 rfl (lv_at hl 4 rfl) ?_
  refine z_ki (va_runV (As := []) (rest := []) hfix (zcX5_thrown l D cI H2 _ _ _ _ _ _ _ hM2) (cwV 0 hts gL_law_X5_thrown rfl rfl rfl (by decide +kernel) ⟨Nat.le_of_ble_eq_true rfl, Nat.le_of_ble_eq_true rfl⟩) (z_preV hK hKi hM2 (ci := 5) (q0 := 0) rfl rfl rfl) rfl rfl hl.1 rfl (lv_room (Nat.le_of_ble_eq_true rfl)) dL_law_791 ⟨by show cells + 1 + 0 + 0 ≤ 601024; omega, by show slots + 6 + 0 + 0 ≤ 7293033; omega⟩) ?_
  refine lv_iload hx hb dL_law_794 (lv_at hl 1 rfl) ?_
  refine lv_icmp_eq (tgt := 801) hx hb dL_law_796 (by decide) (fun c9 => ?_) (fun c9 => absurd rfl c9)
  refine lv_iload hx hb dL_law_801 (lv_at hl 1 rfl) ?_
  refine lv_if_ne (tgt := 818) hx hb dL_law_803 (by decide) (fun c9 => ?_) (fun c9 => absurd c9 (by decide))
  refine lv_goto (tgt := 1137) hx hb dL_law_818 (by decide) ?_
  refine W.widen (k := cells + 16) (n := slots + 214) (by omega) (by omega) ?_
  exact kk _ _ _ _ _ _ _ _ _ _ ⟨hC2, ⟨_, hO2⟩, ⟨_, _, hM2⟩, hI, hZ⟩ hS (lv_sub hl [2, 3, 4, 5, 6] rfl)
set_option maxHeartbeats 4000000 in
set_option maxRecDepth 100000 in
/-- zlv_pass_ok -/
theorem zlv_pass_ok {pg : Program} {l : Launch} {ev : Env} {s : State} {m : MethodId} {below : List Frame} {meth : Method} {cd : Code} {D : va_G} {cI cL cR : ClassId} {b0 L : Nat} {xs : Nat → Int32} {Q : State → Prop} {H : Heap} {b n : Nat} {me lo : Nat → Int32} {c e : Nat → Nat} {rd tk tn : Int32} {g : zG} {bf : Nat → Int32} {f : Nat → Int64} {i cells slots : Nat} {ls : Array Slot} (hfix : CallFix pg m cd cL_law 9 s #[.ref b0] wsL_law RL) (hK : va_K D vwCl [(cI, .int), (cL, .long), (cR, .array .int)] s) (hKw : zKw s) (hE : zE s.heap.size s) (hlt : l.stackTraces = false) (hX0 : va_X b0 L xs s s.heap) (hb0 : b0 < s.heap.size) (hbs : s.heap.size ≤ b) (hC : zCW D cI b n me lo c e rd tk g H) (hM : va_P D vwCl (zMo cI (b + 61) tn n (jf g me lo c) bf (zn e) (nm rd tk)) H) (hO : va_P D vwCl [(b + 66, .inl (cL, 1, .inr (.inl f)))] H) (hI : zI n me lo c e) (hZ : zJ n g) (hS : va_S (fun q => s.heap.size ≤ q) s.heap H []) (hi : i + 4 ≤ L) (hL : L ≤ 2048) (hcell : cells + 16 ≤ 601024) (hslot : slots + 214 ≤ 7293033) (hl : lv_has ls 9 [(4, .int (nI i)), (3, .ref (b + 66)), (2, .ref (b + 61)), (1, .ref b), (0, .ref b0)]) (kk : zLK pg l ev s m below meth cd D cI cL b0 Q b i cells slots) (r : Nat) (hr1 : 1 ≤ r) (hr2 : r ≤ 200) (h1 : xs (i + 1) = (nI r)) : W pg l ev room_1 s m #[Value.ref b0] below meth cd H [] cells slots Q (F0 m 821 ls []) := by
  obtain ⟨hx, hb, hml, hown, hts⟩ := id hfix
  have hbA : ¬ (fun q : Nat => s.heap.size ≤ q) b0 := Nat.not_le.mpr hb0
  have hKi : va_K D vwCl [(cI, .int)] s := hK.sub [0] rfl
  have hKl : va_K D vwCl [(cI, .int), (cL, .long)] s := hK.sub [0, 1] rfl
  have hKq : va_K D vwCl [(cI, .int), (cR, .array .int)] s := hK.sub [0, 2] rfl
  have hsz := hS.1
  refine lv_aload_n hx hb dL_law_821 rfl (lv_at hl 3 rfl) ?_
  refine lv_aload_n hx hb dL_law_822 rfl (lv_at hl 4 rfl) ?_
  refine lv_iload hx hb dL_law_823 (lv_at hl 0 rfl) ?_
  refine lv_iconst (v := 1) hx hb dL_law_825 (by decide) ?_
  refine lv_iadd hx hb dL_law_826 ?_
  refine z_toi (y := nI (i + 1)) (nI_add i 1) ?_
  refine va_sld hx hb hX0 hb0 hbA hS (vp_in_nI (by omega) (by omega)) dL_law_827 ?_
  refine z_toi (y := (nI r)) (by rw [nI_clamp (by omega)]; exact h1) ?_
  refine lv_aload_n hx hb dL_law_828 rfl (lv_at hl 1 rfl) ?_
  refine z_mi (vx_runSW (As := [.ref b, .int (nI r), .ref (b + 66)]) (rest := []) hfix (zcL_pass_k l D cI cL H s.heap.size (b + 66) f b n me lo c e rd tk g r hC hI hr1 hr2 hO (by omega)) (vx_cwSW 3 hts gL_law_L_pass rfl rfl rfl (by decide +kernel) ⟨Nat.le_of_ble_eq_true rfl, Nat.le_of_ble_eq_true rfl⟩) (z_xpreS hE (fun q h1 h2 => hS.2.1 q h1 h2) hKl) rfl rfl hl.1 rfl (lv_room (Nat.le_of_ble_eq_true rfl)) dL_law_829 ⟨by show cells + 0 ≤ 601024; omega, by show slots + 0 ≤ 7293033; omega⟩) hS (fun z _ h => by have h9 : zF b (b + 61) z ∨ @Eq Nat z (b + 66) := h; have h8 := hS.1; show s.heap.size ≤ z; simp only [zF] at h9; omega) (fun z h => by have h9 : zF b (b + 61) z ∨ @Eq Nat z (b + 66) := h; have h8 := hS.1; show s.heap.size ≤ z; simp only [zF] at h9; omega) (fun H1 lo1 hB hz1 hk1 hS => ?_)
  refine va_forget (fun q h => hS.2.2 q h) ?_
  have hS : va_S (fun q => s.heap.size ≤ q) s.heap H1 [] := ⟨hS.1, hS.2.1, fun z h => absurd h List.not_mem_nil⟩
  have hM1 := zMo_kept hM (fun z h1 h2 h3 => hk1 z h1 (fun h4 => by have h9 : zF b (b + 61) z ∨ @Eq Nat z (b + 66) := h4; simp only [zF] at h9; omega))
  have hC1 := hB.1
  have hO1 := hB.2.1
  refine lv_istore (lv' := [(5, .int 0), (4, .int (nI i)), (3, .ref (b + 66)), (2, .ref (b + 61)), (1, .ref b), (0, .ref b0)]) hx hb dL_law_832 hl (by decide) rfl (fun ls hl => ?_)
  refine lv_aload_n hx hb dL_law_834 rfl (lv_at hl 3 rfl) ?_
  refine lv_aload_n hx hb dL_law_835 rfl (lv_at hl 5 rfl) ?_
  refine lv_iload hx hb dL_law_836 (lv_at hl 1 rfl) ?_
  refine lv_iconst (v := 1) hx hb dL_law_838 (by decide) ?_
  refine lv_iadd hx hb dL_law_839 ?_
  refine z_toi (y := nI (i + 1)) (nI_add i 1) ?_
  refine va_sld hx hb hX0 hb0 hbA hS (vp_in_nI (by omega) (by omega)) dL_law_840 ?_
  refine z_toi (y := (nI r)) (by rw [nI_clamp (by omega)]; exact h1) ?_
  refine z_mi (va_runV (As := [.int (nI r)]) (rest := []) hfix (zcX5_pass_k l D cI H1 (b + 61) tn n g me lo c bf e rd tk r hM1 hI hZ hr1 hr2) (cwV 1 hts gL_law_X5_pass rfl rfl rfl (by decide +kernel) ⟨Nat.le_of_ble_eq_true rfl, Nat.le_of_ble_eq_true rfl⟩) (z_preV hK hKi hM1 (ci := 5) (q0 := 0) rfl rfl rfl) rfl rfl hl.1 rfl (lv_room (Nat.le_of_ble_eq_true rfl)) dL_law_841 ⟨by show cells + 0 + 0 ≤ 601024; omega, by show slots + 0 + 0 ≤ 7293033; omega⟩) hS (fun z _ h => by have h9 : zF (b + 61) (b + 61 + 5) z := h; have h8 := hS.1; show s.heap.size ≤ z; simp only [zF] at h9; omega) (fun z h => by have h9 : zF (b + 61) (b + 61 + 5) z := h; have h8 := hS.1; show s.heap.size ≤ z; simp only [zF] at h9; omega) (fun H2 lo2 hB hz2 hk2 hS => ?_)
  refine va_forget (fun q h => hS.2.2 q h) ?_
  have hS : va_S (fun q => s.heap.size ≤ q) s.heap H2 [] := ⟨hS.1, hS.2.1, fun z h => absurd h List.not_mem_nil⟩
  obtain ⟨⟨bf2, hM2⟩, hB9⟩ := hB
  have hC2 := zCW_kept hC1 (fun z h1 h2 h3 => hk2 z h1 (fun h4 => by have h9 : zF (b + 61) (b + 61 + 5) z := h4; simp only [zF] at h9; omega))
  have hO2 := zOb_kept hO1 (fun z h1 h2 h3 => hk2 z h1 (fun h4 => by have h9 : zF (b + 61) (b + 61 + 5) z := h4; simp only [zF] at h9; omega))
  refine lv_istore (lv' := [(6, .int ((rN n me lo c e (rd, tk, g) r).2.1 - tk)), (5, .int 0), (4, .int (nI i)), (3, .ref (b + 66)), (2, .ref (b + 61)), (1, .ref b), (0, .ref b0)]) hx hb dL_law_844 hl (by decide) rfl (fun ls hl => ?_)
  refine lv_aload_n hx hb dL_law_846 rfl (lv_at hl 4 rfl) ?_
  refine z_ki (va_runV (As := []) (rest := []) hfix (zcX5_thrown l D cI H2 _ _ _ _ _ _ _ hM2) (cwV 0 hts gL_law_X5_thrown rfl rfl rfl (by decide +kernel) ⟨Nat.le_of_ble_eq_true rfl, Nat.le_of_ble_eq_true rfl⟩) (z_preV hK hKi hM2 (ci := 5) (q0 := 0) rfl rfl rfl) rfl rfl hl.1 rfl (lv_room (Nat.le_of_ble_eq_true rfl)) dL_law_847 ⟨by show cells + 0 + 0 + 0 ≤ 601024; omega, by show slots + 0 + 0 + 0 ≤ 7293033; omega⟩) ?_
  refine lv_iload hx hb dL_law_850 (lv_at hl 1 rfl) ?_
  refine lv_icmp_eq (tgt := 857) hx hb dL_law_852 (by decide) (fun c9 => ?_) (fun c9 => absurd rfl c9)
  refine lv_iload hx hb dL_law_857 (lv_at hl 1 rfl) ?_
  refine lv_if_ne (tgt := 874) hx hb dL_law_859 (by decide) (fun c9 => absurd rfl c9) (fun c9 => ?_)
  refine lv_aload_n hx hb dL_law_862 rfl (lv_at hl 3 rfl) ?_
  refine lv_iconst (v := 0) hx hb dL_law_863 (by decide) ?_
  refine va_lald hx hb hK hO2 0 1 rfl rfl (vp_in_nI (n := 0) (by decide) (by decide)) dL_law_864 ?_
  refine z_tol (y := (((rN n me lo c e (rd, tk, g) r).2.1 - tk)).toInt64) (by rfl) ?_
  refine lv_iload hx hb dL_law_865 (lv_at hl 0 rfl) ?_
  refine lv_i2l (v := (((rN n me lo c e (rd, tk, g) r).2.1 - tk)).toInt64) hx hb dL_law_867 rfl ?_
  refine W.lcmp hx hb dL_law_868 ?_
  refine z_toi (y := 0) ((lg_cmp_eq _ _).mpr rfl) ?_
  refine lv_if_eq (tgt := 874) hx hb dL_law_869 (by decide) (fun c9 => ?_) (fun c9 => absurd rfl c9)
  refine lv_goto (tgt := 1137) hx hb dL_law_874 (by decide) ?_
  refine W.widen (k := cells + 16) (n := slots + 214) (by omega) (by omega) ?_
  exact kk _ _ _ _ _ _ _ _ _ _ ⟨hC2, ⟨_, hO2⟩, ⟨_, _, hM2⟩, hI, zJ_rN hI (t := (rd, tk, g)) hZ r⟩ hS (lv_sub hl [2, 3, 4, 5, 6] rfl)
set_option maxHeartbeats 4000000 in
set_option maxRecDepth 100000 in
/-- zlv_pass_b1 -/
theorem zlv_pass_b1 {pg : Program} {l : Launch} {ev : Env} {s : State} {m : MethodId} {below : List Frame} {meth : Method} {cd : Code} {D : va_G} {cI cL cR : ClassId} {b0 L : Nat} {xs : Nat → Int32} {Q : State → Prop} {H : Heap} {b n : Nat} {me lo : Nat → Int32} {c e : Nat → Nat} {rd tk tn : Int32} {g : zG} {bf : Nat → Int32} {f : Nat → Int64} {i cells slots : Nat} {ls : Array Slot} (hfix : CallFix pg m cd cL_law 9 s #[.ref b0] wsL_law RL) (hK : va_K D vwCl [(cI, .int), (cL, .long), (cR, .array .int)] s) (hKw : zKw s) (hE : zE s.heap.size s) (hlt : l.stackTraces = false) (hX0 : va_X b0 L xs s s.heap) (hb0 : b0 < s.heap.size) (hbs : s.heap.size ≤ b) (hC : zCW D cI b n me lo c e rd tk g H) (hM : va_P D vwCl (zMo cI (b + 61) tn n (jf g me lo c) bf (zn e) (nm rd tk)) H) (hO : va_P D vwCl [(b + 66, .inl (cL, 1, .inr (.inl f)))] H) (hI : zI n me lo c e) (hZ : zJ n g) (hS : va_S (fun q => s.heap.size ≤ q) s.heap H []) (hi : i + 4 ≤ L) (hL : L ≤ 2048) (hcell : cells + 16 ≤ 601024) (hslot : slots + 214 ≤ 7293033) (hl : lv_has ls 9 [(4, .int (nI i)), (3, .ref (b + 66)), (2, .ref (b + 61)), (1, .ref b), (0, .ref b0)]) (kk : zLK pg l ev s m below meth cd D cI cL b0 Q b i cells slots) (x : Int32) (hx9 : x < 1 ∨ ¬ x ≤ 200) (h1 : xs (i + 1) = x) : W pg l ev room_1 s m #[Value.ref b0] below meth cd H [] cells slots Q (F0 m 821 ls []) := by
  obtain ⟨hx, hb, hml, hown, hts⟩ := id hfix
  have hbA : ¬ (fun q : Nat => s.heap.size ≤ q) b0 := Nat.not_le.mpr hb0
  have hKi : va_K D vwCl [(cI, .int)] s := hK.sub [0] rfl
  have hKl : va_K D vwCl [(cI, .int), (cL, .long)] s := hK.sub [0, 1] rfl
  have hKq : va_K D vwCl [(cI, .int), (cR, .array .int)] s := hK.sub [0, 2] rfl
  have hsz := hS.1
  refine lv_aload_n hx hb dL_law_821 rfl (lv_at hl 3 rfl) ?_
  refine lv_aload_n hx hb dL_law_822 rfl (lv_at hl 4 rfl) ?_
  refine lv_iload hx hb dL_law_823 (lv_at hl 0 rfl) ?_
  refine lv_iconst (v := 1) hx hb dL_law_825 (by decide) ?_
  refine lv_iadd hx hb dL_law_826 ?_
  refine z_toi (y := nI (i + 1)) (nI_add i 1) ?_
  refine va_sld hx hb hX0 hb0 hbA hS (vp_in_nI (by omega) (by omega)) dL_law_827 ?_
  refine z_toi (y := x) (by rw [nI_clamp (by omega)]; exact h1) ?_
  refine lv_aload_n hx hb dL_law_828 rfl (lv_at hl 1 rfl) ?_
  refine z_mi (vx_runSW (As := [.ref b, .int x, .ref (b + 66)]) (rest := []) hfix (zcL_pass_b1 l D cI cL H s.heap.size (b + 66) hlt hS.1 b n me lo c e rd tk g x hC hI hx9) (vx_cwSW 3 hts gL_law_L_pass rfl rfl rfl (by decide +kernel) ⟨Nat.le_of_ble_eq_true rfl, Nat.le_of_ble_eq_true rfl⟩) (z_xpreS hE (fun q h1 h2 => hS.2.1 q h1 h2) hKl) rfl rfl hl.1 rfl (lv_room (Nat.le_of_ble_eq_true rfl)) dL_law_829 ⟨by show cells + 1 ≤ 601024; omega, by show slots + 6 ≤ 7293033; omega⟩) hS (fun z _ h => by have h9 : H.size ≤ z := h; have h8 := hS.1; show s.heap.size ≤ z; omega) (fun z h => by have h9 : H.size ≤ z := h; have h8 := hS.1; show s.heap.size ≤ z; omega) (fun H1 lo1 hB hz1 hk1 hS => ?_)
  refine va_forget (fun q h => hS.2.2 q h) ?_
  have hS : va_S (fun q => s.heap.size ≤ q) s.heap H1 [] := ⟨hS.1, hS.2.1, fun z h => absurd h List.not_mem_nil⟩
  have hM1 := zMo_kept hM (fun z h1 h2 h3 => hk1 z h1 (fun h4 => by have h9 : H.size ≤ z := h4; omega))
  have hC1 := zCW_kept hC (fun z h1 h2 h3 => hk1 z h1 (fun h4 => by have h9 : H.size ≤ z := h4; omega))
  have hO1 := zOb_kept hO (fun z h1 h2 h3 => hk1 z h1 (fun h4 => by have h9 : H.size ≤ z := h4; omega))
  refine lv_istore (lv' := [(5, .int 1), (4, .int (nI i)), (3, .ref (b + 66)), (2, .ref (b + 61)), (1, .ref b), (0, .ref b0)]) hx hb dL_law_832 hl (by decide) rfl (fun ls hl => ?_)
  refine lv_aload_n hx hb dL_law_834 rfl (lv_at hl 3 rfl) ?_
  refine lv_aload_n hx hb dL_law_835 rfl (lv_at hl 5 rfl) ?_
  refine lv_iload hx hb dL_law_836 (lv_at hl 1 rfl) ?_
  refine lv_iconst (v := 1) hx hb dL_law_838 (by decide) ?_
  refine lv_iadd hx hb dL_law_839 ?_
  refine z_toi (y := nI (i + 1)) (nI_add i 1) ?_
  refine va_sld hx hb hX0 hb0 hbA hS (vp_in_nI (by omega) (by omega)) dL_law_840 ?_
  refine z_toi (y := x) (by rw [nI_clamp (by omega)]; exact h1) ?_
  refine z_mi (va_runV (As := [.int x]) (rest := []) hfix (zcX5_pass_b1 l D cI H1 (b + 61) tn n g me lo c bf e rd tk x hM1 hI hx9) (cwV 1 hts gL_law_X5_pass rfl rfl rfl (by decide +kernel) ⟨Nat.le_of_ble_eq_true rfl, Nat.le_of_ble_eq_true rfl⟩) (z_preV hK hKi hM1 (ci := 5) (q0 := 0) rfl rfl rfl) rfl rfl hl.1 rfl (lv_room (Nat.le_of_ble_eq_true rfl)) dL_law_841 ⟨by show cells + 1 + 0 ≤ 601024; omega, by show slots + 6 + 0 ≤ 7293033; omega⟩) hS (fun z _ h => by have h9 : zF (b + 61) (b + 61 + 5) z := h; have h8 := hS.1; show s.heap.size ≤ z; simp only [zF] at h9; omega) (fun z h => by have h9 : zF (b + 61) (b + 61 + 5) z := h; have h8 := hS.1; show s.heap.size ≤ z; simp only [zF] at h9; omega) (fun H2 lo2 hB hz2 hk2 hS => ?_)
  refine va_forget (fun q h => hS.2.2 q h) ?_
  have hS : va_S (fun q => s.heap.size ≤ q) s.heap H2 [] := ⟨hS.1, hS.2.1, fun z h => absurd h List.not_mem_nil⟩
  obtain ⟨hM2, hB9⟩ := hB
  have hC2 := zCW_kept hC1 (fun z h1 h2 h3 => hk2 z h1 (fun h4 => by have h9 : zF (b + 61) (b + 61 + 5) z := h4; simp only [zF] at h9; omega))
  have hO2 := zOb_kept hO1 (fun z h1 h2 h3 => hk2 z h1 (fun h4 => by have h9 : zF (b + 61) (b + 61 + 5) z := h4; simp only [zF] at h9; omega))
  refine lv_istore (lv' := [(6, .int 0), (5, .int 1), (4, .int (nI i)), (3, .ref (b + 66)), (2, .ref (b + 61)), (1, .ref b), (0, .ref b0)]) hx hb dL_law_844 hl (by decide) rfl (fun ls hl => ?_)
  refine lv_aload_n hx hb dL_law_846 rfl (lv_at hl 4 rfl) ?_
  refine z_ki (va_runV (As := []) (rest := []) hfix (zcX5_thrown l D cI H2 _ _ _ _ _ _ _ hM2) (cwV 0 hts gL_law_X5_thrown rfl rfl rfl (by decide +kernel) ⟨Nat.le_of_ble_eq_true rfl, Nat.le_of_ble_eq_true rfl⟩) (z_preV hK hKi hM2 (ci := 5) (q0 := 0) rfl rfl rfl) rfl rfl hl.1 rfl (lv_room (Nat.le_of_ble_eq_true rfl)) dL_law_847 ⟨by show cells + 1 + 0 + 0 ≤ 601024; omega, by show slots + 6 + 0 + 0 ≤ 7293033; omega⟩) ?_
  refine lv_iload hx hb dL_law_850 (lv_at hl 1 rfl) ?_
  refine lv_icmp_eq (tgt := 857) hx hb dL_law_852 (by decide) (fun c9 => ?_) (fun c9 => absurd rfl c9)
  refine lv_iload hx hb dL_law_857 (lv_at hl 1 rfl) ?_
  refine lv_if_ne (tgt := 874) hx hb dL_law_859 (by decide) (fun c9 => ?_) (fun c9 => absurd c9 (by decide))
  refine lv_goto (tgt := 1137) hx hb dL_law_874 (by decide) ?_
  refine W.widen (k := cells + 16) (n := slots + 214) (by omega) (by omega) ?_
  exact kk _ _ _ _ _ _ _ _ _ _ ⟨hC2, ⟨_, hO2⟩, ⟨_, _, hM2⟩, hI, hZ⟩ hS (lv_sub hl [2, 3, 4, 5, 6] rfl)
set_option maxHeartbeats 4000000 in
set_option maxRecDepth 100000 in
/-- zlv_foresee_ok -/
theorem zlv_foresee_ok {pg : Program} {l : Launch} {ev : Env} {s : State} {m : MethodId} {below : List Frame} {meth : Method} {cd : Code} {D : va_G} {cI cL cR : ClassId} {b0 L : Nat} {xs : Nat → Int32} {Q : State → Prop} {H : Heap} {b n : Nat} {me lo : Nat → Int32} {c e : Nat → Nat} {rd tk tn : Int32} {g : zG} {bf : Nat → Int32} {f : Nat → Int64} {i cells slots : Nat} {ls : Array Slot} (hfix : CallFix pg m cd cL_law 9 s #[.ref b0] wsL_law RL) (hK : va_K D vwCl [(cI, .int), (cL, .long), (cR, .array .int)] s) (hKw : zKw s) (hE : zE s.heap.size s) (hlt : l.stackTraces = false) (hX0 : va_X b0 L xs s s.heap) (hb0 : b0 < s.heap.size) (hbs : s.heap.size ≤ b) (hC : zCW D cI b n me lo c e rd tk g H) (hM : va_P D vwCl (zMo cI (b + 61) tn n (jf g me lo c) bf (zn e) (nm rd tk)) H) (hO : va_P D vwCl [(b + 66, .inl (cL, 1, .inr (.inl f)))] H) (hI : zI n me lo c e) (hZ : zJ n g) (hS : va_S (fun q => s.heap.size ≤ q) s.heap H []) (hi : i + 4 ≤ L) (hL : L ≤ 2048) (hcell : cells + 16 ≤ 601024) (hslot : slots + 214 ≤ 7293033) (hl : lv_has ls 9 [(4, .int (nI i)), (3, .ref (b + 66)), (2, .ref (b + 61)), (1, .ref b), (0, .ref b0)]) (kk : zLK pg l ev s m below meth cd D cI cL b0 Q b i cells slots) (r : Nat) (p : Nat) (hr1 : 1 ≤ r) (hr2 : r ≤ 200) (hp : p < n) (h1 : xs (i + 1) = (nI r)) (h2 : xs (i + 2) = (nI p)) : W pg l ev room_1 s m #[Value.ref b0] below meth cd H [] cells slots Q (F0 m 890 ls []) := by
  obtain ⟨hx, hb, hml, hown, hts⟩ := id hfix
  have hbA : ¬ (fun q : Nat => s.heap.size ≤ q) b0 := Nat.not_le.mpr hb0
  have hKi : va_K D vwCl [(cI, .int)] s := hK.sub [0] rfl
  have hKl : va_K D vwCl [(cI, .int), (cL, .long)] s := hK.sub [0, 1] rfl
  have hKq : va_K D vwCl [(cI, .int), (cR, .array .int)] s := hK.sub [0, 2] rfl
  have hsz := hS.1
  refine lv_aload_n hx hb dL_law_890 rfl (lv_at hl 3 rfl) ?_
  refine lv_aload_n hx hb dL_law_891 rfl (lv_at hl 4 rfl) ?_
  refine lv_iload hx hb dL_law_892 (lv_at hl 0 rfl) ?_
  refine lv_iconst (v := 1) hx hb dL_law_894 (by decide) ?_
  refine lv_iadd hx hb dL_law_895 ?_
  refine z_toi (y := nI (i + 1)) (nI_add i 1) ?_
  refine va_sld hx hb hX0 hb0 hbA hS (vp_in_nI (by omega) (by omega)) dL_law_896 ?_
  refine z_toi (y := (nI r)) (by rw [nI_clamp (by omega)]; exact h1) ?_
  refine lv_aload_n hx hb dL_law_897 rfl (lv_at hl 4 rfl) ?_
  refine lv_iload hx hb dL_law_898 (lv_at hl 0 rfl) ?_
  refine lv_iconst (v := 2) hx hb dL_law_900 (by decide) ?_
  refine lv_iadd hx hb dL_law_901 ?_
  refine z_toi (y := nI (i + 2)) (nI_add i 2) ?_
  refine va_sld hx hb hX0 hb0 hbA hS (vp_in_nI (by omega) (by omega)) dL_law_902 ?_
  refine z_toi (y := (nI p)) (by rw [nI_clamp (by omega)]; exact h2) ?_
  refine lv_aload_n hx hb dL_law_903 rfl (lv_at hl 1 rfl) ?_
  refine z_mi (vx_runSW (As := [.ref b, .int (nI r), .int (nI p), .ref (b + 66)]) (rest := []) hfix (zcL_foresee_k l D cI cL H s.heap.size (b + 66) f b n me lo c e rd tk g r p hC hI hr1 hr2 hp hO (by omega)) (vx_cwSW 4 hts gL_law_L_foresee rfl rfl rfl (by decide +kernel) ⟨Nat.le_of_ble_eq_true rfl, Nat.le_of_ble_eq_true rfl⟩) (z_xpreS hE (fun q h1 h2 => hS.2.1 q h1 h2) hKl) rfl rfl hl.1 rfl (lv_room (Nat.le_of_ble_eq_true rfl)) dL_law_904 ⟨by show cells + 0 ≤ 601024; omega, by show slots + 0 ≤ 7293033; omega⟩) hS (fun z _ h => by have h9 : zF b (b + 61) z ∨ @Eq Nat z (b + 66) := h; have h8 := hS.1; show s.heap.size ≤ z; simp only [zF] at h9; omega) (fun z h => by have h9 : zF b (b + 61) z ∨ @Eq Nat z (b + 66) := h; have h8 := hS.1; show s.heap.size ≤ z; simp only [zF] at h9; omega) (fun H1 lo1 hB hz1 hk1 hS => ?_)
  refine va_forget (fun q h => hS.2.2 q h) ?_
  have hS : va_S (fun q => s.heap.size ≤ q) s.heap H1 [] := ⟨hS.1, hS.2.1, fun z h => absurd h List.not_mem_nil⟩
  have hM1 := zMo_kept hM (fun z h1 h2 h3 => hk1 z h1 (fun h4 => by have h9 : zF b (b + 61) z ∨ @Eq Nat z (b + 66) := h4; simp only [zF] at h9; omega))
  have hC1 := hB.1
  have hO1 := hB.2.1
  refine lv_istore (lv' := [(5, .int 0), (4, .int (nI i)), (3, .ref (b + 66)), (2, .ref (b + 61)), (1, .ref b), (0, .ref b0)]) hx hb dL_law_907 hl (by decide) rfl (fun ls hl => ?_)
  refine lv_aload_n hx hb dL_law_909 rfl (lv_at hl 3 rfl) ?_
  refine lv_aload_n hx hb dL_law_910 rfl (lv_at hl 5 rfl) ?_
  refine lv_iload hx hb dL_law_911 (lv_at hl 1 rfl) ?_
  refine lv_iconst (v := 1) hx hb dL_law_913 (by decide) ?_
  refine lv_iadd hx hb dL_law_914 ?_
  refine z_toi (y := nI (i + 1)) (nI_add i 1) ?_
  refine va_sld hx hb hX0 hb0 hbA hS (vp_in_nI (by omega) (by omega)) dL_law_915 ?_
  refine z_toi (y := (nI r)) (by rw [nI_clamp (by omega)]; exact h1) ?_
  refine lv_aload_n hx hb dL_law_916 rfl (lv_at hl 5 rfl) ?_
  refine lv_iload hx hb dL_law_917 (lv_at hl 1 rfl) ?_
  refine lv_iconst (v := 2) hx hb dL_law_919 (by decide) ?_
  refine lv_iadd hx hb dL_law_920 ?_
  refine z_toi (y := nI (i + 2)) (nI_add i 2) ?_
  refine va_sld hx hb hX0 hb0 hbA hS (vp_in_nI (by omega) (by omega)) dL_law_921 ?_
  refine z_toi (y := (nI p)) (by rw [nI_clamp (by omega)]; exact h2) ?_
  refine z_mi (va_runV (As := [.int (nI r), .int (nI p)]) (rest := []) hfix (zcX5_foresee_k l D cI cR H1 (b + 61) tn n g me lo c bf e rd tk r p hM1 hI hZ hr1 hr2 hp) (cwV 2 hts gL_law_X5_foresee rfl rfl rfl (by decide +kernel) ⟨Nat.le_of_ble_eq_true rfl, Nat.le_of_ble_eq_true rfl⟩) (z_kpreV hKw hK hKq hM1 (ci := 5) (q0 := 0) rfl rfl rfl) rfl rfl hl.1 rfl (lv_room (Nat.le_of_ble_eq_true rfl)) dL_law_922 ⟨by show cells + 0 + 3 ≤ 601024; omega, by show slots + 0 + 124 ≤ 7293033; omega⟩) hS (fun z _ h => by have h9 : zF (b + 61) (b + 61 + 5) z ∨ H1.size ≤ z := h; have h8 := hS.1; show s.heap.size ≤ z; simp only [zF] at h9; omega) (fun z h => by have h9 : zF (b + 61) (b + 61 + 5) z ∨ H1.size ≤ z := h; have h8 := hS.1; show s.heap.size ≤ z; simp only [zF] at h9; omega) (fun H2 lo2 hB hz2 hk2 hS => ?_)
  refine va_forget (fun q h => hS.2.2 q h) ?_
  have hS : va_S (fun q => s.heap.size ≤ q) s.heap H2 [] := ⟨hS.1, hS.2.1, fun z h => absurd h List.not_mem_nil⟩
  obtain ⟨⟨bf2, hM2⟩, hB9⟩ := hB
  have hC2 := zCW_kept hC1 (fun z h1 h2 h3 => hk2 z h1 (fun h4 => by have h9 : zF (b + 61) (b + 61 + 5) z ∨ H1.size ≤ z := h4; simp only [zF] at h9; omega))
  have hO2 := zOb_kept hO1 (fun z h1 h2 h3 => hk2 z h1 (fun h4 => by have h9 : zF (b + 61) (b + 61 + 5) z ∨ H1.size ≤ z := h4; simp only [zF] at h9; omega))
  refine lv_istore (lv' := [(6, .int (wd (rN n me lo c e (rd, tk, g) r).2.2 p)), (5, .int 0), (4, .int (nI i)), (3, .ref (b + 66)), (2, .ref (b + 61)), (1, .ref b), (0, .ref b0)]) hx hb dL_law_925 hl (by decide) rfl (fun ls hl => ?_)
  refine lv_aload_n hx hb dL_law_927 rfl (lv_at hl 4 rfl) ?_
  refine z_ki (va_runV (As := []) (rest := []) hfix (zcX5_thrown l D cI H2 _ _ _ _ _ _ _ hM2) (cwV 0 hts gL_law_X5_thrown rfl rfl rfl (by decide +kernel) ⟨Nat.le_of_ble_eq_true rfl, Nat.le_of_ble_eq_true rfl⟩) (z_preV hK hKi hM2 (ci := 5) (q0 := 0) rfl rfl rfl) rfl rfl hl.1 rfl (lv_room (Nat.le_of_ble_eq_true rfl)) dL_law_928 ⟨by show cells + 0 + 3 + 0 ≤ 601024; omega, by show slots + 0 + 124 + 0 ≤ 7293033; omega⟩) ?_
  refine lv_iload hx hb dL_law_931 (lv_at hl 1 rfl) ?_
  refine lv_icmp_eq (tgt := 938) hx hb dL_law_933 (by decide) (fun c9 => ?_) (fun c9 => absurd rfl c9)
  refine lv_iload hx hb dL_law_938 (lv_at hl 1 rfl) ?_
  refine lv_if_ne (tgt := 955) hx hb dL_law_940 (by decide) (fun c9 => absurd rfl c9) (fun c9 => ?_)
  refine lv_aload_n hx hb dL_law_943 rfl (lv_at hl 3 rfl) ?_
  refine lv_iconst (v := 0) hx hb dL_law_944 (by decide) ?_
  refine va_lald hx hb hK hO2 0 1 rfl rfl (vp_in_nI (n := 0) (by decide) (by decide)) dL_law_945 ?_
  refine z_tol (y := ((wd (rN n me lo c e (rd, tk, g) r).2.2 p)).toInt64) (by rfl) ?_
  refine lv_iload hx hb dL_law_946 (lv_at hl 0 rfl) ?_
  refine lv_i2l (v := ((wd (rN n me lo c e (rd, tk, g) r).2.2 p)).toInt64) hx hb dL_law_948 rfl ?_
  refine W.lcmp hx hb dL_law_949 ?_
  refine z_toi (y := 0) ((lg_cmp_eq _ _).mpr rfl) ?_
  refine lv_if_eq (tgt := 955) hx hb dL_law_950 (by decide) (fun c9 => ?_) (fun c9 => absurd rfl c9)
  refine lv_goto (tgt := 1137) hx hb dL_law_955 (by decide) ?_
  refine W.widen (k := cells + 16) (n := slots + 214) (by omega) (by omega) ?_
  exact kk _ _ _ _ _ _ _ _ _ _ ⟨hC2, ⟨_, hO2⟩, ⟨_, _, hM2⟩, hI, hZ⟩ hS (lv_sub hl [2, 3, 4, 5, 6] rfl)
set_option maxHeartbeats 4000000 in
set_option maxRecDepth 100000 in
/-- zlv_foresee_b1 -/
theorem zlv_foresee_b1 {pg : Program} {l : Launch} {ev : Env} {s : State} {m : MethodId} {below : List Frame} {meth : Method} {cd : Code} {D : va_G} {cI cL cR : ClassId} {b0 L : Nat} {xs : Nat → Int32} {Q : State → Prop} {H : Heap} {b n : Nat} {me lo : Nat → Int32} {c e : Nat → Nat} {rd tk tn : Int32} {g : zG} {bf : Nat → Int32} {f : Nat → Int64} {i cells slots : Nat} {ls : Array Slot} (hfix : CallFix pg m cd cL_law 9 s #[.ref b0] wsL_law RL) (hK : va_K D vwCl [(cI, .int), (cL, .long), (cR, .array .int)] s) (hKw : zKw s) (hE : zE s.heap.size s) (hlt : l.stackTraces = false) (hX0 : va_X b0 L xs s s.heap) (hb0 : b0 < s.heap.size) (hbs : s.heap.size ≤ b) (hC : zCW D cI b n me lo c e rd tk g H) (hM : va_P D vwCl (zMo cI (b + 61) tn n (jf g me lo c) bf (zn e) (nm rd tk)) H) (hO : va_P D vwCl [(b + 66, .inl (cL, 1, .inr (.inl f)))] H) (hI : zI n me lo c e) (hZ : zJ n g) (hS : va_S (fun q => s.heap.size ≤ q) s.heap H []) (hi : i + 4 ≤ L) (hL : L ≤ 2048) (hcell : cells + 16 ≤ 601024) (hslot : slots + 214 ≤ 7293033) (hl : lv_has ls 9 [(4, .int (nI i)), (3, .ref (b + 66)), (2, .ref (b + 61)), (1, .ref b), (0, .ref b0)]) (kk : zLK pg l ev s m below meth cd D cI cL b0 Q b i cells slots) (x : Int32) (y : Int32) (hx9 : x < 1 ∨ ¬ x ≤ 200) (h1 : xs (i + 1) = x) (h2 : xs (i + 2) = y) : W pg l ev room_1 s m #[Value.ref b0] below meth cd H [] cells slots Q (F0 m 890 ls []) := by
  obtain ⟨hx, hb, hml, hown, hts⟩ := id hfix
  have hbA : ¬ (fun q : Nat => s.heap.size ≤ q) b0 := Nat.not_le.mpr hb0
  have hKi : va_K D vwCl [(cI, .int)] s := hK.sub [0] rfl
  have hKl : va_K D vwCl [(cI, .int), (cL, .long)] s := hK.sub [0, 1] rfl
  have hKq : va_K D vwCl [(cI, .int), (cR, .array .int)] s := hK.sub [0, 2] rfl
  have hsz := hS.1
  refine lv_aload_n hx hb dL_law_890 rfl (lv_at hl 3 rfl) ?_
  refine lv_aload_n hx hb dL_law_891 rfl (lv_at hl 4 rfl) ?_
  refine lv_iload hx hb dL_law_892 (lv_at hl 0 rfl) ?_
  refine lv_iconst (v := 1) hx hb dL_law_894 (by decide) ?_
  refine lv_iadd hx hb dL_law_895 ?_
  refine z_toi (y := nI (i + 1)) (nI_add i 1) ?_
  refine va_sld hx hb hX0 hb0 hbA hS (vp_in_nI (by omega) (by omega)) dL_law_896 ?_
  refine z_toi (y := x) (by rw [nI_clamp (by omega)]; exact h1) ?_
  refine lv_aload_n hx hb dL_law_897 rfl (lv_at hl 4 rfl) ?_
  refine lv_iload hx hb dL_law_898 (lv_at hl 0 rfl) ?_
  refine lv_iconst (v := 2) hx hb dL_law_900 (by decide) ?_
  refine lv_iadd hx hb dL_law_901 ?_
  refine z_toi (y := nI (i + 2)) (nI_add i 2) ?_
  refine va_sld hx hb hX0 hb0 hbA hS (vp_in_nI (by omega) (by omega)) dL_law_902 ?_
  refine z_toi (y := y) (by rw [nI_clamp (by omega)]; exact h2) ?_
  refine lv_aload_n hx hb dL_law_903 rfl (lv_at hl 1 rfl) ?_
  refine z_mi (vx_runSW (As := [.ref b, .int x, .int y, .ref (b + 66)]) (rest := []) hfix (zcL_foresee_b1 l D cI cL H s.heap.size (b + 66) hlt hS.1 b n me lo c e rd tk g x y hC hI hx9) (vx_cwSW 4 hts gL_law_L_foresee rfl rfl rfl (by decide +kernel) ⟨Nat.le_of_ble_eq_true rfl, Nat.le_of_ble_eq_true rfl⟩) (z_xpreS hE (fun q h1 h2 => hS.2.1 q h1 h2) hKl) rfl rfl hl.1 rfl (lv_room (Nat.le_of_ble_eq_true rfl)) dL_law_904 ⟨by show cells + 1 ≤ 601024; omega, by show slots + 6 ≤ 7293033; omega⟩) hS (fun z _ h => by have h9 : H.size ≤ z := h; have h8 := hS.1; show s.heap.size ≤ z; omega) (fun z h => by have h9 : H.size ≤ z := h; have h8 := hS.1; show s.heap.size ≤ z; omega) (fun H1 lo1 hB hz1 hk1 hS => ?_)
  refine va_forget (fun q h => hS.2.2 q h) ?_
  have hS : va_S (fun q => s.heap.size ≤ q) s.heap H1 [] := ⟨hS.1, hS.2.1, fun z h => absurd h List.not_mem_nil⟩
  have hM1 := zMo_kept hM (fun z h1 h2 h3 => hk1 z h1 (fun h4 => by have h9 : H.size ≤ z := h4; omega))
  have hC1 := zCW_kept hC (fun z h1 h2 h3 => hk1 z h1 (fun h4 => by have h9 : H.size ≤ z := h4; omega))
  have hO1 := zOb_kept hO (fun z h1 h2 h3 => hk1 z h1 (fun h4 => by have h9 : H.size ≤ z := h4; omega))
  refine lv_istore (lv' := [(5, .int 1), (4, .int (nI i)), (3, .ref (b + 66)), (2, .ref (b + 61)), (1, .ref b), (0, .ref b0)]) hx hb dL_law_907 hl (by decide) rfl (fun ls hl => ?_)
  refine lv_aload_n hx hb dL_law_909 rfl (lv_at hl 3 rfl) ?_
  refine lv_aload_n hx hb dL_law_910 rfl (lv_at hl 5 rfl) ?_
  refine lv_iload hx hb dL_law_911 (lv_at hl 1 rfl) ?_
  refine lv_iconst (v := 1) hx hb dL_law_913 (by decide) ?_
  refine lv_iadd hx hb dL_law_914 ?_
  refine z_toi (y := nI (i + 1)) (nI_add i 1) ?_
  refine va_sld hx hb hX0 hb0 hbA hS (vp_in_nI (by omega) (by omega)) dL_law_915 ?_
  refine z_toi (y := x) (by rw [nI_clamp (by omega)]; exact h1) ?_
  refine lv_aload_n hx hb dL_law_916 rfl (lv_at hl 5 rfl) ?_
  refine lv_iload hx hb dL_law_917 (lv_at hl 1 rfl) ?_
  refine lv_iconst (v := 2) hx hb dL_law_919 (by decide) ?_
  refine lv_iadd hx hb dL_law_920 ?_
  refine z_toi (y := nI (i + 2)) (nI_add i 2) ?_
  refine va_sld hx hb hX0 hb0 hbA hS (vp_in_nI (by omega) (by omega)) dL_law_921 ?_
  refine z_toi (y := y) (by rw [nI_clamp (by omega)]; exact h2) ?_
  refine z_mi (va_runV (As := [.int x, .int y]) (rest := []) hfix (zcX5_foresee_b1 l D cI H1 (b + 61) tn n g me lo c bf e rd tk x y hM1 hI hx9) (cwV 2 hts gL_law_X5_foresee rfl rfl rfl (by decide +kernel) ⟨Nat.le_of_ble_eq_true rfl, Nat.le_of_ble_eq_true rfl⟩) (z_preV hK hKi hM1 (ci := 5) (q0 := 0) rfl rfl rfl) rfl rfl hl.1 rfl (lv_room (Nat.le_of_ble_eq_true rfl)) dL_law_922 ⟨by show cells + 1 + 0 ≤ 601024; omega, by show slots + 6 + 0 ≤ 7293033; omega⟩) hS (fun z _ h => by have h9 : zF (b + 61) (b + 61 + 5) z := h; have h8 := hS.1; show s.heap.size ≤ z; simp only [zF] at h9; omega) (fun z h => by have h9 : zF (b + 61) (b + 61 + 5) z := h; have h8 := hS.1; show s.heap.size ≤ z; simp only [zF] at h9; omega) (fun H2 lo2 hB hz2 hk2 hS => ?_)
  refine va_forget (fun q h => hS.2.2 q h) ?_
  have hS : va_S (fun q => s.heap.size ≤ q) s.heap H2 [] := ⟨hS.1, hS.2.1, fun z h => absurd h List.not_mem_nil⟩
  obtain ⟨hM2, hB9⟩ := hB
  have hC2 := zCW_kept hC1 (fun z h1 h2 h3 => hk2 z h1 (fun h4 => by have h9 : zF (b + 61) (b + 61 + 5) z := h4; simp only [zF] at h9; omega))
  have hO2 := zOb_kept hO1 (fun z h1 h2 h3 => hk2 z h1 (fun h4 => by have h9 : zF (b + 61) (b + 61 + 5) z := h4; simp only [zF] at h9; omega))
  refine lv_istore (lv' := [(6, .int 0), (5, .int 1), (4, .int (nI i)), (3, .ref (b + 66)), (2, .ref (b + 61)), (1, .ref b), (0, .ref b0)]) hx hb dL_law_925 hl (by decide) rfl (fun ls hl => ?_)
  refine lv_aload_n hx hb dL_law_927 rfl (lv_at hl 4 rfl) ?_
  refine z_ki (va_runV (As := []) (rest := []) hfix (zcX5_thrown l D cI H2 _ _ _ _ _ _ _ hM2) (cwV 0 hts gL_law_X5_thrown rfl rfl rfl (by decide +kernel) ⟨Nat.le_of_ble_eq_true rfl, Nat.le_of_ble_eq_true rfl⟩) (z_preV hK hKi hM2 (ci := 5) (q0 := 0) rfl rfl rfl) rfl rfl hl.1 rfl (lv_room (Nat.le_of_ble_eq_true rfl)) dL_law_928 ⟨by show cells + 1 + 0 + 0 ≤ 601024; omega, by show slots + 6 + 0 + 0 ≤ 7293033; omega⟩) ?_
  refine lv_iload hx hb dL_law_931 (lv_at hl 1 rfl) ?_
  refine lv_icmp_eq (tgt := 938) hx hb dL_law_933 (by decide) (fun c9 => ?_) (fun c9 => absurd rfl c9)
  refine lv_iload hx hb dL_law_938 (lv_at hl 1 rfl) ?_
  refine lv_if_ne (tgt := 955) hx hb dL_law_940 (by decide) (fun c9 => ?_) (fun c9 => absurd c9 (by decide))
  refine lv_goto (tgt := 1137) hx hb dL_law_955 (by decide) ?_
  refine W.widen (k := cells + 16) (n := slots + 214) (by omega) (by omega) ?_
  exact kk _ _ _ _ _ _ _ _ _ _ ⟨hC2, ⟨_, hO2⟩, ⟨_, _, hM2⟩, hI, hZ⟩ hS (lv_sub hl [2, 3, 4, 5, 6] rfl)
set_option maxHeartbeats 4000000 in
set_option maxRecDepth 100000 in
/-- zlv_foresee_b2 -/
theorem zlv_foresee_b2 {pg : Program} {l : Launch} {ev : Env} {s : State} {m : MethodId} {below : List Frame} {meth : Method} {cd : Code} {D : va_G} {cI cL cR : ClassId} {b0 L : Nat} {xs : Nat → Int32} {Q : State → Prop} {H : Heap} {b n : Nat} {me lo : Nat → Int32} {c e : Nat → Nat} {rd tk tn : Int32} {g : zG} {bf : Nat → Int32} {f : Nat → Int64} {i cells slots : Nat} {ls : Array Slot} (hfix : CallFix pg m cd cL_law 9 s #[.ref b0] wsL_law RL) (hK : va_K D vwCl [(cI, .int), (cL, .long), (cR, .array .int)] s) (hKw : zKw s) (hE : zE s.heap.size s) (hlt : l.stackTraces = false) (hX0 : va_X b0 L xs s s.heap) (hb0 : b0 < s.heap.size) (hbs : s.heap.size ≤ b) (hC : zCW D cI b n me lo c e rd tk g H) (hM : va_P D vwCl (zMo cI (b + 61) tn n (jf g me lo c) bf (zn e) (nm rd tk)) H) (hO : va_P D vwCl [(b + 66, .inl (cL, 1, .inr (.inl f)))] H) (hI : zI n me lo c e) (hZ : zJ n g) (hS : va_S (fun q => s.heap.size ≤ q) s.heap H []) (hi : i + 4 ≤ L) (hL : L ≤ 2048) (hcell : cells + 16 ≤ 601024) (hslot : slots + 214 ≤ 7293033) (hl : lv_has ls 9 [(4, .int (nI i)), (3, .ref (b + 66)), (2, .ref (b + 61)), (1, .ref b), (0, .ref b0)]) (kk : zLK pg l ev s m below meth cd D cI cL b0 Q b i cells slots) (r : Nat) (x : Int32) (hr1 : 1 ≤ r) (hr2 : r ≤ 200) (hx9 : ¬ ∃ j, j < n ∧ x = nI j) (h1 : xs (i + 1) = (nI r)) (h2 : xs (i + 2) = x) : W pg l ev room_1 s m #[Value.ref b0] below meth cd H [] cells slots Q (F0 m 890 ls []) := by
  obtain ⟨hx, hb, hml, hown, hts⟩ := id hfix
  have hbA : ¬ (fun q : Nat => s.heap.size ≤ q) b0 := Nat.not_le.mpr hb0
  have hKi : va_K D vwCl [(cI, .int)] s := hK.sub [0] rfl
  have hKl : va_K D vwCl [(cI, .int), (cL, .long)] s := hK.sub [0, 1] rfl
  have hKq : va_K D vwCl [(cI, .int), (cR, .array .int)] s := hK.sub [0, 2] rfl
  have hsz := hS.1
  refine lv_aload_n hx hb dL_law_890 rfl (lv_at hl 3 rfl) ?_
  refine lv_aload_n hx hb dL_law_891 rfl (lv_at hl 4 rfl) ?_
  refine lv_iload hx hb dL_law_892 (lv_at hl 0 rfl) ?_
  refine lv_iconst (v := 1) hx hb dL_law_894 (by decide) ?_
  refine lv_iadd hx hb dL_law_895 ?_
  refine z_toi (y := nI (i + 1)) (nI_add i 1) ?_
  refine va_sld hx hb hX0 hb0 hbA hS (vp_in_nI (by omega) (by omega)) dL_law_896 ?_
  refine z_toi (y := (nI r)) (by rw [nI_clamp (by omega)]; exact h1) ?_
  refine lv_aload_n hx hb dL_law_897 rfl (lv_at hl 4 rfl) ?_
  refine lv_iload hx hb dL_law_898 (lv_at hl 0 rfl) ?_
  refine lv_iconst (v := 2) hx hb dL_law_900 (by decide) ?_
  refine lv_iadd hx hb dL_law_901 ?_
  refine z_toi (y := nI (i + 2)) (nI_add i 2) ?_
  refine va_sld hx hb hX0 hb0 hbA hS (vp_in_nI (by omega) (by omega)) dL_law_902 ?_
  refine z_toi (y := x) (by rw [nI_clamp (by omega)]; exact h2) ?_
  refine lv_aload_n hx hb dL_law_903 rfl (lv_at hl 1 rfl) ?_
  refine z_mi (vx_runSW (As := [.ref b, .int (nI r), .int x, .ref (b + 66)]) (rest := []) hfix (zcL_foresee_b2 l D cI cL H s.heap.size (b + 66) hlt hS.1 b n me lo c e rd tk g r x hC hI hr1 hr2 hx9) (vx_cwSW 4 hts gL_law_L_foresee rfl rfl rfl (by decide +kernel) ⟨Nat.le_of_ble_eq_true rfl, Nat.le_of_ble_eq_true rfl⟩) (z_xpreS hE (fun q h1 h2 => hS.2.1 q h1 h2) hKl) rfl rfl hl.1 rfl (lv_room (Nat.le_of_ble_eq_true rfl)) dL_law_904 ⟨by show cells + 1 ≤ 601024; omega, by show slots + 6 ≤ 7293033; omega⟩) hS (fun z _ h => by have h9 : H.size ≤ z := h; have h8 := hS.1; show s.heap.size ≤ z; omega) (fun z h => by have h9 : H.size ≤ z := h; have h8 := hS.1; show s.heap.size ≤ z; omega) (fun H1 lo1 hB hz1 hk1 hS => ?_)
  refine va_forget (fun q h => hS.2.2 q h) ?_
  have hS : va_S (fun q => s.heap.size ≤ q) s.heap H1 [] := ⟨hS.1, hS.2.1, fun z h => absurd h List.not_mem_nil⟩
  have hM1 := zMo_kept hM (fun z h1 h2 h3 => hk1 z h1 (fun h4 => by have h9 : H.size ≤ z := h4; omega))
  have hC1 := zCW_kept hC (fun z h1 h2 h3 => hk1 z h1 (fun h4 => by have h9 : H.size ≤ z := h4; omega))
  have hO1 := zOb_kept hO (fun z h1 h2 h3 => hk1 z h1 (fun h4 => by have h9 : H.size ≤ z := h4; omega))
  refine lv_istore (lv' := [(5, .int 2), (4, .int (nI i)), (3, .ref (b + 66)), (2, .ref (b + 61)), (1, .ref b), (0, .ref b0)]) hx hb dL_law_907 hl (by decide) rfl (fun ls hl => ?_)
  refine lv_aload_n hx hb dL_law_909 rfl (lv_at hl 3 rfl) ?_
  refine lv_aload_n hx hb dL_law_910 rfl (lv_at hl 5 rfl) ?_
  refine lv_iload hx hb dL_law_911 (lv_at hl 1 rfl) ?_
  refine lv_iconst (v := 1) hx hb dL_law_913 (by decide) ?_
  refine lv_iadd hx hb dL_law_914 ?_
  refine z_toi (y := nI (i + 1)) (nI_add i 1) ?_
  refine va_sld hx hb hX0 hb0 hbA hS (vp_in_nI (by omega) (by omega)) dL_law_915 ?_
  refine z_toi (y := (nI r)) (by rw [nI_clamp (by omega)]; exact h1) ?_
  refine lv_aload_n hx hb dL_law_916 rfl (lv_at hl 5 rfl) ?_
  refine lv_iload hx hb dL_law_917 (lv_at hl 1 rfl) ?_
  refine lv_iconst (v := 2) hx hb dL_law_919 (by decide) ?_
  refine lv_iadd hx hb dL_law_920 ?_
  refine z_toi (y := nI (i + 2)) (nI_add i 2) ?_
  refine va_sld hx hb hX0 hb0 hbA hS (vp_in_nI (by omega) (by omega)) dL_law_921 ?_
  refine z_toi (y := x) (by rw [nI_clamp (by omega)]; exact h2) ?_
  refine z_mi (va_runV (As := [.int (nI r), .int x]) (rest := []) hfix (zcX5_foresee_b2 l D cI H1 (b + 61) tn n g me lo c bf e rd tk r x hM1 hI hr1 hr2 hx9) (cwV 2 hts gL_law_X5_foresee rfl rfl rfl (by decide +kernel) ⟨Nat.le_of_ble_eq_true rfl, Nat.le_of_ble_eq_true rfl⟩) (z_preV hK hKi hM1 (ci := 5) (q0 := 0) rfl rfl rfl) rfl rfl hl.1 rfl (lv_room (Nat.le_of_ble_eq_true rfl)) dL_law_922 ⟨by show cells + 1 + 0 ≤ 601024; omega, by show slots + 6 + 0 ≤ 7293033; omega⟩) hS (fun z _ h => by have h9 : zF (b + 61) (b + 61 + 5) z := h; have h8 := hS.1; show s.heap.size ≤ z; simp only [zF] at h9; omega) (fun z h => by have h9 : zF (b + 61) (b + 61 + 5) z := h; have h8 := hS.1; show s.heap.size ≤ z; simp only [zF] at h9; omega) (fun H2 lo2 hB hz2 hk2 hS => ?_)
  refine va_forget (fun q h => hS.2.2 q h) ?_
  have hS : va_S (fun q => s.heap.size ≤ q) s.heap H2 [] := ⟨hS.1, hS.2.1, fun z h => absurd h List.not_mem_nil⟩
  obtain ⟨hM2, hB9⟩ := hB
  have hC2 := zCW_kept hC1 (fun z h1 h2 h3 => hk2 z h1 (fun h4 => by have h9 : zF (b + 61) (b + 61 + 5) z := h4; simp only [zF] at h9; omega))
  have hO2 := zOb_kept hO1 (fun z h1 h2 h3 => hk2 z h1 (fun h4 => by have h9 : zF (b + 61) (b + 61 + 5) z := h4; simp only [zF] at h9; omega))
  refine lv_istore (lv' := [(6, .int 0), (5, .int 2), (4, .int (nI i)), (3, .ref (b + 66)), (2, .ref (b + 61)), (1, .ref b), (0, .ref b0)]) hx hb dL_law_925 hl (by decide) rfl (fun ls hl => ?_)
  refine lv_aload_n hx hb dL_law_927 rfl (lv_at hl 4 rfl) ?_
  refine z_ki (va_runV (As := []) (rest := []) hfix (zcX5_thrown l D cI H2 _ _ _ _ _ _ _ hM2) (cwV 0 hts gL_law_X5_thrown rfl rfl rfl (by decide +kernel) ⟨Nat.le_of_ble_eq_true rfl, Nat.le_of_ble_eq_true rfl⟩) (z_preV hK hKi hM2 (ci := 5) (q0 := 0) rfl rfl rfl) rfl rfl hl.1 rfl (lv_room (Nat.le_of_ble_eq_true rfl)) dL_law_928 ⟨by show cells + 1 + 0 + 0 ≤ 601024; omega, by show slots + 6 + 0 + 0 ≤ 7293033; omega⟩) ?_
  refine lv_iload hx hb dL_law_931 (lv_at hl 1 rfl) ?_
  refine lv_icmp_eq (tgt := 938) hx hb dL_law_933 (by decide) (fun c9 => ?_) (fun c9 => absurd rfl c9)
  refine lv_iload hx hb dL_law_938 (lv_at hl 1 rfl) ?_
  refine lv_if_ne (tgt := 955) hx hb dL_law_940 (by decide) (fun c9 => ?_) (fun c9 => absurd c9 (by decide))
  refine lv_goto (tgt := 1137) hx hb dL_law_955 (by decide) ?_
  refine W.widen (k := cells + 16) (n := slots + 214) (by omega) (by omega) ?_
  exact kk _ _ _ _ _ _ _ _ _ _ ⟨hC2, ⟨_, hO2⟩, ⟨_, _, hM2⟩, hI, hZ⟩ hS (lv_sub hl [2, 3, 4, 5, 6] rfl)
set_option maxHeartbeats 4000000 in
set_option maxRecDepth 100000 in
/-- zlv_advise_ok -/
theorem zlv_advise_ok {pg : Program} {l : Launch} {ev : Env} {s : State} {m : MethodId} {below : List Frame} {meth : Method} {cd : Code} {D : va_G} {cI cL cR : ClassId} {b0 L : Nat} {xs : Nat → Int32} {Q : State → Prop} {H : Heap} {b n : Nat} {me lo : Nat → Int32} {c e : Nat → Nat} {rd tk tn : Int32} {g : zG} {bf : Nat → Int32} {f : Nat → Int64} {i cells slots : Nat} {ls : Array Slot} (hfix : CallFix pg m cd cL_law 9 s #[.ref b0] wsL_law RL) (hK : va_K D vwCl [(cI, .int), (cL, .long), (cR, .array .int)] s) (hKw : zKw s) (hE : zE s.heap.size s) (hlt : l.stackTraces = false) (hX0 : va_X b0 L xs s s.heap) (hb0 : b0 < s.heap.size) (hbs : s.heap.size ≤ b) (hC : zCW D cI b n me lo c e rd tk g H) (hM : va_P D vwCl (zMo cI (b + 61) tn n (jf g me lo c) bf (zn e) (nm rd tk)) H) (hO : va_P D vwCl [(b + 66, .inl (cL, 1, .inr (.inl f)))] H) (hI : zI n me lo c e) (hZ : zJ n g) (hS : va_S (fun q => s.heap.size ≤ q) s.heap H []) (hi : i + 4 ≤ L) (hL : L ≤ 2048) (hcell : cells + 16 ≤ 601024) (hslot : slots + 214 ≤ 7293033) (hl : lv_has ls 9 [(4, .int (nI i)), (3, .ref (b + 66)), (2, .ref (b + 61)), (1, .ref b), (0, .ref b0)]) (kk : zLK pg l ev s m below meth cd D cI cL b0 Q b i cells slots) (w : Nat) (r : Nat) (hw : w ≤ 9999) (hr1 : 1 ≤ r) (hr2 : r ≤ 40) (h1 : xs (i + 1) = (nI w)) (h2 : xs (i + 2) = (nI r)) : W pg l ev room_1 s m #[Value.ref b0] below meth cd H [] cells slots Q (F0 m 958 ls []) := by
  obtain ⟨hx, hb, hml, hown, hts⟩ := id hfix
  have hbA : ¬ (fun q : Nat => s.heap.size ≤ q) b0 := Nat.not_le.mpr hb0
  have hKi : va_K D vwCl [(cI, .int)] s := hK.sub [0] rfl
  have hKl : va_K D vwCl [(cI, .int), (cL, .long)] s := hK.sub [0, 1] rfl
  have hKq : va_K D vwCl [(cI, .int), (cR, .array .int)] s := hK.sub [0, 2] rfl
  have hsz := hS.1
  refine lv_aload_n hx hb dL_law_958 rfl (lv_at hl 3 rfl) ?_
  refine lv_aload_n hx hb dL_law_959 rfl (lv_at hl 4 rfl) ?_
  refine lv_iload hx hb dL_law_960 (lv_at hl 0 rfl) ?_
  refine lv_iconst (v := 1) hx hb dL_law_962 (by decide) ?_
  refine lv_iadd hx hb dL_law_963 ?_
  refine z_toi (y := nI (i + 1)) (nI_add i 1) ?_
  refine va_sld hx hb hX0 hb0 hbA hS (vp_in_nI (by omega) (by omega)) dL_law_964 ?_
  refine z_toi (y := (nI w)) (by rw [nI_clamp (by omega)]; exact h1) ?_
  refine lv_aload_n hx hb dL_law_965 rfl (lv_at hl 4 rfl) ?_
  refine lv_iload hx hb dL_law_966 (lv_at hl 0 rfl) ?_
  refine lv_iconst (v := 2) hx hb dL_law_968 (by decide) ?_
  refine lv_iadd hx hb dL_law_969 ?_
  refine z_toi (y := nI (i + 2)) (nI_add i 2) ?_
  refine va_sld hx hb hX0 hb0 hbA hS (vp_in_nI (by omega) (by omega)) dL_law_970 ?_
  refine z_toi (y := (nI r)) (by rw [nI_clamp (by omega)]; exact h2) ?_
  refine lv_aload_n hx hb dL_law_971 rfl (lv_at hl 1 rfl) ?_
  refine z_mi (vx_runSW (As := [.ref b, .int (nI w), .int (nI r), .ref (b + 66)]) (rest := []) hfix (zcL_advise_k l D cI cL H s.heap.size (b + 66) f b n me lo c e rd tk g w r hC hI hw hr1 hr2 hO (by omega)) (vx_cwSW 4 hts gL_law_L_advise rfl rfl rfl (by decide +kernel) ⟨Nat.le_of_ble_eq_true rfl, Nat.le_of_ble_eq_true rfl⟩) (z_xpreS hE (fun q h1 h2 => hS.2.1 q h1 h2) hKl) rfl rfl hl.1 rfl (lv_room (Nat.le_of_ble_eq_true rfl)) dL_law_972 ⟨by show cells + 0 ≤ 601024; omega, by show slots + 0 ≤ 7293033; omega⟩) hS (fun z _ h => by have h9 : zF b (b + 61) z ∨ @Eq Nat z (b + 66) := h; have h8 := hS.1; show s.heap.size ≤ z; simp only [zF] at h9; omega) (fun z h => by have h9 : zF b (b + 61) z ∨ @Eq Nat z (b + 66) := h; have h8 := hS.1; show s.heap.size ≤ z; simp only [zF] at h9; omega) (fun H1 lo1 hB hz1 hk1 hS => ?_)
  refine va_forget (fun q h => hS.2.2 q h) ?_
  have hS : va_S (fun q => s.heap.size ≤ q) s.heap H1 [] := ⟨hS.1, hS.2.1, fun z h => absurd h List.not_mem_nil⟩
  have hM1 := zMo_kept hM (fun z h1 h2 h3 => hk1 z h1 (fun h4 => by have h9 : zF b (b + 61) z ∨ @Eq Nat z (b + 66) := h4; simp only [zF] at h9; omega))
  have hC1 := hB.1
  have hO1 := hB.2.1
  refine lv_istore (lv' := [(5, .int 0), (4, .int (nI i)), (3, .ref (b + 66)), (2, .ref (b + 61)), (1, .ref b), (0, .ref b0)]) hx hb dL_law_975 hl (by decide) rfl (fun ls hl => ?_)
  refine lv_aload_n hx hb dL_law_977 rfl (lv_at hl 3 rfl) ?_
  refine lv_aload_n hx hb dL_law_978 rfl (lv_at hl 5 rfl) ?_
  refine lv_iload hx hb dL_law_979 (lv_at hl 1 rfl) ?_
  refine lv_iconst (v := 1) hx hb dL_law_981 (by decide) ?_
  refine lv_iadd hx hb dL_law_982 ?_
  refine z_toi (y := nI (i + 1)) (nI_add i 1) ?_
  refine va_sld hx hb hX0 hb0 hbA hS (vp_in_nI (by omega) (by omega)) dL_law_983 ?_
  refine z_toi (y := (nI w)) (by rw [nI_clamp (by omega)]; exact h1) ?_
  refine lv_aload_n hx hb dL_law_984 rfl (lv_at hl 5 rfl) ?_
  refine lv_iload hx hb dL_law_985 (lv_at hl 1 rfl) ?_
  refine lv_iconst (v := 2) hx hb dL_law_987 (by decide) ?_
  refine lv_iadd hx hb dL_law_988 ?_
  refine z_toi (y := nI (i + 2)) (nI_add i 2) ?_
  refine va_sld hx hb hX0 hb0 hbA hS (vp_in_nI (by omega) (by omega)) dL_law_989 ?_
  refine z_toi (y := (nI r)) (by rw [nI_clamp (by omega)]; exact h2) ?_
  refine z_mi (va_runV (As := [.int (nI w), .int (nI r)]) (rest := []) hfix (zcX5_advise_k l D cI cR H1 (b + 61) tn n g me lo c bf e rd tk w r hM1 hI hZ hw hr1 hr2) (cwV 2 hts gL_law_X5_advise rfl rfl rfl (by decide +kernel) ⟨Nat.le_of_ble_eq_true rfl, Nat.le_of_ble_eq_true rfl⟩) (z_kpreV hKw hK hKq hM1 (ci := 5) (q0 := 0) rfl rfl rfl) rfl rfl hl.1 rfl (lv_room (Nat.le_of_ble_eq_true rfl)) dL_law_990 ⟨by show cells + 0 + 15 ≤ 601024; omega, by show slots + 0 + 208 ≤ 7293033; omega⟩) hS (fun z _ h => by have h9 : zF (b + 61) (b + 61 + 5) z ∨ H1.size ≤ z := h; have h8 := hS.1; show s.heap.size ≤ z; simp only [zF] at h9; omega) (fun z h => by have h9 : zF (b + 61) (b + 61 + 5) z ∨ H1.size ≤ z := h; have h8 := hS.1; show s.heap.size ≤ z; simp only [zF] at h9; omega) (fun H2 lo2 hB hz2 hk2 hS => ?_)
  refine va_forget (fun q h => hS.2.2 q h) ?_
  have hS : va_S (fun q => s.heap.size ≤ q) s.heap H2 [] := ⟨hS.1, hS.2.1, fun z h => absurd h List.not_mem_nil⟩
  obtain ⟨⟨bf2, hM2⟩, hB9⟩ := hB
  have hC2 := zCW_kept hC1 (fun z h1 h2 h3 => hk2 z h1 (fun h4 => by have h9 : zF (b + 61) (b + 61 + 5) z ∨ H1.size ≤ z := h4; simp only [zF] at h9; omega))
  have hO2 := zOb_kept hO1 (fun z h1 h2 h3 => hk2 z h1 (fun h4 => by have h9 : zF (b + 61) (b + 61 + 5) z ∨ H1.size ≤ z := h4; simp only [zF] at h9; omega))
  refine lv_istore (lv' := [(6, .int ((av (vw n me lo c e rd tk g (nI w) r) n).1)), (5, .int 0), (4, .int (nI i)), (3, .ref (b + 66)), (2, .ref (b + 61)), (1, .ref b), (0, .ref b0)]) hx hb dL_law_993 hl (by decide) rfl (fun ls hl => ?_)
  refine lv_aload_n hx hb dL_law_995 rfl (lv_at hl 4 rfl) ?_
  refine z_ki (va_runV (As := []) (rest := []) hfix (zcX5_thrown l D cI H2 _ _ _ _ _ _ _ hM2) (cwV 0 hts gL_law_X5_thrown rfl rfl rfl (by decide +kernel) ⟨Nat.le_of_ble_eq_true rfl, Nat.le_of_ble_eq_true rfl⟩) (z_preV hK hKi hM2 (ci := 5) (q0 := 0) rfl rfl rfl) rfl rfl hl.1 rfl (lv_room (Nat.le_of_ble_eq_true rfl)) dL_law_996 ⟨by show cells + 0 + 15 + 0 ≤ 601024; omega, by show slots + 0 + 208 + 0 ≤ 7293033; omega⟩) ?_
  refine lv_iload hx hb dL_law_999 (lv_at hl 1 rfl) ?_
  refine lv_icmp_eq (tgt := 1006) hx hb dL_law_1001 (by decide) (fun c9 => ?_) (fun c9 => absurd rfl c9)
  refine lv_iload hx hb dL_law_1006 (lv_at hl 1 rfl) ?_
  refine lv_if_ne (tgt := 1023) hx hb dL_law_1008 (by decide) (fun c9 => absurd rfl c9) (fun c9 => ?_)
  refine lv_aload_n hx hb dL_law_1011 rfl (lv_at hl 3 rfl) ?_
  refine lv_iconst (v := 0) hx hb dL_law_1012 (by decide) ?_
  refine va_lald hx hb hK hO2 0 1 rfl rfl (vp_in_nI (n := 0) (by decide) (by decide)) dL_law_1013 ?_
  refine z_tol (y := (((av (vw n me lo c e rd tk g (nI w) r) n).1)).toInt64) (by rfl) ?_
  refine lv_iload hx hb dL_law_1014 (lv_at hl 0 rfl) ?_
  refine lv_i2l (v := (((av (vw n me lo c e rd tk g (nI w) r) n).1)).toInt64) hx hb dL_law_1016 rfl ?_
  refine W.lcmp hx hb dL_law_1017 ?_
  refine z_toi (y := 0) ((lg_cmp_eq _ _).mpr rfl) ?_
  refine lv_if_eq (tgt := 1023) hx hb dL_law_1018 (by decide) (fun c9 => ?_) (fun c9 => absurd rfl c9)
  refine lv_goto (tgt := 1137) hx hb dL_law_1023 (by decide) ?_
  refine W.widen (k := cells + 16) (n := slots + 214) (by omega) (by omega) ?_
  exact kk _ _ _ _ _ _ _ _ _ _ ⟨hC2, ⟨_, hO2⟩, ⟨_, _, hM2⟩, hI, hZ⟩ hS (lv_sub hl [2, 3, 4, 5, 6] rfl)
set_option maxHeartbeats 4000000 in
set_option maxRecDepth 100000 in
/-- zlv_advise_b1 -/
theorem zlv_advise_b1 {pg : Program} {l : Launch} {ev : Env} {s : State} {m : MethodId} {below : List Frame} {meth : Method} {cd : Code} {D : va_G} {cI cL cR : ClassId} {b0 L : Nat} {xs : Nat → Int32} {Q : State → Prop} {H : Heap} {b n : Nat} {me lo : Nat → Int32} {c e : Nat → Nat} {rd tk tn : Int32} {g : zG} {bf : Nat → Int32} {f : Nat → Int64} {i cells slots : Nat} {ls : Array Slot} (hfix : CallFix pg m cd cL_law 9 s #[.ref b0] wsL_law RL) (hK : va_K D vwCl [(cI, .int), (cL, .long), (cR, .array .int)] s) (hKw : zKw s) (hE : zE s.heap.size s) (hlt : l.stackTraces = false) (hX0 : va_X b0 L xs s s.heap) (hb0 : b0 < s.heap.size) (hbs : s.heap.size ≤ b) (hC : zCW D cI b n me lo c e rd tk g H) (hM : va_P D vwCl (zMo cI (b + 61) tn n (jf g me lo c) bf (zn e) (nm rd tk)) H) (hO : va_P D vwCl [(b + 66, .inl (cL, 1, .inr (.inl f)))] H) (hI : zI n me lo c e) (hZ : zJ n g) (hS : va_S (fun q => s.heap.size ≤ q) s.heap H []) (hi : i + 4 ≤ L) (hL : L ≤ 2048) (hcell : cells + 16 ≤ 601024) (hslot : slots + 214 ≤ 7293033) (hl : lv_has ls 9 [(4, .int (nI i)), (3, .ref (b + 66)), (2, .ref (b + 61)), (1, .ref b), (0, .ref b0)]) (kk : zLK pg l ev s m below meth cd D cI cL b0 Q b i cells slots) (x : Int32) (y : Int32) (hx9 : x < 0 ∨ ¬ x ≤ 9999) (h1 : xs (i + 1) = x) (h2 : xs (i + 2) = y) : W pg l ev room_1 s m #[Value.ref b0] below meth cd H [] cells slots Q (F0 m 958 ls []) := by
  obtain ⟨hx, hb, hml, hown, hts⟩ := id hfix
  have hbA : ¬ (fun q : Nat => s.heap.size ≤ q) b0 := Nat.not_le.mpr hb0
  have hKi : va_K D vwCl [(cI, .int)] s := hK.sub [0] rfl
  have hKl : va_K D vwCl [(cI, .int), (cL, .long)] s := hK.sub [0, 1] rfl
  have hKq : va_K D vwCl [(cI, .int), (cR, .array .int)] s := hK.sub [0, 2] rfl
  have hsz := hS.1
  refine lv_aload_n hx hb dL_law_958 rfl (lv_at hl 3 rfl) ?_
  refine lv_aload_n hx hb dL_law_959 rfl (lv_at hl 4 rfl) ?_
  refine lv_iload hx hb dL_law_960 (lv_at hl 0 rfl) ?_
  refine lv_iconst (v := 1) hx hb dL_law_962 (by decide) ?_
  refine lv_iadd hx hb dL_law_963 ?_
  refine z_toi (y := nI (i + 1)) (nI_add i 1) ?_
  refine va_sld hx hb hX0 hb0 hbA hS (vp_in_nI (by omega) (by omega)) dL_law_964 ?_
  refine z_toi (y := x) (by rw [nI_clamp (by omega)]; exact h1) ?_
  refine lv_aload_n hx hb dL_law_965 rfl (lv_at hl 4 rfl) ?_
  refine lv_iload hx hb dL_law_966 (lv_at hl 0 rfl) ?_
  refine lv_iconst (v := 2) hx hb dL_law_968 (by decide) ?_
  refine lv_iadd hx hb dL_law_969 ?_
  refine z_toi (y := nI (i + 2)) (nI_add i 2) ?_
  refine va_sld hx hb hX0 hb0 hbA hS (vp_in_nI (by omega) (by omega)) dL_law_970 ?_
  refine z_toi (y := y) (by rw [nI_clamp (by omega)]; exact h2) ?_
  refine lv_aload_n hx hb dL_law_971 rfl (lv_at hl 1 rfl) ?_
  refine z_mi (vx_runSW (As := [.ref b, .int x, .int y, .ref (b + 66)]) (rest := []) hfix (zcL_advise_b1 l D cI cL H s.heap.size (b + 66) hlt hS.1 b n me lo c e rd tk g x y hC hI hx9) (vx_cwSW 4 hts gL_law_L_advise rfl rfl rfl (by decide +kernel) ⟨Nat.le_of_ble_eq_true rfl, Nat.le_of_ble_eq_true rfl⟩) (z_xpreS hE (fun q h1 h2 => hS.2.1 q h1 h2) hKl) rfl rfl hl.1 rfl (lv_room (Nat.le_of_ble_eq_true rfl)) dL_law_972 ⟨by show cells + 1 ≤ 601024; omega, by show slots + 6 ≤ 7293033; omega⟩) hS (fun z _ h => by have h9 : H.size ≤ z := h; have h8 := hS.1; show s.heap.size ≤ z; omega) (fun z h => by have h9 : H.size ≤ z := h; have h8 := hS.1; show s.heap.size ≤ z; omega) (fun H1 lo1 hB hz1 hk1 hS => ?_)
  refine va_forget (fun q h => hS.2.2 q h) ?_
  have hS : va_S (fun q => s.heap.size ≤ q) s.heap H1 [] := ⟨hS.1, hS.2.1, fun z h => absurd h List.not_mem_nil⟩
  have hM1 := zMo_kept hM (fun z h1 h2 h3 => hk1 z h1 (fun h4 => by have h9 : H.size ≤ z := h4; omega))
  have hC1 := zCW_kept hC (fun z h1 h2 h3 => hk1 z h1 (fun h4 => by have h9 : H.size ≤ z := h4; omega))
  have hO1 := zOb_kept hO (fun z h1 h2 h3 => hk1 z h1 (fun h4 => by have h9 : H.size ≤ z := h4; omega))
  refine lv_istore (lv' := [(5, .int 1), (4, .int (nI i)), (3, .ref (b + 66)), (2, .ref (b + 61)), (1, .ref b), (0, .ref b0)]) hx hb dL_law_975 hl (by decide) rfl (fun ls hl => ?_)
  refine lv_aload_n hx hb dL_law_977 rfl (lv_at hl 3 rfl) ?_
  refine lv_aload_n hx hb dL_law_978 rfl (lv_at hl 5 rfl) ?_
  refine lv_iload hx hb dL_law_979 (lv_at hl 1 rfl) ?_
  refine lv_iconst (v := 1) hx hb dL_law_981 (by decide) ?_
  refine lv_iadd hx hb dL_law_982 ?_
  refine z_toi (y := nI (i + 1)) (nI_add i 1) ?_
  refine va_sld hx hb hX0 hb0 hbA hS (vp_in_nI (by omega) (by omega)) dL_law_983 ?_
  refine z_toi (y := x) (by rw [nI_clamp (by omega)]; exact h1) ?_
  refine lv_aload_n hx hb dL_law_984 rfl (lv_at hl 5 rfl) ?_
  refine lv_iload hx hb dL_law_985 (lv_at hl 1 rfl) ?_
  refine lv_iconst (v := 2) hx hb dL_law_987 (by decide) ?_
  refine lv_iadd hx hb dL_law_988 ?_
  refine z_toi (y := nI (i + 2)) (nI_add i 2) ?_
  refine va_sld hx hb hX0 hb0 hbA hS (vp_in_nI (by omega) (by omega)) dL_law_989 ?_
  refine z_toi (y := y) (by rw [nI_clamp (by omega)]; exact h2) ?_
  refine z_mi (va_runV (As := [.int x, .int y]) (rest := []) hfix (zcX5_advise_b1 l D cI H1 (b + 61) tn n g me lo c bf e rd tk x y hM1 hI hx9) (cwV 2 hts gL_law_X5_advise rfl rfl rfl (by decide +kernel) ⟨Nat.le_of_ble_eq_true rfl, Nat.le_of_ble_eq_true rfl⟩) (z_preV hK hKi hM1 (ci := 5) (q0 := 0) rfl rfl rfl) rfl rfl hl.1 rfl (lv_room (Nat.le_of_ble_eq_true rfl)) dL_law_990 ⟨by show cells + 1 + 0 ≤ 601024; omega, by show slots + 6 + 0 ≤ 7293033; omega⟩) hS (fun z _ h => by have h9 : zF (b + 61) (b + 61 + 5) z := h; have h8 := hS.1; show s.heap.size ≤ z; simp only [zF] at h9; omega) (fun z h => by have h9 : zF (b + 61) (b + 61 + 5) z := h; have h8 := hS.1; show s.heap.size ≤ z; simp only [zF] at h9; omega) (fun H2 lo2 hB hz2 hk2 hS => ?_)
  refine va_forget (fun q h => hS.2.2 q h) ?_
  have hS : va_S (fun q => s.heap.size ≤ q) s.heap H2 [] := ⟨hS.1, hS.2.1, fun z h => absurd h List.not_mem_nil⟩
  obtain ⟨hM2, hB9⟩ := hB
  have hC2 := zCW_kept hC1 (fun z h1 h2 h3 => hk2 z h1 (fun h4 => by have h9 : zF (b + 61) (b + 61 + 5) z := h4; simp only [zF] at h9; omega))
  have hO2 := zOb_kept hO1 (fun z h1 h2 h3 => hk2 z h1 (fun h4 => by have h9 : zF (b + 61) (b + 61 + 5) z := h4; simp only [zF] at h9; omega))
  refine lv_istore (lv' := [(6, .int 0), (5, .int 1), (4, .int (nI i)), (3, .ref (b + 66)), (2, .ref (b + 61)), (1, .ref b), (0, .ref b0)]) hx hb dL_law_993 hl (by decide) rfl (fun ls hl => ?_)
  refine lv_aload_n hx hb dL_law_995 rfl (lv_at hl 4 rfl) ?_
  refine z_ki (va_runV (As := []) (rest := []) hfix (zcX5_thrown l D cI H2 _ _ _ _ _ _ _ hM2) (cwV 0 hts gL_law_X5_thrown rfl rfl rfl (by decide +kernel) ⟨Nat.le_of_ble_eq_true rfl, Nat.le_of_ble_eq_true rfl⟩) (z_preV hK hKi hM2 (ci := 5) (q0 := 0) rfl rfl rfl) rfl rfl hl.1 rfl (lv_room (Nat.le_of_ble_eq_true rfl)) dL_law_996 ⟨by show cells + 1 + 0 + 0 ≤ 601024; omega, by show slots + 6 + 0 + 0 ≤ 7293033; omega⟩) ?_
  refine lv_iload hx hb dL_law_999 (lv_at hl 1 rfl) ?_
  refine lv_icmp_eq (tgt := 1006) hx hb dL_law_1001 (by decide) (fun c9 => ?_) (fun c9 => absurd rfl c9)
  refine lv_iload hx hb dL_law_1006 (lv_at hl 1 rfl) ?_
  refine lv_if_ne (tgt := 1023) hx hb dL_law_1008 (by decide) (fun c9 => ?_) (fun c9 => absurd c9 (by decide))
  refine lv_goto (tgt := 1137) hx hb dL_law_1023 (by decide) ?_
  refine W.widen (k := cells + 16) (n := slots + 214) (by omega) (by omega) ?_
  exact kk _ _ _ _ _ _ _ _ _ _ ⟨hC2, ⟨_, hO2⟩, ⟨_, _, hM2⟩, hI, hZ⟩ hS (lv_sub hl [2, 3, 4, 5, 6] rfl)
set_option maxHeartbeats 4000000 in
set_option maxRecDepth 100000 in
/-- zlv_advise_b2 -/
theorem zlv_advise_b2 {pg : Program} {l : Launch} {ev : Env} {s : State} {m : MethodId} {below : List Frame} {meth : Method} {cd : Code} {D : va_G} {cI cL cR : ClassId} {b0 L : Nat} {xs : Nat → Int32} {Q : State → Prop} {H : Heap} {b n : Nat} {me lo : Nat → Int32} {c e : Nat → Nat} {rd tk tn : Int32} {g : zG} {bf : Nat → Int32} {f : Nat → Int64} {i cells slots : Nat} {ls : Array Slot} (hfix : CallFix pg m cd cL_law 9 s #[.ref b0] wsL_law RL) (hK : va_K D vwCl [(cI, .int), (cL, .long), (cR, .array .int)] s) (hKw : zKw s) (hE : zE s.heap.size s) (hlt : l.stackTraces = false) (hX0 : va_X b0 L xs s s.heap) (hb0 : b0 < s.heap.size) (hbs : s.heap.size ≤ b) (hC : zCW D cI b n me lo c e rd tk g H) (hM : va_P D vwCl (zMo cI (b + 61) tn n (jf g me lo c) bf (zn e) (nm rd tk)) H) (hO : va_P D vwCl [(b + 66, .inl (cL, 1, .inr (.inl f)))] H) (hI : zI n me lo c e) (hZ : zJ n g) (hS : va_S (fun q => s.heap.size ≤ q) s.heap H []) (hi : i + 4 ≤ L) (hL : L ≤ 2048) (hcell : cells + 16 ≤ 601024) (hslot : slots + 214 ≤ 7293033) (hl : lv_has ls 9 [(4, .int (nI i)), (3, .ref (b + 66)), (2, .ref (b + 61)), (1, .ref b), (0, .ref b0)]) (kk : zLK pg l ev s m below meth cd D cI cL b0 Q b i cells slots) (w : Nat) (y : Int32) (hw : w ≤ 9999) (hx9 : y < 1 ∨ ¬ y ≤ 40) (h1 : xs (i + 1) = (nI w)) (h2 : xs (i + 2) = y) : W pg l ev room_1 s m #[Value.ref b0] below meth cd H [] cells slots Q (F0 m 958 ls []) := by
  obtain ⟨hx, hb, hml, hown, hts⟩ := id hfix
  have hbA : ¬ (fun q : Nat => s.heap.size ≤ q) b0 := Nat.not_le.mpr hb0
  have hKi : va_K D vwCl [(cI, .int)] s := hK.sub [0] rfl
  have hKl : va_K D vwCl [(cI, .int), (cL, .long)] s := hK.sub [0, 1] rfl
  have hKq : va_K D vwCl [(cI, .int), (cR, .array .int)] s := hK.sub [0, 2] rfl
  have hsz := hS.1
  refine lv_aload_n hx hb dL_law_958 rfl (lv_at hl 3 rfl) ?_
  refine lv_aload_n hx hb dL_law_959 rfl (lv_at hl 4 rfl) ?_
  refine lv_iload hx hb dL_law_960 (lv_at hl 0 rfl) ?_
  refine lv_iconst (v := 1) hx hb dL_law_962 (by decide) ?_
  refine lv_iadd hx hb dL_law_963 ?_
  refine z_toi (y := nI (i + 1)) (nI_add i 1) ?_
  refine va_sld hx hb hX0 hb0 hbA hS (vp_in_nI (by omega) (by omega)) dL_law_964 ?_
  refine z_toi (y := (nI w)) (by rw [nI_clamp (by omega)]; exact h1) ?_
  refine lv_aload_n hx hb dL_law_965 rfl (lv_at hl 4 rfl) ?_
  refine lv_iload hx hb dL_law_966 (lv_at hl 0 rfl) ?_
  refine lv_iconst (v := 2) hx hb dL_law_968 (by decide) ?_
  refine lv_iadd hx hb dL_law_969 ?_
  refine z_toi (y := nI (i + 2)) (nI_add i 2) ?_
  refine va_sld hx hb hX0 hb0 hbA hS (vp_in_nI (by omega) (by omega)) dL_law_970 ?_
  refine z_toi (y := y) (by rw [nI_clamp (by omega)]; exact h2) ?_
  refine lv_aload_n hx hb dL_law_971 rfl (lv_at hl 1 rfl) ?_
  refine z_mi (vx_runSW (As := [.ref b, .int (nI w), .int y, .ref (b + 66)]) (rest := []) hfix (zcL_advise_b2 l D cI cL H s.heap.size (b + 66) hlt hS.1 b n me lo c e rd tk g w y hC hI hw hx9) (vx_cwSW 4 hts gL_law_L_advise rfl rfl rfl (by decide +kernel) ⟨Nat.le_of_ble_eq_true rfl, Nat.le_of_ble_eq_true rfl⟩) (z_xpreS hE (fun q h1 h2 => hS.2.1 q h1 h2) hKl) rfl rfl hl.1 rfl (lv_room (Nat.le_of_ble_eq_true rfl)) dL_law_972 ⟨by show cells + 1 ≤ 601024; omega, by show slots + 6 ≤ 7293033; omega⟩) hS (fun z _ h => by have h9 : H.size ≤ z := h; have h8 := hS.1; show s.heap.size ≤ z; omega) (fun z h => by have h9 : H.size ≤ z := h; have h8 := hS.1; show s.heap.size ≤ z; omega) (fun H1 lo1 hB hz1 hk1 hS => ?_)
  refine va_forget (fun q h => hS.2.2 q h) ?_
  have hS : va_S (fun q => s.heap.size ≤ q) s.heap H1 [] := ⟨hS.1, hS.2.1, fun z h => absurd h List.not_mem_nil⟩
  have hM1 := zMo_kept hM (fun z h1 h2 h3 => hk1 z h1 (fun h4 => by have h9 : H.size ≤ z := h4; omega))
  have hC1 := zCW_kept hC (fun z h1 h2 h3 => hk1 z h1 (fun h4 => by have h9 : H.size ≤ z := h4; omega))
  have hO1 := zOb_kept hO (fun z h1 h2 h3 => hk1 z h1 (fun h4 => by have h9 : H.size ≤ z := h4; omega))
  refine lv_istore (lv' := [(5, .int 1), (4, .int (nI i)), (3, .ref (b + 66)), (2, .ref (b + 61)), (1, .ref b), (0, .ref b0)]) hx hb dL_law_975 hl (by decide) rfl (fun ls hl => ?_)
  refine lv_aload_n hx hb dL_law_977 rfl (lv_at hl 3 rfl) ?_
  refine lv_aload_n hx hb dL_law_978 rfl (lv_at hl 5 rfl) ?_
  refine lv_iload hx hb dL_law_979 (lv_at hl 1 rfl) ?_
  refine lv_iconst (v := 1) hx hb dL_law_981 (by decide) ?_
  refine lv_iadd hx hb dL_law_982 ?_
  refine z_toi (y := nI (i + 1)) (nI_add i 1) ?_
  refine va_sld hx hb hX0 hb0 hbA hS (vp_in_nI (by omega) (by omega)) dL_law_983 ?_
  refine z_toi (y := (nI w)) (by rw [nI_clamp (by omega)]; exact h1) ?_
  refine lv_aload_n hx hb dL_law_984 rfl (lv_at hl 5 rfl) ?_
  refine lv_iload hx hb dL_law_985 (lv_at hl 1 rfl) ?_
  refine lv_iconst (v := 2) hx hb dL_law_987 (by decide) ?_
  refine lv_iadd hx hb dL_law_988 ?_
  refine z_toi (y := nI (i + 2)) (nI_add i 2) ?_
  refine va_sld hx hb hX0 hb0 hbA hS (vp_in_nI (by omega) (by omega)) dL_law_989 ?_
  refine z_toi (y := y) (by rw [nI_clamp (by omega)]; exact h2) ?_
  refine z_mi (va_runV (As := [.int (nI w), .int y]) (rest := []) hfix (zcX5_advise_b2 l D cI H1 (b + 61) tn n g me lo c bf e rd tk w y hM1 hI hw hx9) (cwV 2 hts gL_law_X5_advise rfl rfl rfl (by decide +kernel) ⟨Nat.le_of_ble_eq_true rfl, Nat.le_of_ble_eq_true rfl⟩) (z_preV hK hKi hM1 (ci := 5) (q0 := 0) rfl rfl rfl) rfl rfl hl.1 rfl (lv_room (Nat.le_of_ble_eq_true rfl)) dL_law_990 ⟨by show cells + 1 + 0 ≤ 601024; omega, by show slots + 6 + 0 ≤ 7293033; omega⟩) hS (fun z _ h => by have h9 : zF (b + 61) (b + 61 + 5) z := h; have h8 := hS.1; show s.heap.size ≤ z; simp only [zF] at h9; omega) (fun z h => by have h9 : zF (b + 61) (b + 61 + 5) z := h; have h8 := hS.1; show s.heap.size ≤ z; simp only [zF] at h9; omega) (fun H2 lo2 hB hz2 hk2 hS => ?_)
  refine va_forget (fun q h => hS.2.2 q h) ?_
  have hS : va_S (fun q => s.heap.size ≤ q) s.heap H2 [] := ⟨hS.1, hS.2.1, fun z h => absurd h List.not_mem_nil⟩
  obtain ⟨hM2, hB9⟩ := hB
  have hC2 := zCW_kept hC1 (fun z h1 h2 h3 => hk2 z h1 (fun h4 => by have h9 : zF (b + 61) (b + 61 + 5) z := h4; simp only [zF] at h9; omega))
  have hO2 := zOb_kept hO1 (fun z h1 h2 h3 => hk2 z h1 (fun h4 => by have h9 : zF (b + 61) (b + 61 + 5) z := h4; simp only [zF] at h9; omega))
  refine lv_istore (lv' := [(6, .int 0), (5, .int 1), (4, .int (nI i)), (3, .ref (b + 66)), (2, .ref (b + 61)), (1, .ref b), (0, .ref b0)]) hx hb dL_law_993 hl (by decide) rfl (fun ls hl => ?_)
  refine lv_aload_n hx hb dL_law_995 rfl (lv_at hl 4 rfl) ?_
  refine z_ki (va_runV (As := []) (rest := []) hfix (zcX5_thrown l D cI H2 _ _ _ _ _ _ _ hM2) (cwV 0 hts gL_law_X5_thrown rfl rfl rfl (by decide +kernel) ⟨Nat.le_of_ble_eq_true rfl, Nat.le_of_ble_eq_true rfl⟩) (z_preV hK hKi hM2 (ci := 5) (q0 := 0) rfl rfl rfl) rfl rfl hl.1 rfl (lv_room (Nat.le_of_ble_eq_true rfl)) dL_law_996 ⟨by show cells + 1 + 0 + 0 ≤ 601024; omega, by show slots + 6 + 0 + 0 ≤ 7293033; omega⟩) ?_
  refine lv_iload hx hb dL_law_999 (lv_at hl 1 rfl) ?_
  refine lv_icmp_eq (tgt := 1006) hx hb dL_law_1001 (by decide) (fun c9 => ?_) (fun c9 => absurd rfl c9)
  refine lv_iload hx hb dL_law_1006 (lv_at hl 1 rfl) ?_
  refine lv_if_ne (tgt := 1023) hx hb dL_law_1008 (by decide) (fun c9 => ?_) (fun c9 => absurd c9 (by decide))
  refine lv_goto (tgt := 1137) hx hb dL_law_1023 (by decide) ?_
  refine W.widen (k := cells + 16) (n := slots + 214) (by omega) (by omega) ?_
  exact kk _ _ _ _ _ _ _ _ _ _ ⟨hC2, ⟨_, hO2⟩, ⟨_, _, hM2⟩, hI, hZ⟩ hS (lv_sub hl [2, 3, 4, 5, 6] rfl)
set_option maxHeartbeats 4000000 in
set_option maxRecDepth 100000 in
/-- zlv_source_ok -/
theorem zlv_source_ok {pg : Program} {l : Launch} {ev : Env} {s : State} {m : MethodId} {below : List Frame} {meth : Method} {cd : Code} {D : va_G} {cI cL cR : ClassId} {b0 L : Nat} {xs : Nat → Int32} {Q : State → Prop} {H : Heap} {b n : Nat} {me lo : Nat → Int32} {c e : Nat → Nat} {rd tk tn : Int32} {g : zG} {bf : Nat → Int32} {f : Nat → Int64} {i cells slots : Nat} {ls : Array Slot} (hfix : CallFix pg m cd cL_law 9 s #[.ref b0] wsL_law RL) (hK : va_K D vwCl [(cI, .int), (cL, .long), (cR, .array .int)] s) (hKw : zKw s) (hE : zE s.heap.size s) (hlt : l.stackTraces = false) (hX0 : va_X b0 L xs s s.heap) (hb0 : b0 < s.heap.size) (hbs : s.heap.size ≤ b) (hC : zCW D cI b n me lo c e rd tk g H) (hM : va_P D vwCl (zMo cI (b + 61) tn n (jf g me lo c) bf (zn e) (nm rd tk)) H) (hO : va_P D vwCl [(b + 66, .inl (cL, 1, .inr (.inl f)))] H) (hI : zI n me lo c e) (hZ : zJ n g) (hS : va_S (fun q => s.heap.size ≤ q) s.heap H []) (hi : i + 4 ≤ L) (hL : L ≤ 2048) (hcell : cells + 16 ≤ 601024) (hslot : slots + 214 ≤ 7293033) (hl : lv_has ls 9 [(4, .int (nI i)), (3, .ref (b + 66)), (2, .ref (b + 61)), (1, .ref b), (0, .ref b0)]) (kk : zLK pg l ev s m below meth cd D cI cL b0 Q b i cells slots) (p : Nat) (hp : p < n) (h1 : xs (i + 1) = (nI p)) : W pg l ev room_1 s m #[Value.ref b0] below meth cd H [] cells slots Q (F0 m 1026 ls []) := by
  obtain ⟨hx, hb, hml, hown, hts⟩ := id hfix
  have hbA : ¬ (fun q : Nat => s.heap.size ≤ q) b0 := Nat.not_le.mpr hb0
  have hKi : va_K D vwCl [(cI, .int)] s := hK.sub [0] rfl
  have hKl : va_K D vwCl [(cI, .int), (cL, .long)] s := hK.sub [0, 1] rfl
  have hKq : va_K D vwCl [(cI, .int), (cR, .array .int)] s := hK.sub [0, 2] rfl
  have hsz := hS.1
  refine lv_aload_n hx hb dL_law_1026 rfl (lv_at hl 3 rfl) ?_
  refine lv_aload_n hx hb dL_law_1027 rfl (lv_at hl 4 rfl) ?_
  refine lv_iload hx hb dL_law_1028 (lv_at hl 0 rfl) ?_
  refine lv_iconst (v := 1) hx hb dL_law_1030 (by decide) ?_
  refine lv_iadd hx hb dL_law_1031 ?_
  refine z_toi (y := nI (i + 1)) (nI_add i 1) ?_
  refine va_sld hx hb hX0 hb0 hbA hS (vp_in_nI (by omega) (by omega)) dL_law_1032 ?_
  refine z_toi (y := (nI p)) (by rw [nI_clamp (by omega)]; exact h1) ?_
  refine lv_aload_n hx hb dL_law_1033 rfl (lv_at hl 1 rfl) ?_
  refine z_mi (vx_runSW (As := [.ref b, .int (nI p), .ref (b + 66)]) (rest := []) hfix (zcL_source_k l D cI cL H s.heap.size (b + 66) f b n me lo c e rd tk g p hC hI hp hO (by omega)) (vx_cwSW 3 hts gL_law_L_source rfl rfl rfl (by decide +kernel) ⟨Nat.le_of_ble_eq_true rfl, Nat.le_of_ble_eq_true rfl⟩) (z_xpreS hE (fun q h1 h2 => hS.2.1 q h1 h2) hKl) rfl rfl hl.1 rfl (lv_room (Nat.le_of_ble_eq_true rfl)) dL_law_1034 ⟨by show cells + 0 ≤ 601024; omega, by show slots + 0 ≤ 7293033; omega⟩) hS (fun z _ h => by have h9 : zF b (b + 61) z ∨ @Eq Nat z (b + 66) := h; have h8 := hS.1; show s.heap.size ≤ z; simp only [zF] at h9; omega) (fun z h => by have h9 : zF b (b + 61) z ∨ @Eq Nat z (b + 66) := h; have h8 := hS.1; show s.heap.size ≤ z; simp only [zF] at h9; omega) (fun H1 lo1 hB hz1 hk1 hS => ?_)
  refine va_forget (fun q h => hS.2.2 q h) ?_
  have hS : va_S (fun q => s.heap.size ≤ q) s.heap H1 [] := ⟨hS.1, hS.2.1, fun z h => absurd h List.not_mem_nil⟩
  have hM1 := zMo_kept hM (fun z h1 h2 h3 => hk1 z h1 (fun h4 => by have h9 : zF b (b + 61) z ∨ @Eq Nat z (b + 66) := h4; simp only [zF] at h9; omega))
  have hC1 := hB.1
  have hO1 := hB.2.1
  refine lv_istore (lv' := [(5, .int 0), (4, .int (nI i)), (3, .ref (b + 66)), (2, .ref (b + 61)), (1, .ref b), (0, .ref b0)]) hx hb dL_law_1037 hl (by decide) rfl (fun ls hl => ?_)
  refine lv_aload_n hx hb dL_law_1039 rfl (lv_at hl 3 rfl) ?_
  refine lv_aload_n hx hb dL_law_1040 rfl (lv_at hl 5 rfl) ?_
  refine lv_iload hx hb dL_law_1041 (lv_at hl 1 rfl) ?_
  refine lv_iconst (v := 1) hx hb dL_law_1043 (by decide) ?_
  refine lv_iadd hx hb dL_law_1044 ?_
  refine z_toi (y := nI (i + 1)) (nI_add i 1) ?_
  refine va_sld hx hb hX0 hb0 hbA hS (vp_in_nI (by omega) (by omega)) dL_law_1045 ?_
  refine z_toi (y := (nI p)) (by rw [nI_clamp (by omega)]; exact h1) ?_
  refine z_mi (va_runV (As := [.int (nI p)]) (rest := []) hfix (zcX5_source_k l D cI H1 (b + 61) tn n g me lo c bf e rd tk p hM1 hI hp) (cwV 1 hts gL_law_X5_source rfl rfl rfl (by decide +kernel) ⟨Nat.le_of_ble_eq_true rfl, Nat.le_of_ble_eq_true rfl⟩) (z_preV hK hKi hM1 (ci := 5) (q0 := 0) rfl rfl rfl) rfl rfl hl.1 rfl (lv_room (Nat.le_of_ble_eq_true rfl)) dL_law_1046 ⟨by show cells + 0 + 0 ≤ 601024; omega, by show slots + 0 + 0 ≤ 7293033; omega⟩) hS (fun z _ h => by have h9 : zF (b + 61) (b + 61 + 5) z := h; have h8 := hS.1; show s.heap.size ≤ z; simp only [zF] at h9; omega) (fun z h => by have h9 : zF (b + 61) (b + 61 + 5) z := h; have h8 := hS.1; show s.heap.size ≤ z; simp only [zF] at h9; omega) (fun H2 lo2 hB hz2 hk2 hS => ?_)
  refine va_forget (fun q h => hS.2.2 q h) ?_
  have hS : va_S (fun q => s.heap.size ≤ q) s.heap H2 [] := ⟨hS.1, hS.2.1, fun z h => absurd h List.not_mem_nil⟩
  obtain ⟨hM2, hB9⟩ := hB
  have hC2 := zCW_kept hC1 (fun z h1 h2 h3 => hk2 z h1 (fun h4 => by have h9 : zF (b + 61) (b + 61 + 5) z := h4; simp only [zF] at h9; omega))
  have hO2 := zOb_kept hO1 (fun z h1 h2 h3 => hk2 z h1 (fun h4 => by have h9 : zF (b + 61) (b + 61 + 5) z := h4; simp only [zF] at h9; omega))
  refine lv_istore (lv' := [(6, .int (fd n c e (os e p (c p)) 12)), (5, .int 0), (4, .int (nI i)), (3, .ref (b + 66)), (2, .ref (b + 61)), (1, .ref b), (0, .ref b0)]) hx hb dL_law_1049 hl (by decide) rfl (fun ls hl => ?_)
  refine lv_aload_n hx hb dL_law_1051 rfl (lv_at hl 4 rfl) ?_
  refine z_ki (va_runV (As := []) (rest := []) hfix (zcX5_thrown l D cI H2 _ _ _ _ _ _ _ hM2) (cwV 0 hts gL_law_X5_thrown rfl rfl rfl (by decide +kernel) ⟨Nat.le_of_ble_eq_true rfl, Nat.le_of_ble_eq_true rfl⟩) (z_preV hK hKi hM2 (ci := 5) (q0 := 0) rfl rfl rfl) rfl rfl hl.1 rfl (lv_room (Nat.le_of_ble_eq_true rfl)) dL_law_1052 ⟨by show cells + 0 + 0 + 0 ≤ 601024; omega, by show slots + 0 + 0 + 0 ≤ 7293033; omega⟩) ?_
  refine lv_iload hx hb dL_law_1055 (lv_at hl 1 rfl) ?_
  refine lv_icmp_eq (tgt := 1062) hx hb dL_law_1057 (by decide) (fun c9 => ?_) (fun c9 => absurd rfl c9)
  refine lv_iload hx hb dL_law_1062 (lv_at hl 1 rfl) ?_
  refine lv_if_ne (tgt := 1079) hx hb dL_law_1064 (by decide) (fun c9 => absurd rfl c9) (fun c9 => ?_)
  refine lv_aload_n hx hb dL_law_1067 rfl (lv_at hl 3 rfl) ?_
  refine lv_iconst (v := 0) hx hb dL_law_1068 (by decide) ?_
  refine va_lald hx hb hK hO2 0 1 rfl rfl (vp_in_nI (n := 0) (by decide) (by decide)) dL_law_1069 ?_
  refine z_tol (y := ((fd n c e (os e p (c p)) 12)).toInt64) (by rfl) ?_
  refine lv_iload hx hb dL_law_1070 (lv_at hl 0 rfl) ?_
  refine lv_i2l (v := ((fd n c e (os e p (c p)) 12)).toInt64) hx hb dL_law_1072 rfl ?_
  refine W.lcmp hx hb dL_law_1073 ?_
  refine z_toi (y := 0) ((lg_cmp_eq _ _).mpr rfl) ?_
  refine lv_if_eq (tgt := 1079) hx hb dL_law_1074 (by decide) (fun c9 => ?_) (fun c9 => absurd rfl c9)
  refine lv_goto (tgt := 1137) hx hb dL_law_1079 (by decide) ?_
  refine W.widen (k := cells + 16) (n := slots + 214) (by omega) (by omega) ?_
  exact kk _ _ _ _ _ _ _ _ _ _ ⟨hC2, ⟨_, hO2⟩, ⟨_, _, hM2⟩, hI, hZ⟩ hS (lv_sub hl [2, 3, 4, 5, 6] rfl)
set_option maxHeartbeats 4000000 in
set_option maxRecDepth 100000 in
/-- zlv_source_b1 -/
theorem zlv_source_b1 {pg : Program} {l : Launch} {ev : Env} {s : State} {m : MethodId} {below : List Frame} {meth : Method} {cd : Code} {D : va_G} {cI cL cR : ClassId} {b0 L : Nat} {xs : Nat → Int32} {Q : State → Prop} {H : Heap} {b n : Nat} {me lo : Nat → Int32} {c e : Nat → Nat} {rd tk tn : Int32} {g : zG} {bf : Nat → Int32} {f : Nat → Int64} {i cells slots : Nat} {ls : Array Slot} (hfix : CallFix pg m cd cL_law 9 s #[.ref b0] wsL_law RL) (hK : va_K D vwCl [(cI, .int), (cL, .long), (cR, .array .int)] s) (hKw : zKw s) (hE : zE s.heap.size s) (hlt : l.stackTraces = false) (hX0 : va_X b0 L xs s s.heap) (hb0 : b0 < s.heap.size) (hbs : s.heap.size ≤ b) (hC : zCW D cI b n me lo c e rd tk g H) (hM : va_P D vwCl (zMo cI (b + 61) tn n (jf g me lo c) bf (zn e) (nm rd tk)) H) (hO : va_P D vwCl [(b + 66, .inl (cL, 1, .inr (.inl f)))] H) (hI : zI n me lo c e) (hZ : zJ n g) (hS : va_S (fun q => s.heap.size ≤ q) s.heap H []) (hi : i + 4 ≤ L) (hL : L ≤ 2048) (hcell : cells + 16 ≤ 601024) (hslot : slots + 214 ≤ 7293033) (hl : lv_has ls 9 [(4, .int (nI i)), (3, .ref (b + 66)), (2, .ref (b + 61)), (1, .ref b), (0, .ref b0)]) (kk : zLK pg l ev s m below meth cd D cI cL b0 Q b i cells slots) (x : Int32) (hx9 : ¬ ∃ j, j < n ∧ x = nI j) (h1 : xs (i + 1) = x) : W pg l ev room_1 s m #[Value.ref b0] below meth cd H [] cells slots Q (F0 m 1026 ls []) := by
  obtain ⟨hx, hb, hml, hown, hts⟩ := id hfix
  have hbA : ¬ (fun q : Nat => s.heap.size ≤ q) b0 := Nat.not_le.mpr hb0
  have hKi : va_K D vwCl [(cI, .int)] s := hK.sub [0] rfl
  have hKl : va_K D vwCl [(cI, .int), (cL, .long)] s := hK.sub [0, 1] rfl
  have hKq : va_K D vwCl [(cI, .int), (cR, .array .int)] s := hK.sub [0, 2] rfl
  have hsz := hS.1
  refine lv_aload_n hx hb dL_law_1026 rfl (lv_at hl 3 rfl) ?_
  refine lv_aload_n hx hb dL_law_1027 rfl (lv_at hl 4 rfl) ?_
  refine lv_iload hx hb dL_law_1028 (lv_at hl 0 rfl) ?_
  refine lv_iconst (v := 1) hx hb dL_law_1030 (by decide) ?_
  refine lv_iadd hx hb dL_law_1031 ?_
  refine z_toi (y := nI (i + 1)) (nI_add i 1) ?_
  refine va_sld hx hb hX0 hb0 hbA hS (vp_in_nI (by omega) (by omega)) dL_law_1032 ?_
  refine z_toi (y := x) (by rw [nI_clamp (by omega)]; exact h1) ?_
  refine lv_aload_n hx hb dL_law_1033 rfl (lv_at hl 1 rfl) ?_
  refine z_mi (vx_runSW (As := [.ref b, .int x, .ref (b + 66)]) (rest := []) hfix (zcL_source_b1 l D cI cL H s.heap.size (b + 66) hlt hS.1 b n me lo c e rd tk g x hC hI hx9) (vx_cwSW 3 hts gL_law_L_source rfl rfl rfl (by decide +kernel) ⟨Nat.le_of_ble_eq_true rfl, Nat.le_of_ble_eq_true rfl⟩) (z_xpreS hE (fun q h1 h2 => hS.2.1 q h1 h2) hKl) rfl rfl hl.1 rfl (lv_room (Nat.le_of_ble_eq_true rfl)) dL_law_1034 ⟨by show cells + 1 ≤ 601024; omega, by show slots + 6 ≤ 7293033; omega⟩) hS (fun z _ h => by have h9 : H.size ≤ z := h; have h8 := hS.1; show s.heap.size ≤ z; omega) (fun z h => by have h9 : H.size ≤ z := h; have h8 := hS.1; show s.heap.size ≤ z; omega) (fun H1 lo1 hB hz1 hk1 hS => ?_)
  refine va_forget (fun q h => hS.2.2 q h) ?_
  have hS : va_S (fun q => s.heap.size ≤ q) s.heap H1 [] := ⟨hS.1, hS.2.1, fun z h => absurd h List.not_mem_nil⟩
  have hM1 := zMo_kept hM (fun z h1 h2 h3 => hk1 z h1 (fun h4 => by have h9 : H.size ≤ z := h4; omega))
  have hC1 := zCW_kept hC (fun z h1 h2 h3 => hk1 z h1 (fun h4 => by have h9 : H.size ≤ z := h4; omega))
  have hO1 := zOb_kept hO (fun z h1 h2 h3 => hk1 z h1 (fun h4 => by have h9 : H.size ≤ z := h4; omega))
  refine lv_istore (lv' := [(5, .int 1), (4, .int (nI i)), (3, .ref (b + 66)), (2, .ref (b + 61)), (1, .ref b), (0, .ref b0)]) hx hb dL_law_1037 hl (by decide) rfl (fun ls hl => ?_)
  refine lv_aload_n hx hb dL_law_1039 rfl (lv_at hl 3 rfl) ?_
  refine lv_aload_n hx hb dL_law_1040 rfl (lv_at hl 5 rfl) ?_
  refine lv_iload hx hb dL_law_1041 (lv_at hl 1 rfl) ?_
  refine lv_iconst (v := 1) hx hb dL_law_1043 (by decide) ?_
  refine lv_iadd hx hb dL_law_1044 ?_
  refine z_toi (y := nI (i + 1)) (nI_add i 1) ?_
  refine va_sld hx hb hX0 hb0 hbA hS (vp_in_nI (by omega) (by omega)) dL_law_1045 ?_
  refine z_toi (y := x) (by rw [nI_clamp (by omega)]; exact h1) ?_
  refine z_mi (va_runV (As := [.int x]) (rest := []) hfix (zcX5_source_b1 l D cI H1 (b + 61) tn n g me lo c bf e rd tk x hM1 hI hx9) (cwV 1 hts gL_law_X5_source rfl rfl rfl (by decide +kernel) ⟨Nat.le_of_ble_eq_true rfl, Nat.le_of_ble_eq_true rfl⟩) (z_preV hK hKi hM1 (ci := 5) (q0 := 0) rfl rfl rfl) rfl rfl hl.1 rfl (lv_room (Nat.le_of_ble_eq_true rfl)) dL_law_1046 ⟨by show cells + 1 + 0 ≤ 601024; omega, by show slots + 6 + 0 ≤ 7293033; omega⟩) hS (fun z _ h => by have h9 : zF (b + 61) (b + 61 + 5) z := h; have h8 := hS.1; show s.heap.size ≤ z; simp only [zF] at h9; omega) (fun z h => by have h9 : zF (b + 61) (b + 61 + 5) z := h; have h8 := hS.1; show s.heap.size ≤ z; simp only [zF] at h9; omega) (fun H2 lo2 hB hz2 hk2 hS => ?_)
  refine va_forget (fun q h => hS.2.2 q h) ?_
  have hS : va_S (fun q => s.heap.size ≤ q) s.heap H2 [] := ⟨hS.1, hS.2.1, fun z h => absurd h List.not_mem_nil⟩
  obtain ⟨hM2, hB9⟩ := hB
  have hC2 := zCW_kept hC1 (fun z h1 h2 h3 => hk2 z h1 (fun h4 => by have h9 : zF (b + 61) (b + 61 + 5) z := h4; simp only [zF] at h9; omega))
  have hO2 := zOb_kept hO1 (fun z h1 h2 h3 => hk2 z h1 (fun h4 => by have h9 : zF (b + 61) (b + 61 + 5) z := h4; simp only [zF] at h9; omega))
  refine lv_istore (lv' := [(6, .int 0), (5, .int 1), (4, .int (nI i)), (3, .ref (b + 66)), (2, .ref (b + 61)), (1, .ref b), (0, .ref b0)]) hx hb dL_law_1049 hl (by decide) rfl (fun ls hl => ?_)
  refine lv_aload_n hx hb dL_law_1051 rfl (lv_at hl 4 rfl) ?_
  refine z_ki (va_runV (As := []) (rest := []) hfix (zcX5_thrown l D cI H2 _ _ _ _ _ _ _ hM2) (cwV 0 hts gL_law_X5_thrown rfl rfl rfl (by decide +kernel) ⟨Nat.le_of_ble_eq_true rfl, Nat.le_of_ble_eq_true rfl⟩) (z_preV hK hKi hM2 (ci := 5) (q0 := 0) rfl rfl rfl) rfl rfl hl.1 rfl (lv_room (Nat.le_of_ble_eq_true rfl)) dL_law_1052 ⟨by show cells + 1 + 0 + 0 ≤ 601024; omega, by show slots + 6 + 0 + 0 ≤ 7293033; omega⟩) ?_
  refine lv_iload hx hb dL_law_1055 (lv_at hl 1 rfl) ?_
  refine lv_icmp_eq (tgt := 1062) hx hb dL_law_1057 (by decide) (fun c9 => ?_) (fun c9 => absurd rfl c9)
  refine lv_iload hx hb dL_law_1062 (lv_at hl 1 rfl) ?_
  refine lv_if_ne (tgt := 1079) hx hb dL_law_1064 (by decide) (fun c9 => ?_) (fun c9 => absurd c9 (by decide))
  refine lv_goto (tgt := 1137) hx hb dL_law_1079 (by decide) ?_
  refine W.widen (k := cells + 16) (n := slots + 214) (by omega) (by omega) ?_
  exact kk _ _ _ _ _ _ _ _ _ _ ⟨hC2, ⟨_, hO2⟩, ⟨_, _, hM2⟩, hI, hZ⟩ hS (lv_sub hl [2, 3, 4, 5, 6] rfl)
set_option maxHeartbeats 4000000 in
set_option maxRecDepth 100000 in
theorem zlv_verdict_ok {pg : Program} {l : Launch} {ev : Env} {s : State} {m : MethodId} {below : List Frame} {meth : Method} {cd : Code} {D : va_G} {cI cL cR : ClassId} {b0 L : Nat} {xs : Nat → Int32} {Q : State → Prop} {H : Heap} {b n : Nat} {me lo : Nat → Int32} {c e : Nat → Nat} {rd tk tn : Int32} {g : zG} {bf : Nat → Int32} {f : Nat → Int64} {i cells slots : Nat} {ls : Array Slot} (hfix : CallFix pg m cd cL_law 9 s #[.ref b0] wsL_law RL) (hK : va_K D vwCl [(cI, .int), (cL, .long), (cR, .array .int)] s) (hKw : zKw s) (hE : zE s.heap.size s) (hlt : l.stackTraces = false) (hX0 : va_X b0 L xs s s.heap) (hb0 : b0 < s.heap.size) (hbs : s.heap.size ≤ b) (hC : zCW D cI b n me lo c e rd tk g H) (hM : va_P D vwCl (zMo cI (b + 61) tn n (jf g me lo c) bf (zn e) (nm rd tk)) H) (hO : va_P D vwCl [(b + 66, .inl (cL, 1, .inr (.inl f)))] H) (hI : zI n me lo c e) (hZ : zJ n g) (hS : va_S (fun q => s.heap.size ≤ q) s.heap H []) (hi : i + 4 ≤ L) (hL : L ≤ 2048) (hcell : cells + 16 ≤ 601024) (hslot : slots + 214 ≤ 7293033) (hl : lv_has ls 9 [(4, .int (nI i)), (3, .ref (b + 66)), (2, .ref (b + 61)), (1, .ref b), (0, .ref b0)]) (kk : zLK pg l ev s m below meth cd D cI cL b0 Q b i cells slots) : W pg l ev room_1 s m #[Value.ref b0] below meth cd H [] cells slots Q (F0 m 696 ls []) := by
  obtain ⟨hx, hb, hml, hown, hts⟩ := id hfix
  have hbA : ¬ (fun q : Nat => s.heap.size ≤ q) b0 := Nat.not_le.mpr hb0
  have hKi : va_K D vwCl [(cI, .int)] s := hK.sub [0] rfl
  have hKl : va_K D vwCl [(cI, .int), (cL, .long)] s := hK.sub [0, 1] rfl
  have hKq : va_K D vwCl [(cI, .int), (cR, .array .int)] s := hK.sub [0, 2] rfl
  have hsz := hS.1
  obtain ⟨hJ, hW, hT, hTa, hTb⟩ := id hC
  refine lv_aload_n hx hb dL_law_696 rfl (lv_at hl 3 rfl) ?_
  refine z_ki (va_runV (As := []) (rest := []) hfix (zcX4_verdict l D cI H b n me lo c e rd tk g hJ hW hT hI) (cwV 0 hts gL_law_X4_verdict rfl rfl rfl (by decide +kernel) ⟨Nat.le_of_ble_eq_true rfl, Nat.le_of_ble_eq_true rfl⟩) (z_preV hK hKi hJ (ci := 4) (q0 := 0) rfl rfl rfl) rfl rfl hl.1 rfl (lv_room (Nat.le_of_ble_eq_true rfl)) dL_law_697 ⟨by show cells + 0 ≤ 601024; omega, by show slots + 0 ≤ 7293033; omega⟩) ?_
  refine lv_aload_n hx hb dL_law_700 rfl (lv_at hl 2 rfl) ?_
  refine z_mi (va_runV (As := []) (rest := [.int (zw (vd g n n))]) hfix (zcX5_verdict_k l D cI H (b + 61) tn n g me lo c bf e rd tk  hM hI hZ) (cwV 0 hts gL_law_X5_verdict rfl rfl rfl (by decide +kernel) ⟨Nat.le_of_ble_eq_true rfl, Nat.le_of_ble_eq_true rfl⟩) (z_preV hK hKi hM (ci := 5) (q0 := 0) rfl rfl rfl) rfl rfl hl.1 rfl (lv_room (Nat.le_of_ble_eq_true rfl)) dL_law_701 ⟨by show cells + 0 ≤ 601024; omega, by show slots + 0 ≤ 7293033; omega⟩) hS (fun z _ h => by have h9 : zF (b + 61) (b + 61 + 5) z := h; have h8 := hS.1; show s.heap.size ≤ z; simp only [zF] at h9; omega) (fun z h => by have h9 : zF (b + 61) (b + 61 + 5) z := h; have h8 := hS.1; show s.heap.size ≤ z; simp only [zF] at h9; omega) (fun H2 lo2 hB hz2 hk2 hS => ?_)
  refine va_forget (fun q h => hS.2.2 q h) ?_
  have hS : va_S (fun q => s.heap.size ≤ q) s.heap H2 [] := ⟨hS.1, hS.2.1, fun z h => absurd h List.not_mem_nil⟩
  obtain ⟨hM2, hB9⟩ := hB
  have hC2 := zCW_kept hC (fun z h1 h2 h3 => hk2 z h1 (fun h4 => by have h9 : zF (b + 61) (b + 61 + 5) z := h4; simp only [zF] at h9; omega))
  have hO2 := zOb_kept hO (fun z h1 h2 h3 => hk2 z h1 (fun h4 => by have h9 : zF (b + 61) (b + 61 + 5) z := h4; simp only [zF] at h9; omega))
  refine lv_icmp_eq (tgt := 1137) hx hb dL_law_704 (by decide) (fun c9 => ?_) (fun c9 => absurd rfl c9)
  refine W.widen (k := cells + 16) (n := slots + 214) (by omega) (by omega) ?_
  exact kk _ _ _ _ _ _ _ _ _ _ ⟨hC2, ⟨_, hO2⟩, ⟨_, _, hM2⟩, hI, hZ⟩ hS (lv_sub hl [0, 1, 2, 3, 4] rfl)
set_option maxHeartbeats 4000000 in
set_option maxRecDepth 100000 in
theorem zlv_agrees_ok {pg : Program} {l : Launch} {ev : Env} {s : State} {m : MethodId} {below : List Frame} {meth : Method} {cd : Code} {D : va_G} {cI cL cR : ClassId} {b0 L : Nat} {xs : Nat → Int32} {Q : State → Prop} {H : Heap} {b n : Nat} {me lo : Nat → Int32} {c e : Nat → Nat} {rd tk tn : Int32} {g : zG} {bf : Nat → Int32} {f : Nat → Int64} {i cells slots : Nat} {ls : Array Slot} (hfix : CallFix pg m cd cL_law 9 s #[.ref b0] wsL_law RL) (hK : va_K D vwCl [(cI, .int), (cL, .long), (cR, .array .int)] s) (hKw : zKw s) (hE : zE s.heap.size s) (hlt : l.stackTraces = false) (hX0 : va_X b0 L xs s s.heap) (hb0 : b0 < s.heap.size) (hbs : s.heap.size ≤ b) (hC : zCW D cI b n me lo c e rd tk g H) (hM : va_P D vwCl (zMo cI (b + 61) tn n (jf g me lo c) bf (zn e) (nm rd tk)) H) (hO : va_P D vwCl [(b + 66, .inl (cL, 1, .inr (.inl f)))] H) (hI : zI n me lo c e) (hZ : zJ n g) (hS : va_S (fun q => s.heap.size ≤ q) s.heap H []) (hi : i + 4 ≤ L) (hL : L ≤ 2048) (hcell : cells + 16 ≤ 601024) (hslot : slots + 214 ≤ 7293033) (hl : lv_has ls 9 [(4, .int (nI i)), (3, .ref (b + 66)), (2, .ref (b + 61)), (1, .ref b), (0, .ref b0)]) (kk : zLK pg l ev s m below meth cd D cI cL b0 Q b i cells slots) : W pg l ev room_1 s m #[Value.ref b0] below meth cd H [] cells slots Q (F0 m 877 ls []) := by
  obtain ⟨hx, hb, hml, hown, hts⟩ := id hfix
  have hbA : ¬ (fun q : Nat => s.heap.size ≤ q) b0 := Nat.not_le.mpr hb0
  have hKi : va_K D vwCl [(cI, .int)] s := hK.sub [0] rfl
  have hKl : va_K D vwCl [(cI, .int), (cL, .long)] s := hK.sub [0, 1] rfl
  have hKq : va_K D vwCl [(cI, .int), (cR, .array .int)] s := hK.sub [0, 2] rfl
  have hsz := hS.1
  obtain ⟨hJ, hW, hT, hTa, hTb⟩ := id hC
  refine lv_aload_n hx hb dL_law_877 rfl (lv_at hl 3 rfl) ?_
  refine z_mi (va_runV (As := []) (rest := []) hfix (zcX4_agrees_k l D cI H b n me lo c e rd tk g hC hI) (cwV 0 hts gL_law_X4_agrees rfl rfl rfl (by decide +kernel) ⟨Nat.le_of_ble_eq_true rfl, Nat.le_of_ble_eq_true rfl⟩) (z_preV hK hKi hJ (ci := 4) (q0 := 0) rfl rfl rfl) rfl rfl hl.1 rfl (lv_room (Nat.le_of_ble_eq_true rfl)) dL_law_878 ⟨by show cells + 0 ≤ 601024; omega, by show slots + 0 ≤ 7293033; omega⟩) hS (fun z _ h => by have h9 : zF b (b + 61) z := h; show s.heap.size ≤ z; simp only [zF] at h9; omega) (fun z h => by have h9 : zF b (b + 61) z := h; show s.heap.size ≤ z; simp only [zF] at h9; omega) (fun H1 lo1 hB hz1 hk1 hS => ?_)
  refine va_forget (fun q h => hS.2.2 q h) ?_
  have hS : va_S (fun q => s.heap.size ≤ q) s.heap H1 [] := ⟨hS.1, hS.2.1, fun z h => absurd h List.not_mem_nil⟩
  have hM1 := zMo_kept hM (fun z h1 h2 h3 => hk1 z h1 (fun h4 => by have h9 : zF b (b + 61) z := h4; simp only [zF] at h9; omega))
  have hO1 := zOb_kept hO (fun z h1 h2 h3 => hk1 z h1 (fun h4 => by have h9 : zF b (b + 61) z := h4; simp only [zF] at h9; omega))
  have hC1 := hB.1
  refine lv_aload_n hx hb dL_law_881 rfl (lv_at hl 2 rfl) ?_
  refine z_mi (va_runV (As := []) (rest := [.int (zo (fs (same n me lo c e (rd, tk, g)) 201))]) hfix (zcX5_agrees_k l D cI cR H1 (b + 61) tn n g me lo c bf e rd tk  hM1 hI hZ) (cwV 0 hts gL_law_X5_agrees rfl rfl rfl (by decide +kernel) ⟨Nat.le_of_ble_eq_true rfl, Nat.le_of_ble_eq_true rfl⟩) (z_kpreV hKw hK hKq hM1 (ci := 5) (q0 := 0) rfl rfl rfl) rfl rfl hl.1 rfl (lv_room (Nat.le_of_ble_eq_true rfl)) dL_law_882 ⟨by show cells + 3 ≤ 601024; omega, by show slots + 124 ≤ 7293033; omega⟩) hS (fun z _ h => by have h9 : zF (b + 61) (b + 61 + 5) z ∨ H1.size ≤ z := h; have h8 := hS.1; show s.heap.size ≤ z; simp only [zF] at h9; omega) (fun z h => by have h9 : zF (b + 61) (b + 61 + 5) z ∨ H1.size ≤ z := h; have h8 := hS.1; show s.heap.size ≤ z; simp only [zF] at h9; omega) (fun H2 lo2 hB hz2 hk2 hS => ?_)
  refine va_forget (fun q h => hS.2.2 q h) ?_
  have hS : va_S (fun q => s.heap.size ≤ q) s.heap H2 [] := ⟨hS.1, hS.2.1, fun z h => absurd h List.not_mem_nil⟩
  obtain ⟨⟨bf2, hM2⟩, hB9⟩ := hB
  have hC2 := zCW_kept hC1 (fun z h1 h2 h3 => hk2 z h1 (fun h4 => by have h9 : zF (b + 61) (b + 61 + 5) z ∨ H1.size ≤ z := h4; simp only [zF] at h9; omega))
  have hO2 := zOb_kept hO1 (fun z h1 h2 h3 => hk2 z h1 (fun h4 => by have h9 : zF (b + 61) (b + 61 + 5) z ∨ H1.size ≤ z := h4; simp only [zF] at h9; omega))
  refine lv_icmp_eq (tgt := 1137) hx hb dL_law_885 (by decide) (fun c9 => ?_) (fun c9 => absurd rfl c9)
  refine W.widen (k := cells + 16) (n := slots + 214) (by omega) (by omega) ?_
  exact kk _ _ _ _ _ _ _ _ _ _ ⟨hC2, ⟨_, hO2⟩, ⟨_, _, hM2⟩, hI, hZ⟩ hS (lv_sub hl [0, 1, 2, 3, 4] rfl)
set_option maxHeartbeats 4000000 in
set_option maxRecDepth 100000 in
theorem zlv_mean_ok {pg : Program} {l : Launch} {ev : Env} {s : State} {m : MethodId} {below : List Frame} {meth : Method} {cd : Code} {D : va_G} {cI cL cR : ClassId} {b0 L : Nat} {xs : Nat → Int32} {Q : State → Prop} {H : Heap} {b n : Nat} {me lo : Nat → Int32} {c e : Nat → Nat} {rd tk tn : Int32} {g : zG} {bf : Nat → Int32} {f : Nat → Int64} {i cells slots : Nat} {ls : Array Slot} (hfix : CallFix pg m cd cL_law 9 s #[.ref b0] wsL_law RL) (hK : va_K D vwCl [(cI, .int), (cL, .long), (cR, .array .int)] s) (hKw : zKw s) (hE : zE s.heap.size s) (hlt : l.stackTraces = false) (hX0 : va_X b0 L xs s s.heap) (hb0 : b0 < s.heap.size) (hbs : s.heap.size ≤ b) (hC : zCW D cI b n me lo c e rd tk g H) (hM : va_P D vwCl (zMo cI (b + 61) tn n (jf g me lo c) bf (zn e) (nm rd tk)) H) (hO : va_P D vwCl [(b + 66, .inl (cL, 1, .inr (.inl f)))] H) (hI : zI n me lo c e) (hZ : zJ n g) (hS : va_S (fun q => s.heap.size ≤ q) s.heap H []) (hi : i + 4 ≤ L) (hL : L ≤ 2048) (hcell : cells + 16 ≤ 601024) (hslot : slots + 214 ≤ 7293033) (hl : lv_has ls 9 [(4, .int (nI i)), (3, .ref (b + 66)), (2, .ref (b + 61)), (1, .ref b), (0, .ref b0)]) (kk : zLK pg l ev s m below meth cd D cI cL b0 Q b i cells slots) : W pg l ev room_1 s m #[Value.ref b0] below meth cd H [] cells slots Q (F0 m 1082 ls []) := by
  obtain ⟨hx, hb, hml, hown, hts⟩ := id hfix
  have hbA : ¬ (fun q : Nat => s.heap.size ≤ q) b0 := Nat.not_le.mpr hb0
  have hKi : va_K D vwCl [(cI, .int)] s := hK.sub [0] rfl
  have hKl : va_K D vwCl [(cI, .int), (cL, .long)] s := hK.sub [0, 1] rfl
  have hKq : va_K D vwCl [(cI, .int), (cR, .array .int)] s := hK.sub [0, 2] rfl
  have hsz := hS.1
  obtain ⟨hJ, hW, hT, hTa, hTb⟩ := id hC
  refine lv_aload_n hx hb dL_law_1082 rfl (lv_at hl 3 rfl) ?_
  refine z_kd (va_runV (As := []) (rest := []) hfix (zcX4_mean l D cI H b n me lo c e rd tk g hJ hW hT hI hZ) (cwV 0 hts gL_law_X4_mean rfl rfl rfl (by decide +kernel) ⟨Nat.le_of_ble_eq_true rfl, Nat.le_of_ble_eq_true rfl⟩) (z_preV hK hKi hJ (ci := 4) (q0 := 0) rfl rfl rfl) rfl rfl hl.1 rfl (lv_room (Nat.le_of_ble_eq_true rfl)) dL_law_1083 ⟨by show cells + 0 ≤ 601024; omega, by show slots + 0 ≤ 7293033; omega⟩) ?_
  refine lv_dstore (lv' := [(5, .double (zmean n g)), (4, .int (nI i)), (3, .ref (b + 66)), (2, .ref (b + 61)), (1, .ref b), (0, .ref b0)]) hx hb dL_law_1086 hl (by decide) rfl (fun ls hl => ?_)
  refine lv_aload_n hx hb dL_law_1088 rfl (lv_at hl 3 rfl) ?_
  refine z_md (va_runV (As := []) (rest := []) hfix (zcX5_mean_k l D cI H (b + 61) tn n g me lo c bf e rd tk  hM hI hZ) (cwV 0 hts gL_law_X5_mean rfl rfl rfl (by decide +kernel) ⟨Nat.le_of_ble_eq_true rfl, Nat.le_of_ble_eq_true rfl⟩) (z_preV hK hKi hM (ci := 5) (q0 := 0) rfl rfl rfl) rfl rfl hl.1 rfl (lv_room (Nat.le_of_ble_eq_true rfl)) dL_law_1089 ⟨by show cells + 0 ≤ 601024; omega, by show slots + 0 ≤ 7293033; omega⟩) hS (fun z _ h => by have h9 : zF (b + 61) (b + 61 + 5) z := h; have h8 := hS.1; show s.heap.size ≤ z; simp only [zF] at h9; omega) (fun z h => by have h9 : zF (b + 61) (b + 61 + 5) z := h; have h8 := hS.1; show s.heap.size ≤ z; simp only [zF] at h9; omega) (fun H2 lo2 hB hz2 hk2 hS => ?_)
  refine va_forget (fun q h => hS.2.2 q h) ?_
  have hS : va_S (fun q => s.heap.size ≤ q) s.heap H2 [] := ⟨hS.1, hS.2.1, fun z h => absurd h List.not_mem_nil⟩
  obtain ⟨hM2, hB9⟩ := hB
  have hC2 := zCW_kept hC (fun z h1 h2 h3 => hk2 z h1 (fun h4 => by have h9 : zF (b + 61) (b + 61 + 5) z := h4; simp only [zF] at h9; omega))
  have hO2 := zOb_kept hO (fun z h1 h2 h3 => hk2 z h1 (fun h4 => by have h9 : zF (b + 61) (b + 61 + 5) z := h4; simp only [zF] at h9; omega))
  refine lv_dstore (lv' := [(7, .double (zmean n g)), (5, .double (zmean n g)), (4, .int (nI i)), (3, .ref (b + 66)), (2, .ref (b + 61)), (1, .ref b), (0, .ref b0)]) hx hb dL_law_1092 hl (by decide) rfl (fun ls hl => ?_)
  refine lv_dload hx hb dL_law_1094 (lv_at hl 1 rfl) ?_
  refine lv_dload hx hb dL_law_1096 (lv_at hl 0 rfl) ?_
  refine lv_dcmp hx hb dL_law_1098 ?_
  refine lv_if_eq (tgt := 1120) hx hb dL_law_1099 (by decide) (fun c9 => ?_) (fun c9 => ?_)
  · refine lv_goto (tgt := 1137) hx hb dL_law_1120 (by decide) ?_
    refine W.widen (k := cells + 16) (n := slots + 214) (by omega) (by omega) ?_
    exact kk _ _ _ _ _ _ _ _ _ _ ⟨hC2, ⟨_, hO2⟩, ⟨_, _, hM2⟩, hI, hZ⟩ hS (lv_sub hl [2, 3, 4, 5, 6] rfl)
  · have c8 := c9
    refine lv_dload hx hb dL_law_1102 (lv_at hl 1 rfl) ?_
    refine lv_dload hx hb dL_law_1104 (lv_at hl 1 rfl) ?_
    refine lv_dcmp hx hb dL_law_1106 ?_
    refine lv_if_eq (tgt := 1118) hx hb dL_law_1107 (by decide) (fun c9 => absurd c9 c8) (fun c9 => ?_)
    refine lv_dload hx hb dL_law_1110 (lv_at hl 0 rfl) ?_
    refine lv_dload hx hb dL_law_1112 (lv_at hl 0 rfl) ?_
    refine lv_dcmp hx hb dL_law_1114 ?_
    refine lv_if_ne (tgt := 1120) hx hb dL_law_1115 (by decide) (fun c9 => ?_) (fun c9 => absurd c9 c8)
    refine lv_goto (tgt := 1137) hx hb dL_law_1120 (by decide) ?_
    refine W.widen (k := cells + 16) (n := slots + 214) (by omega) (by omega) ?_
    exact kk _ _ _ _ _ _ _ _ _ _ ⟨hC2, ⟨_, hO2⟩, ⟨_, _, hM2⟩, hI, hZ⟩ hS (lv_sub hl [2, 3, 4, 5, 6] rfl)
set_option maxHeartbeats 4000000 in
set_option maxRecDepth 100000 in
theorem zlv_digest_ok {pg : Program} {l : Launch} {ev : Env} {s : State} {m : MethodId} {below : List Frame} {meth : Method} {cd : Code} {D : va_G} {cI cL cR : ClassId} {b0 L : Nat} {xs : Nat → Int32} {Q : State → Prop} {H : Heap} {b n : Nat} {me lo : Nat → Int32} {c e : Nat → Nat} {rd tk tn : Int32} {g : zG} {bf : Nat → Int32} {f : Nat → Int64} {i cells slots : Nat} {ls : Array Slot} (hfix : CallFix pg m cd cL_law 9 s #[.ref b0] wsL_law RL) (hK : va_K D vwCl [(cI, .int), (cL, .long), (cR, .array .int)] s) (hKw : zKw s) (hE : zE s.heap.size s) (hlt : l.stackTraces = false) (hX0 : va_X b0 L xs s s.heap) (hb0 : b0 < s.heap.size) (hbs : s.heap.size ≤ b) (hC : zCW D cI b n me lo c e rd tk g H) (hM : va_P D vwCl (zMo cI (b + 61) tn n (jf g me lo c) bf (zn e) (nm rd tk)) H) (hO : va_P D vwCl [(b + 66, .inl (cL, 1, .inr (.inl f)))] H) (hI : zI n me lo c e) (hZ : zJ n g) (hS : va_S (fun q => s.heap.size ≤ q) s.heap H []) (hi : i + 4 ≤ L) (hL : L ≤ 2048) (hcell : cells + 16 ≤ 601024) (hslot : slots + 214 ≤ 7293033) (hl : lv_has ls 9 [(4, .int (nI i)), (3, .ref (b + 66)), (2, .ref (b + 61)), (1, .ref b), (0, .ref b0)]) (kk : zLK pg l ev s m below meth cd D cI cL b0 Q b i cells slots) : W pg l ev room_1 s m #[Value.ref b0] below meth cd H [] cells slots Q (F0 m 1123 ls []) := by
  obtain ⟨hx, hb, hml, hown, hts⟩ := id hfix
  have hbA : ¬ (fun q : Nat => s.heap.size ≤ q) b0 := Nat.not_le.mpr hb0
  have hKi : va_K D vwCl [(cI, .int)] s := hK.sub [0] rfl
  have hKl : va_K D vwCl [(cI, .int), (cL, .long)] s := hK.sub [0, 1] rfl
  have hKq : va_K D vwCl [(cI, .int), (cR, .array .int)] s := hK.sub [0, 2] rfl
  have hsz := hS.1
  obtain ⟨hJ, hW, hT, hTa, hTb⟩ := id hC
  refine lv_aload_n hx hb dL_law_1123 rfl (lv_at hl 3 rfl) ?_
  refine z_kl (va_runV (As := []) (rest := []) hfix (zcX4_digest l D cI H b n me lo c e rd tk g hJ hW hT hI) (cwV 0 hts gL_law_X4_digest rfl rfl rfl (by decide +kernel) ⟨Nat.le_of_ble_eq_true rfl, Nat.le_of_ble_eq_true rfl⟩) (z_preV hK hKi hJ (ci := 4) (q0 := 0) rfl rfl rfl) rfl rfl hl.1 rfl (lv_room (Nat.le_of_ble_eq_true rfl)) dL_law_1124 ⟨by show cells + 0 ≤ 601024; omega, by show slots + 0 ≤ 7293033; omega⟩) ?_
  refine lv_aload_n hx hb dL_law_1127 rfl (lv_at hl 2 rfl) ?_
  refine z_ml (va_runV (As := []) (rest := [.long (dg n (rd, tk, g) me lo c e)]) hfix (zcX5_digest_k l D cI H (b + 61) tn n g me lo c bf e rd tk  hM hI hZ) (cwV 0 hts gL_law_X5_digest rfl rfl rfl (by decide +kernel) ⟨Nat.le_of_ble_eq_true rfl, Nat.le_of_ble_eq_true rfl⟩) (z_preV hK hKi hM (ci := 5) (q0 := 0) rfl rfl rfl) rfl rfl hl.1 rfl (lv_room (Nat.le_of_ble_eq_true rfl)) dL_law_1128 ⟨by show cells + 0 ≤ 601024; omega, by show slots + 0 ≤ 7293033; omega⟩) hS (fun z _ h => by have h9 : zF (b + 61) (b + 61 + 5) z := h; have h8 := hS.1; show s.heap.size ≤ z; simp only [zF] at h9; omega) (fun z h => by have h9 : zF (b + 61) (b + 61 + 5) z := h; have h8 := hS.1; show s.heap.size ≤ z; simp only [zF] at h9; omega) (fun H2 lo2 hB hz2 hk2 hS => ?_)
  refine va_forget (fun q h => hS.2.2 q h) ?_
  have hS : va_S (fun q => s.heap.size ≤ q) s.heap H2 [] := ⟨hS.1, hS.2.1, fun z h => absurd h List.not_mem_nil⟩
  obtain ⟨hM2, hB9⟩ := hB
  have hC2 := zCW_kept hC (fun z h1 h2 h3 => hk2 z h1 (fun h4 => by have h9 : zF (b + 61) (b + 61 + 5) z := h4; simp only [zF] at h9; omega))
  have hO2 := zOb_kept hO (fun z h1 h2 h3 => hk2 z h1 (fun h4 => by have h9 : zF (b + 61) (b + 61 + 5) z := h4; simp only [zF] at h9; omega))
  refine W.lcmp hx hb dL_law_1131 ?_
  refine z_toi (y := 0) ((lg_cmp_eq _ _).mpr rfl) ?_
  refine lv_if_eq (tgt := 1137) hx hb dL_law_1132 (by decide) (fun c9 => ?_) (fun c9 => absurd rfl c9)
  refine W.widen (k := cells + 16) (n := slots + 214) (by omega) (by omega) ?_
  exact kk _ _ _ _ _ _ _ _ _ _ ⟨hC2, ⟨_, hO2⟩, ⟨_, _, hM2⟩, hI, hZ⟩ hS (lv_sub hl [0, 1, 2, 3, 4] rfl)
