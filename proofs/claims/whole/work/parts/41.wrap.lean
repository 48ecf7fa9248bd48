set_option maxHeartbeats 4000000 in
set_option maxRecDepth 100000 in
/-- zcL_come_k -/
theorem zcL_come_k (l : Launch) (D : va_G) (cI cL : ClassId) (H : Heap) (B0 qo : Nat) (f : Nat → Int64) (b : Nat) (n : Nat) (me : Nat → Int32) (lo : Nat → Int32) (c : Nat → Nat) (e : Nat → Nat) (rd : Int32) (tk : Int32) (g : zG) (m9 : Nat) (x : Nat) (hC : zCW D cI b n me lo c e rd tk g H) (hI : zI n me lo c e) (hm1 : 1 ≤ m9) (hm2 : m9 ≤ 9) (hx1 : 1 ≤ x) (hx2 : x ≤ 5) (hn12 : n < 12) (hO : va_P D vwCl [(qo, .inl (cL, 1, .inr (.inl f)))] H) (hqd : b + 61 ≤ qo ∨ qo < b) : Met l yL_come wsL_come ({ frames := 4, cells := 0, slots := 0, locals := 90 } : Room) (zPx D [(cI, .int), (cL, .long)] H B0 [.ref b, .int (nI m9), .int (nI x), .ref qo]) (zM (fun H1 => zCW D cI b (n + 1) (upd me n (nI m9)) (upd lo n (nI x)) c e rd tk (wh g n 0 0) H1 ∧ va_P D vwCl [(qo, .inl (cL, 1, .inr (.inl (vp_updL f 0 ((nI n)).toInt64))))] H1 ∧ H1.size = H.size) (some (.int 0)) (fun z => zF b (b + 61) z ∨ z = qo)) 0 0 (fun z => zF b (b + 61) z ∨ z = qo) := by
  refine z_wenter (cc := cL_come) (maxL := 5) (ret := some .int) (hh := [(0, 10, 13, 13), (0, 10, 17, 15)]) (by decide) rfl (Nat.le_of_ble_eq_true rfl) ?_
  intro pg ev s m args below meth cd hfix hr hlocks htab hK hHs hE ls hl
  have hK1 : va_K D vwCl [(cI, .int)] s := hK.sub [0] rfl
  obtain ⟨hx, hb, hml, hown, hts⟩ := id hfix
  have hl : lv_has ls 5 [(0, .ref b), (1, .int (nI m9)), (2, .int (nI x)), (3, .ref qo)] := hl
  have hS : va_S (fun z => zF b (b + 61) z ∨ z = qo) s.heap H [] := by rw [hHs]; exact va_S.rf
  have hJ : va_P D vwCl (zPJ b) H := hC.1
  refine lv_aload_n hx hb dL_come_0 rfl (lv_at hl 3 rfl) ?_
  refine lv_iconst (v := 0) hx hb dL_come_1 (by decide) ?_
  refine lv_aload_n hx hb dL_come_2 rfl (lv_at hl 0 rfl) ?_
  refine lv_iload_n hx hb dL_come_3 rfl (lv_at hl 1 rfl) ?_
  refine lv_iload_n hx hb dL_come_4 rfl (lv_at hl 2 rfl) ?_
  refine z_mi (va_runV (As := [.int (nI m9), .int (nI x)]) (rest := [.int 0, .ref qo]) hfix (zcX4_come_k l D cI H b n me lo c e rd tk g m9 x hC hI hm1 hm2 hx1 hx2 hn12) (cwV 2 hts gL_come_X4_come rfl rfl rfl (by decide +kernel) ⟨Nat.le_of_ble_eq_true rfl, Nat.le_of_ble_eq_true rfl⟩) (z_preV hK1 hK1 hJ (ci := 4) (q0 := 0) rfl rfl rfl) rfl rfl hl.1 rfl (lv_room (Nat.le_of_ble_eq_true rfl)) dL_come_5 ⟨Nat.le_of_ble_eq_true rfl, Nat.le_of_ble_eq_true rfl⟩) hS (fun z _ h => Or.inl h) (fun z h => Or.inl h) (fun H1 lo1 hB hz1 hk1 hS => ?_)
  have hB1 := hB.1
  have hz0 : H1.size = H.size := hB.2
  have hO1 := zOb_kept hO (fun z h1 h2 h3 => hk1 z h1 (fun h4 => by simp only [zF] at h4; omega))
  refine lv_i2l (v := ((nI n)).toInt64) hx hb dL_come_8 rfl ?_
  refine z_last hx hb hK hO1 (Or.inr rfl) hS 0 1 rfl rfl (j := 0) rfl (by omega) (by omega) dL_come_9 (fun H2 lo2 hP1 hz1 hk1 hS => ?_)
  refine lv_goto (tgt := 21) hx hb dL_come_10 (by decide) ?_
  refine lv_iconst (v := 0) hx hb dL_come_21 (by decide) ?_
  exact z_iretM ⟨zCW_kept hB1 (fun z h1 h2 h3 => hk1 z (by omega)), hP1, hz1.trans hz0⟩ hx hb hr hlocks hS dL_come_22
set_option maxHeartbeats 4000000 in
set_option maxRecDepth 100000 in
/-- zcL_come_b1 -/
theorem zcL_come_b1 (l : Launch) (D : va_G) (cI cL : ClassId) (H : Heap) (B0 qo : Nat) (hlt : l.stackTraces = false) (hB0 : B0 ≤ H.size) (b : Nat) (n : Nat) (me : Nat → Int32) (lo : Nat → Int32) (c : Nat → Nat) (e : Nat → Nat) (rd : Int32) (tk : Int32) (g : zG) (x : Int32) (y : Int32) (hC : zCW D cI b n me lo c e rd tk g H) (hI : zI n me lo c e) (hx9 : x < 1 ∨ ¬ x ≤ 9) : Met l yL_come wsL_come ({ frames := 7, cells := 1, slots := 6, locals := 105 } : Room) (zPx D [(cI, .int), (cL, .long)] H B0 [.ref b, .int x, .int y, .ref qo]) (zM (fun H1 => H.size ≤ H1.size) (some (.int 1)) (fun z => H.size ≤ z)) 1 6 (fun z => H.size ≤ z) := by
  refine z_wenter (cc := cL_come) (maxL := 5) (ret := some .int) (hh := [(0, 10, 13, 13), (0, 10, 17, 15)]) (by decide) rfl (Nat.le_of_ble_eq_true rfl) ?_
  intro pg ev s m args below meth cd hfix hr hlocks htab hK hHs hE ls hl
  have hK1 : va_K D vwCl [(cI, .int)] s := hK.sub [0] rfl
  obtain ⟨hx, hb, hml, hown, hts⟩ := id hfix
  have hl : lv_has ls 5 [(0, .ref b), (1, .int x), (2, .int y), (3, .ref qo)] := hl
  have hS : va_S (fun z => H.size ≤ z) s.heap H [] := by rw [hHs]; exact va_S.rf
  have hJ : va_P D vwCl (zPJ b) H := hC.1
  refine lv_aload_n hx hb dL_come_0 rfl (lv_at hl 3 rfl) ?_
  refine lv_iconst (v := 0) hx hb dL_come_1 (by decide) ?_
  refine lv_aload_n hx hb dL_come_2 rfl (lv_at hl 0 rfl) ?_
  refine lv_iload_n hx hb dL_come_3 rfl (lv_at hl 1 rfl) ?_
  refine lv_iload_n hx hb dL_come_4 rfl (lv_at hl 2 rfl) ?_
  refine z_xcall (fun _ h => h) (vx_runV (As := [.int x, .int y]) (rest := [.int 0, .ref qo]) hfix (zcX4_come_b1 l D cI H hlt B0 hB0 b n me lo c e rd tk g x y hC hI hx9) (cwV 2 hts gL_come_X4_come rfl rfl rfl (by decide +kernel) ⟨Nat.le_of_ble_eq_true rfl, Nat.le_of_ble_eq_true rfl⟩) (z_xpreV hE (fun q _ _ => by rw [hHs]) hK1 hK1 hJ (ci := 4) (q0 := 0) rfl rfl rfl) rfl rfl hl.1 rfl (lv_room (Nat.le_of_ble_eq_true rfl)) dL_come_5 ⟨Nat.le_of_ble_eq_true rfl, Nat.le_of_ble_eq_true rfl⟩) (fun E ce q1 H1 hP hz hk hce hcv hcl => ?_)
  subst hP
  refine vx_catch (own := RL) (name := zIA) hown [] ⟨0, 10, 13, 13⟩ [⟨0, 10, 17, 15⟩] (htab.trans rfl) (fun z hz => absurd hz List.not_mem_nil) rfl (by decide) (hts _ (List.mem_of_getElem? (i := 1) rfl)) (va_tabs (zEw_ok _ zc_zIA).1 rfl (hE.1 _ zc_zIA)) hce hcv hcl ?_
  have hS := z_Sgrow hS hz hk
  refine W.eq (g2 := F0 m 13 ls [.ref q1]) rfl ?_
  refine lv_astore (lv' := [(4, .ref q1), (0, .ref b), (1, .int x), (2, .int y), (3, .ref qo)]) hx hb dL_come_13 hl (by decide) rfl (fun ls hl => ?_)
  refine lv_iconst (v := 1) hx hb dL_come_15 (by decide) ?_
  refine W.widen (k := 1) (n := 6) (by omega) (by omega) ?_
  exact z_iretM hz hx hb hr hlocks hS dL_come_16
set_option maxHeartbeats 4000000 in
set_option maxRecDepth 100000 in
/-- zcL_come_b2 -/
theorem zcL_come_b2 (l : Launch) (D : va_G) (cI cL : ClassId) (H : Heap) (B0 qo : Nat) (hlt : l.stackTraces = false) (hB0 : B0 ≤ H.size) (b : Nat) (n : Nat) (me : Nat → Int32) (lo : Nat → Int32) (c : Nat → Nat) (e : Nat → Nat) (rd : Int32) (tk : Int32) (g : zG) (m9 : Nat) (y : Int32) (hC : zCW D cI b n me lo c e rd tk g H) (hI : zI n me lo c e) (hm1 : 1 ≤ m9) (hm2 : m9 ≤ 9) (hx9 : y < 1 ∨ ¬ y ≤ 5) : Met l yL_come wsL_come ({ frames := 8, cells := 1, slots := 6, locals := 125 } : Room) (zPx D [(cI, .int), (cL, .long)] H B0 [.ref b, .int (nI m9), .int y, .ref qo]) (zM (fun H1 => H.size ≤ H1.size) (some (.int 1)) (fun z => H.size ≤ z)) 1 6 (fun z => H.size ≤ z) := by
  refine z_wenter (cc := cL_come) (maxL := 5) (ret := some .int) (hh := [(0, 10, 13, 13), (0, 10, 17, 15)]) (by decide) rfl (Nat.le_of_ble_eq_true rfl) ?_
  intro pg ev s m args below meth cd hfix hr hlocks htab hK hHs hE ls hl
  have hK1 : va_K D vwCl [(cI, .int)] s := hK.sub [0] rfl
  obtain ⟨hx, hb, hml, hown, hts⟩ := id hfix
  have hl : lv_has ls 5 [(0, .ref b), (1, .int (nI m9)), (2, .int y), (3, .ref qo)] := hl
  have hS : va_S (fun z => H.size ≤ z) s.heap H [] := by rw [hHs]; exact va_S.rf
  have hJ : va_P D vwCl (zPJ b) H := hC.1
  refine lv_aload_n hx hb dL_come_0 rfl (lv_at hl 3 rfl) ?_
  refine lv_iconst (v := 0) hx hb dL_come_1 (by decide) ?_
  refine lv_aload_n hx hb dL_come_2 rfl (lv_at hl 0 rfl) ?_
  refine lv_iload_n hx hb dL_come_3 rfl (lv_at hl 1 rfl) ?_
  refine lv_iload_n hx hb dL_come_4 rfl (lv_at hl 2 rfl) ?_
  refine z_xcall (fun _ h => h) (vx_runV (As := [.int (nI m9), .int y]) (rest := [.int 0, .ref qo]) hfix (zcX4_come_b2 l D cI H hlt B0 hB0 b n me lo c e rd tk g m9 y hC hI hm1 hm2 hx9) (cwV 2 hts gL_come_X4_come rfl rfl rfl (by decide +kernel) ⟨Nat.le_of_ble_eq_true rfl, Nat.le_of_ble_eq_true rfl⟩) (z_xpreV hE (fun q _ _ => by rw [hHs]) hK1 hK1 hJ (ci := 4) (q0 := 0) rfl rfl rfl) rfl rfl hl.1 rfl (lv_room (Nat.le_of_ble_eq_true rfl)) dL_come_5 ⟨Nat.le_of_ble_eq_true rfl, Nat.le_of_ble_eq_true rfl⟩) (fun E ce q1 H1 hP hz hk hce hcv hcl => ?_)
  subst hP
  refine vx_catch (own := RL) (name := zIA) hown [] ⟨0, 10, 13, 13⟩ [⟨0, 10, 17, 15⟩] (htab.trans rfl) (fun z hz => absurd hz List.not_mem_nil) rfl (by decide) (hts _ (List.mem_of_getElem? (i := 1) rfl)) (va_tabs (zEw_ok _ zc_zIA).1 rfl (hE.1 _ zc_zIA)) hce hcv hcl ?_
  have hS := z_Sgrow hS hz hk
  refine W.eq (g2 := F0 m 13 ls [.ref q1]) rfl ?_
  refine lv_astore (lv' := [(4, .ref q1), (0, .ref b), (1, .int (nI m9)), (2, .int y), (3, .ref qo)]) hx hb dL_come_13 hl (by decide) rfl (fun ls hl => ?_)
  refine lv_iconst (v := 1) hx hb dL_come_15 (by decide) ?_
  refine W.widen (k := 1) (n := 6) (by omega) (by omega) ?_
  exact z_iretM hz hx hb hr hlocks hS dL_come_16
set_option maxHeartbeats 4000000 in
set_option maxRecDepth 100000 in
/-- zcL_come_b3 -/
theorem zcL_come_b3 (l : Launch) (D : va_G) (cI cL : ClassId) (H : Heap) (B0 qo : Nat) (hlt : l.stackTraces = false) (hB0 : B0 ≤ H.size) (b : Nat) (n : Nat) (me : Nat → Int32) (lo : Nat → Int32) (c : Nat → Nat) (e : Nat → Nat) (rd : Int32) (tk : Int32) (g : zG) (m9 : Nat) (x : Nat) (hC : zCW D cI b n me lo c e rd tk g H) (hI : zI n me lo c e) (hm1 : 1 ≤ m9) (hm2 : m9 ≤ 9) (hx1 : 1 ≤ x) (hx2 : x ≤ 5) (hn12 : ¬ n < 12) : Met l yL_come wsL_come ({ frames := 7, cells := 1, slots := 6, locals := 105 } : Room) (zPx D [(cI, .int), (cL, .long)] H B0 [.ref b, .int (nI m9), .int (nI x), .ref qo]) (zM (fun H1 => H.size ≤ H1.size) (some (.int 2)) (fun z => H.size ≤ z)) 1 6 (fun z => H.size ≤ z) := by
  refine z_wenter (cc := cL_come) (maxL := 5) (ret := some .int) (hh := [(0, 10, 13, 13), (0, 10, 17, 15)]) (by decide) rfl (Nat.le_of_ble_eq_true rfl) ?_
  intro pg ev s m args below meth cd hfix hr hlocks htab hK hHs hE ls hl
  have hK1 : va_K D vwCl [(cI, .int)] s := hK.sub [0] rfl
  obtain ⟨hx, hb, hml, hown, hts⟩ := id hfix
  have hl : lv_has ls 5 [(0, .ref b), (1, .int (nI m9)), (2, .int (nI x)), (3, .ref qo)] := hl
  have hS : va_S (fun z => H.size ≤ z) s.heap H [] := by rw [hHs]; exact va_S.rf
  have hJ : va_P D vwCl (zPJ b) H := hC.1
  refine lv_aload_n hx hb dL_come_0 rfl (lv_at hl 3 rfl) ?_
  refine lv_iconst (v := 0) hx hb dL_come_1 (by decide) ?_
  refine lv_aload_n hx hb dL_come_2 rfl (lv_at hl 0 rfl) ?_
  refine lv_iload_n hx hb dL_come_3 rfl (lv_at hl 1 rfl) ?_
  refine lv_iload_n hx hb dL_come_4 rfl (lv_at hl 2 rfl) ?_
  refine z_xcall (fun _ h => h) (vx_runV (As := [.int (nI m9), .int (nI x)]) (rest := [.int 0, .ref qo]) hfix (zcX4_come_b3 l D cI H hlt B0 hB0 b n me lo c e rd tk g m9 x hC hI hm1 hm2 hx1 hx2 hn12) (cwV 2 hts gL_come_X4_come rfl rfl rfl (by decide +kernel) ⟨Nat.le_of_ble_eq_true rfl, Nat.le_of_ble_eq_true rfl⟩) (z_xpreV hE (fun q _ _ => by rw [hHs]) hK1 hK1 hJ (ci := 4) (q0 := 0) rfl rfl rfl) rfl rfl hl.1 rfl (lv_room (Nat.le_of_ble_eq_true rfl)) dL_come_5 ⟨Nat.le_of_ble_eq_true rfl, Nat.le_of_ble_eq_true rfl⟩) (fun E ce q1 H1 hP hz hk hce hcv hcl => ?_)
  subst hP
  refine vx_catch (own := RL) (name := zIS) hown [⟨0, 10, 13, 13⟩] ⟨0, 10, 17, 15⟩ [] (htab.trans rfl) (fun z hz => by cases List.mem_singleton.mp hz; exact Or.inr ⟨by decide, _, (hts _ (List.mem_of_getElem? (i := 1) rfl)), hE.2.2.1 (zIS, zIA) (by decide)⟩) rfl (by decide) (hts _ (List.mem_of_getElem? (i := 2) rfl)) (va_tabs (zEw_ok _ zc_zIS).1 rfl (hE.1 _ zc_zIS)) hce hcv hcl ?_
  have hS := z_Sgrow hS hz hk
  refine W.eq (g2 := F0 m 17 ls [.ref q1]) rfl ?_
  refine lv_astore (lv' := [(4, .ref q1), (0, .ref b), (1, .int (nI m9)), (2, .int (nI x)), (3, .ref qo)]) hx hb dL_come_17 hl (by decide) rfl (fun ls hl => ?_)
  refine lv_iconst (v := 2) hx hb dL_come_19 (by decide) ?_
  refine W.widen (k := 1) (n := 6) (by omega) (by omega) ?_
  exact z_iretM hz hx hb hr hlocks hS dL_come_20
set_option maxHeartbeats 4000000 in
set_option maxRecDepth 100000 in
/-- zcL_listen_ka -/
theorem zcL_listen_ka (l : Launch) (D : va_G) (cI cL : ClassId) (H : Heap) (B0 qo : Nat) (f : Nat → Int64) (b : Nat) (n : Nat) (me : Nat → Int32) (lo : Nat → Int32) (c : Nat → Nat) (e : Nat → Nat) (rd : Int32) (tk : Int32) (g : zG) (p : Nat) (o : Nat) (hC : zCW D cI b n me lo c e rd tk g H) (hI : zI n me lo c e) (hp : p < n) (ho : o < n) (hpo9 : ¬ p = o) (hpn : po e p o (c p) = none) (hc9 : c p < 4) (hO : va_P D vwCl [(qo, .inl (cL, 1, .inr (.inl f)))] H) (hqd : b + 61 ≤ qo ∨ qo < b) : Met l yL_listen wsL_listen ({ frames := 4, cells := 0, slots := 0, locals := 90 } : Room) (zPx D [(cI, .int), (cL, .long)] H B0 [.ref b, .int (nI p), .int (nI o), .ref qo]) (zM (fun H1 => zCW D cI b n me lo (zu c p (c p + 1)) (zu e (p * 4 + c p) o) rd tk g H1 ∧ va_P D vwCl [(qo, .inl (cL, 1, .inr (.inl (vp_updL f 0 ((nI (c p + 1))).toInt64))))] H1 ∧ H1.size = H.size) (some (.int 0)) (fun z => zF b (b + 61) z ∨ z = qo)) 0 0 (fun z => zF b (b + 61) z ∨ z = qo) := by
  refine z_wenter (cc := cL_listen) (maxL := 5) (ret := some .int) (hh := [(0, 10, 13, 20), (0, 10, 17, 13), (0, 10, 21, 15)]) (by decide) rfl (Nat.le_of_ble_eq_true rfl) ?_
  intro pg ev s m args below meth cd hfix hr hlocks htab hK hHs hE ls hl
  have hK1 : va_K D vwCl [(cI, .int)] s := hK.sub [0] rfl
  obtain ⟨hx, hb, hml, hown, hts⟩ := id hfix
  have hl : lv_has ls 5 [(0, .ref b), (1, .int (nI p)), (2, .int (nI o)), (3, .ref qo)] := hl
  have hS : va_S (fun z => zF b (b + 61) z ∨ z = qo) s.heap H [] := by rw [hHs]; exact va_S.rf
  have hJ : va_P D vwCl (zPJ b) H := hC.1
  refine lv_aload_n hx hb dL_listen_0 rfl (lv_at hl 3 rfl) ?_
  refine lv_iconst (v := 0) hx hb dL_listen_1 (by decide) ?_
  refine lv_aload_n hx hb dL_listen_2 rfl (lv_at hl 0 rfl) ?_
  refine lv_iload_n hx hb dL_listen_3 rfl (lv_at hl 1 rfl) ?_
  refine lv_iload_n hx hb dL_listen_4 rfl (lv_at hl 2 rfl) ?_
  refine z_mi (va_runV (As := [.int (nI p), .int (nI o)]) (rest := [.int 0, .ref qo]) hfix (zcX4_listen_ka l D cI H b n me lo c e rd tk g p o hC hI hp ho hpo9 hpn hc9) (cwV 2 hts gL_listen_X4_listen rfl rfl rfl (by decide +kernel) ⟨Nat.le_of_ble_eq_true rfl, Nat.le_of_ble_eq_true rfl⟩) (z_preV hK1 hK1 hJ (ci := 4) (q0 := 0) rfl rfl rfl) rfl rfl hl.1 rfl (lv_room (Nat.le_of_ble_eq_true rfl)) dL_listen_5 ⟨Nat.le_of_ble_eq_true rfl, Nat.le_of_ble_eq_true rfl⟩) hS (fun z _ h => Or.inl h) (fun z h => Or.inl h) (fun H1 lo1 hB hz1 hk1 hS => ?_)
  have hB1 := hB.1
  have hz0 : H1.size = H.size := hB.2
  have hO1 := zOb_kept hO (fun z h1 h2 h3 => hk1 z h1 (fun h4 => by simp only [zF] at h4; omega))
  refine lv_i2l (v := ((nI (c p + 1))).toInt64) hx hb dL_listen_8 rfl ?_
  refine z_last hx hb hK hO1 (Or.inr rfl) hS 0 1 rfl rfl (j := 0) rfl (by omega) (by omega) dL_listen_9 (fun H2 lo2 hP1 hz1 hk1 hS => ?_)
  refine lv_goto (tgt := 25) hx hb dL_listen_10 (by decide) ?_
  refine lv_iconst (v := 0) hx hb dL_listen_25 (by decide) ?_
  exact z_iretM ⟨zCW_kept hB1 (fun z h1 h2 h3 => hk1 z (by omega)), hP1, hz1.trans hz0⟩ hx hb hr hlocks hS dL_listen_26
set_option maxHeartbeats 4000000 in
set_option maxRecDepth 100000 in
/-- zcL_listen_kd -/
theorem zcL_listen_kd (l : Launch) (D : va_G) (cI cL : ClassId) (H : Heap) (B0 qo : Nat) (f : Nat → Int64) (b : Nat) (n : Nat) (me : Nat → Int32) (lo : Nat → Int32) (c : Nat → Nat) (e : Nat → Nat) (rd : Int32) (tk : Int32) (g : zG) (p : Nat) (o : Nat) (k : Nat) (hC : zCW D cI b n me lo c e rd tk g H) (hI : zI n me lo c e) (hp : p < n) (ho : o < n) (hpo9 : ¬ p = o) (hpn : po e p o (c p) = some k) (hO : va_P D vwCl [(qo, .inl (cL, 1, .inr (.inl f)))] H) (hqd : b + 61 ≤ qo ∨ qo < b) : Met l yL_listen wsL_listen ({ frames := 4, cells := 0, slots := 0, locals := 90 } : Room) (zPx D [(cI, .int), (cL, .long)] H B0 [.ref b, .int (nI p), .int (nI o), .ref qo]) (zM (fun H1 => zCW D cI b n me lo (zu c p (c p - 1)) (zdr e p k (c p - 1)) rd tk g H1 ∧ va_P D vwCl [(qo, .inl (cL, 1, .inr (.inl (vp_updL f 0 ((nI (c p - 1))).toInt64))))] H1 ∧ H1.size = H.size) (some (.int 0)) (fun z => zF b (b + 61) z ∨ z = qo)) 0 0 (fun z => zF b (b + 61) z ∨ z = qo) := by
  refine z_wenter (cc := cL_listen) (maxL := 5) (ret := some .int) (hh := [(0, 10, 13, 20), (0, 10, 17, 13), (0, 10, 21, 15)]) (by decide) rfl (Nat.le_of_ble_eq_true rfl) ?_
  intro pg ev s m args below meth cd hfix hr hlocks htab hK hHs hE ls hl
  have hK1 : va_K D vwCl [(cI, .int)] s := hK.sub [0] rfl
  obtain ⟨hx, hb, hml, hown, hts⟩ := id hfix
  have hl : lv_has ls 5 [(0, .ref b), (1, .int (nI p)), (2, .int (nI o)), (3, .ref qo)] := hl
  have hS : va_S (fun z => zF b (b + 61) z ∨ z = qo) s.heap H [] := by rw [hHs]; exact va_S.rf
  have hJ : va_P D vwCl (zPJ b) H := hC.1
  refine lv_aload_n hx hb dL_listen_0 rfl (lv_at hl 3 rfl) ?_
  refine lv_iconst (v := 0) hx hb dL_listen_1 (by decide) ?_
  refine lv_aload_n hx hb dL_listen_2 rfl (lv_at hl 0 rfl) ?_
  refine lv_iload_n hx hb dL_listen_3 rfl (lv_at hl 1 rfl) ?_
  refine lv_iload_n hx hb dL_listen_4 rfl (lv_at hl 2 rfl) ?_
  refine z_mi (va_runV (As := [.int (nI p), .int (nI o)]) (rest := [.int 0, .ref qo]) hfix (zcX4_listen_kd l D cI H b n me lo c e rd tk g p o k hC hI hp ho hpo9 hpn) (cwV 2 hts gL_listen_X4_listen rfl rfl rfl (by decide +kernel) ⟨Nat.le_of_ble_eq_true rfl, Nat.le_of_ble_eq_true rfl⟩) (z_preV hK1 hK1 hJ (ci := 4) (q0 := 0) rfl rfl rfl) rfl rfl hl.1 rfl (lv_room (Nat.le_of_ble_eq_true rfl)) dL_listen_5 ⟨Nat.le_of_ble_eq_true rfl, Nat.le_of_ble_eq_true rfl⟩) hS (fun z _ h => Or.inl h) (fun z h => Or.inl h) (fun H1 lo1 hB hz1 hk1 hS => ?_)
  have hB1 := hB.1
  have hz0 : H1.size = H.size := hB.2
  have hO1 := zOb_kept hO (fun z h1 h2 h3 => hk1 z h1 (fun h4 => by simp only [zF] at h4; omega))
  refine lv_i2l (v := ((nI (c p - 1))).toInt64) hx hb dL_listen_8 rfl ?_
  refine z_last hx hb hK hO1 (Or.inr rfl) hS 0 1 rfl rfl (j := 0) rfl (by omega) (by omega) dL_listen_9 (fun H2 lo2 hP1 hz1 hk1 hS => ?_)
  refine lv_goto (tgt := 25) hx hb dL_listen_10 (by decide) ?_
  refine lv_iconst (v := 0) hx hb dL_listen_25 (by decide) ?_
  exact z_iretM ⟨zCW_kept hB1 (fun z h1 h2 h3 => hk1 z (by omega)), hP1, hz1.trans hz0⟩ hx hb hr hlocks hS dL_listen_26
set_option maxHeartbeats 4000000 in
set_option maxRecDepth 100000 in
/-- zcL_listen_b1 -/
theorem zcL_listen_b1 (l : Launch) (D : va_G) (cI cL : ClassId) (H : Heap) (B0 qo : Nat) (hlt : l.stackTraces = false) (hB0 : B0 ≤ H.size) (b : Nat) (n : Nat) (me : Nat → Int32) (lo : Nat → Int32) (c : Nat → Nat) (e : Nat → Nat) (rd : Int32) (tk : Int32) (g : zG) (x : Int32) (y : Int32) (hC : zCW D cI b n me lo c e rd tk g H) (hI : zI n me lo c e) (hx9 : ¬ ∃ j, j < n ∧ x = nI j) : Met l yL_listen wsL_listen ({ frames := 8, cells := 1, slots := 6, locals := 126 } : Room) (zPx D [(cI, .int), (cL, .long)] H B0 [.ref b, .int x, .int y, .ref qo]) (zM (fun H1 => H.size ≤ H1.size) (some (.int 1)) (fun z => H.size ≤ z)) 1 6 (fun z => H.size ≤ z) := by
  refine z_wenter (cc := cL_listen) (maxL := 5) (ret := some .int) (hh := [(0, 10, 13, 20), (0, 10, 17, 13), (0, 10, 21, 15)]) (by decide) rfl (Nat.le_of_ble_eq_true rfl) ?_
  intro pg ev s m args below meth cd hfix hr hlocks htab hK hHs hE ls hl
  have hK1 : va_K D vwCl [(cI, .int)] s := hK.sub [0] rfl
  obtain ⟨hx, hb, hml, hown, hts⟩ := id hfix
  have hl : lv_has ls 5 [(0, .ref b), (1, .int x), (2, .int y), (3, .ref qo)] := hl
  have hS : va_S (fun z => H.size ≤ z) s.heap H [] := by rw [hHs]; exact va_S.rf
  have hJ : va_P D vwCl (zPJ b) H := hC.1
  refine lv_aload_n hx hb dL_listen_0 rfl (lv_at hl 3 rfl) ?_
  refine lv_iconst (v := 0) hx hb dL_listen_1 (by decide) ?_
  refine lv_aload_n hx hb dL_listen_2 rfl (lv_at hl 0 rfl) ?_
  refine lv_iload_n hx hb dL_listen_3 rfl (lv_at hl 1 rfl) ?_
  refine lv_iload_n hx hb dL_listen_4 rfl (lv_at hl 2 rfl) ?_
  refine z_xcall (fun _ h => h) (vx_runV (As := [.int x, .int y]) (rest := [.int 0, .ref qo]) hfix (zcX4_listen_b1 l D cI H hlt B0 hB0 b n me lo c e rd tk g x y hC hI hx9) (cwV 2 hts gL_listen_X4_listen rfl rfl rfl (by decide +kernel) ⟨Nat.le_of_ble_eq_true rfl, Nat.le_of_ble_eq_true rfl⟩) (z_xpreV hE (fun q _ _ => by rw [hHs]) hK1 hK1 hJ (ci := 4) (q0 := 0) rfl rfl rfl) rfl rfl hl.1 rfl (lv_room (Nat.le_of_ble_eq_true rfl)) dL_listen_5 ⟨Nat.le_of_ble_eq_true rfl, Nat.le_of_ble_eq_true rfl⟩) (fun E ce q1 H1 hP hz hk hce hcv hcl => ?_)
  subst hP
  refine vx_catch (own := RL) (name := zIO) hown [] ⟨0, 10, 13, 20⟩ [⟨0, 10, 17, 13⟩, ⟨0, 10, 21, 15⟩] (htab.trans rfl) (fun z hz => absurd hz List.not_mem_nil) rfl (by decide) (hts _ (List.mem_of_getElem? (i := 1) rfl)) (va_tabs (zEw_ok _ zc_zIO).1 rfl (hE.1 _ zc_zIO)) hce hcv hcl ?_
  have hS := z_Sgrow hS hz hk
  refine W.eq (g2 := F0 m 13 ls [.ref q1]) rfl ?_
  refine lv_astore (lv' := [(4, .ref q1), (0, .ref b), (1, .int x), (2, .int y), (3, .ref qo)]) hx hb dL_listen_13 hl (by decide) rfl (fun ls hl => ?_)
  refine lv_iconst (v := 1) hx hb dL_listen_15 (by decide) ?_
  refine W.widen (k := 1) (n := 6) (by omega) (by omega) ?_
  exact z_iretM hz hx hb hr hlocks hS dL_listen_16
set_option maxHeartbeats 4000000 in
set_option maxRecDepth 100000 in
/-- zcL_listen_b2 -/
theorem zcL_listen_b2 (l : Launch) (D : va_G) (cI cL : ClassId) (H : Heap) (B0 qo : Nat) (hlt : l.stackTraces = false) (hB0 : B0 ≤ H.size) (b : Nat) (n : Nat) (me : Nat → Int32) (lo : Nat → Int32) (c : Nat → Nat) (e : Nat → Nat) (rd : Int32) (tk : Int32) (g : zG) (p : Nat) (x : Int32) (hC : zCW D cI b n me lo c e rd tk g H) (hI : zI n me lo c e) (hp : p < n) (hx9 : ¬ ∃ j, j < n ∧ x = nI j) : Met l yL_listen wsL_listen ({ frames := 8, cells := 1, slots := 6, locals := 126 } : Room) (zPx D [(cI, .int), (cL, .long)] H B0 [.ref b, .int (nI p), .int x, .ref qo]) (zM (fun H1 => H.size ≤ H1.size) (some (.int 1)) (fun z => H.size ≤ z)) 1 6 (fun z => H.size ≤ z) := by
  refine z_wenter (cc := cL_listen) (maxL := 5) (ret := some .int) (hh := [(0, 10, 13, 20), (0, 10, 17, 13), (0, 10, 21, 15)]) (by decide) rfl (Nat.le_of_ble_eq_true rfl) ?_
  intro pg ev s m args below meth cd hfix hr hlocks htab hK hHs hE ls hl
  have hK1 : va_K D vwCl [(cI, .int)] s := hK.sub [0] rfl
  obtain ⟨hx, hb, hml, hown, hts⟩ := id hfix
  have hl : lv_has ls 5 [(0, .ref b), (1, .int (nI p)), (2, .int x), (3, .ref qo)] := hl
  have hS : va_S (fun z => H.size ≤ z) s.heap H [] := by rw [hHs]; exact va_S.rf
  have hJ : va_P D vwCl (zPJ b) H := hC.1
  refine lv_aload_n hx hb dL_listen_0 rfl (lv_at hl 3 rfl) ?_
  refine lv_iconst (v := 0) hx hb dL_listen_1 (by decide) ?_
  refine lv_aload_n hx hb dL_listen_2 rfl (lv_at hl 0 rfl) ?_
  refine lv_iload_n hx hb dL_listen_3 rfl (lv_at hl 1 rfl) ?_
  refine lv_iload_n hx hb dL_listen_4 rfl (lv_at hl 2 rfl) ?_
  refine z_xcall (fun _ h => h) (vx_runV (As := [.int (nI p), .int x]) (rest := [.int 0, .ref qo]) hfix (zcX4_listen_b2 l D cI H hlt B0 hB0 b n me lo c e rd tk g p x hC hI hp hx9) (cwV 2 hts gL_listen_X4_listen rfl rfl rfl (by decide +kernel) ⟨Nat.le_of_ble_eq_true rfl, Nat.le_of_ble_eq_true rfl⟩) (z_xpreV hE (fun q _ _ => by rw [hHs]) hK1 hK1 hJ (ci := 4) (q0 := 0) rfl rfl rfl) rfl rfl hl.1 rfl (lv_room (Nat.le_of_ble_eq_true rfl)) dL_listen_5 ⟨Nat.le_of_ble_eq_true rfl, Nat.le_of_ble_eq_true rfl⟩) (fun E ce q1 H1 hP hz hk hce hcv hcl => ?_)
  subst hP
  refine vx_catch (own := RL) (name := zIO) hown [] ⟨0, 10, 13, 20⟩ [⟨0, 10, 17, 13⟩, ⟨0, 10, 21, 15⟩] (htab.trans rfl) (fun z hz => absurd hz List.not_mem_nil) rfl (by decide) (hts _ (List.mem_of_getElem? (i := 1) rfl)) (va_tabs (zEw_ok _ zc_zIO).1 rfl (hE.1 _ zc_zIO)) hce hcv hcl ?_
  have hS := z_Sgrow hS hz hk
  refine W.eq (g2 := F0 m 13 ls [.ref q1]) rfl ?_
  refine lv_astore (lv' := [(4, .ref q1), (0, .ref b), (1, .int (nI p)), (2, .int x), (3, .ref qo)]) hx hb dL_listen_13 hl (by decide) rfl (fun ls hl => ?_)
  refine lv_iconst (v := 1) hx hb dL_listen_15 (by decide) ?_
  refine W.widen (k := 1) (n := 6) (by omega) (by omega) ?_
  exact z_iretM hz hx hb hr hlocks hS dL_listen_16
set_option maxHeartbeats 4000000 in
set_option maxRecDepth 100000 in
/-- zcL_listen_b3 -/
theorem zcL_listen_b3 (l : Launch) (D : va_G) (cI cL : ClassId) (H : Heap) (B0 qo : Nat) (hlt : l.stackTraces = false) (hB0 : B0 ≤ H.size) (b : Nat) (n : Nat) (me : Nat → Int32) (lo : Nat → Int32) (c : Nat → Nat) (e : Nat → Nat) (rd : Int32) (tk : Int32) (g : zG) (p : Nat) (hC : zCW D cI b n me lo c e rd tk g H) (hI : zI n me lo c e) (hp : p < n) : Met l yL_listen wsL_listen ({ frames := 7, cells := 1, slots := 6, locals := 105 } : Room) (zPx D [(cI, .int), (cL, .long)] H B0 [.ref b, .int (nI p), .int (nI p), .ref qo]) (zM (fun H1 => H.size ≤ H1.size) (some (.int 2)) (fun z => H.size ≤ z)) 1 6 (fun z => H.size ≤ z) := by
  refine z_wenter (cc := cL_listen) (maxL := 5) (ret := some .int) (hh := [(0, 10, 13, 20), (0, 10, 17, 13), (0, 10, 21, 15)]) (by decide) rfl (Nat.le_of_ble_eq_true rfl) ?_
  intro pg ev s m args below meth cd hfix hr hlocks htab hK hHs hE ls hl
  have hK1 : va_K D vwCl [(cI, .int)] s := hK.sub [0] rfl
  obtain ⟨hx, hb, hml, hown, hts⟩ := id hfix
  have hl : lv_has ls 5 [(0, .ref b), (1, .int (nI p)), (2, .int (nI p)), (3, .ref qo)] := hl
  have hS : va_S (fun z => H.size ≤ z) s.heap H [] := by rw [hHs]; exact va_S.rf
  have hJ : va_P D vwCl (zPJ b) H := hC.1
  refine lv_aload_n hx hb dL_listen_0 rfl (lv_at hl 3 rfl) ?_
  refine lv_iconst (v := 0) hx hb dL_listen_1 (by decide) ?_
  refine lv_aload_n hx hb dL_listen_2 rfl (lv_at hl 0 rfl) ?_
  refine lv_iload_n hx hb dL_listen_3 rfl (lv_at hl 1 rfl) ?_
  refine lv_iload_n hx hb dL_listen_4 rfl (lv_at hl 2 rfl) ?_
  refine z_xcall (fun _ h => h) (vx_runV (As := [.int (nI p), .int (nI p)]) (rest := [.int 0, .ref qo]) hfix (zcX4_listen_b3 l D cI H hlt B0 hB0 b n me lo c e rd tk g p hC hI hp) (cwV 2 hts gL_listen_X4_listen rfl rfl rfl (by decide +kernel) ⟨Nat.le_of_ble_eq_true rfl, Nat.le_of_ble_eq_true rfl⟩) (z_xpreV hE (fun q _ _ => by rw [hHs]) hK1 hK1 hJ (ci := 4) (q0 := 0) rfl rfl rfl) rfl rfl hl.1 rfl (lv_room (Nat.le_of_ble_eq_true rfl)) dL_listen_5 ⟨Nat.le_of_ble_eq_true rfl, Nat.le_of_ble_eq_true rfl⟩) (fun E ce q1 H1 hP hz hk hce hcv hcl => ?_)
  subst hP
  refine vx_catch (own := RL) (name := zIA) hown [⟨0, 10, 13, 20⟩] ⟨0, 10, 17, 13⟩ [⟨0, 10, 21, 15⟩] (htab.trans rfl) (fun z hz => by cases List.mem_singleton.mp hz; exact Or.inr ⟨by decide, _, (hts _ (List.mem_of_getElem? (i := 1) rfl)), hE.2.2.1 (zIA, zIO) (by decide)⟩) rfl (by decide) (hts _ (List.mem_of_getElem? (i := 2) rfl)) (va_tabs (zEw_ok _ zc_zIA).1 rfl (hE.1 _ zc_zIA)) hce hcv hcl ?_
  have hS := z_Sgrow hS hz hk
  refine W.eq (g2 := F0 m 17 ls [.ref q1]) rfl ?_
  refine lv_astore (lv' := [(4, .ref q1), (0, .ref b), (1, .int (nI p)), (2, .int (nI p)), (3, .ref qo)]) hx hb dL_listen_17 hl (by decide) rfl (fun ls hl => ?_)
  refine lv_iconst (v := 2) hx hb dL_listen_19 (by decide) ?_
  refine W.widen (k := 1) (n := 6) (by omega) (by omega) ?_
  exact z_iretM hz hx hb hr hlocks hS dL_listen_20
set_option maxHeartbeats 4000000 in
set_option maxRecDepth 100000 in
/-- zcL_listen_b4 -/
theorem zcL_listen_b4 (l : Launch) (D : va_G) (cI cL : ClassId) (H : Heap) (B0 qo : Nat) (hlt : l.stackTraces = false) (hB0 : B0 ≤ H.size) (b : Nat) (n : Nat) (me : Nat → Int32) (lo : Nat → Int32) (c : Nat → Nat) (e : Nat → Nat) (rd : Int32) (tk : Int32) (g : zG) (p : Nat) (o : Nat) (hC : zCW D cI b n me lo c e rd tk g H) (hI : zI n me lo c e) (hp : p < n) (ho : o < n) (hpo9 : ¬ p = o) (hpn : po e p o (c p) = none) (hc9 : ¬ c p < 4) : Met l yL_listen wsL_listen ({ frames := 7, cells := 1, slots := 6, locals := 105 } : Room) (zPx D [(cI, .int), (cL, .long)] H B0 [.ref b, .int (nI p), .int (nI o), .ref qo]) (zM (fun H1 => H.size ≤ H1.size) (some (.int 3)) (fun z => H.size ≤ z)) 1 6 (fun z => H.size ≤ z) := by
  refine z_wenter (cc := cL_listen) (maxL := 5) (ret := some .int) (hh := [(0, 10, 13, 20), (0, 10, 17, 13), (0, 10, 21, 15)]) (by decide) rfl (Nat.le_of_ble_eq_true rfl) ?_
  intro pg ev s m args below meth cd hfix hr hlocks htab hK hHs hE ls hl
  have hK1 : va_K D vwCl [(cI, .int)] s := hK.sub [0] rfl
  obtain ⟨hx, hb, hml, hown, hts⟩ := id hfix
  have hl : lv_has ls 5 [(0, .ref b), (1, .int (nI p)), (2, .int (nI o)), (3, .ref qo)] := hl
  have hS : va_S (fun z => H.size ≤ z) s.heap H [] := by rw [hHs]; exact va_S.rf
  have hJ : va_P D vwCl (zPJ b) H := hC.1
  refine lv_aload_n hx hb dL_listen_0 rfl (lv_at hl 3 rfl) ?_
  refine lv_iconst (v := 0) hx hb dL_listen_1 (by decide) ?_
  refine lv_aload_n hx hb dL_listen_2 rfl (lv_at hl 0 rfl) ?_
  refine lv_iload_n hx hb dL_listen_3 rfl (lv_at hl 1 rfl) ?_
  refine lv_iload_n hx hb dL_listen_4 rfl (lv_at hl 2 rfl) ?_
  refine z_xcall (fun _ h => h) (vx_runV (As := [.int (nI p), .int (nI o)]) (rest := [.int 0, .ref qo]) hfix (zcX4_listen_b4 l D cI H hlt B0 hB0 b n me lo c e rd tk g p o hC hI hp ho hpo9 hpn hc9) (cwV 2 hts gL_listen_X4_listen rfl rfl rfl (by decide +kernel) ⟨Nat.le_of_ble_eq_true rfl, Nat.le_of_ble_eq_true rfl⟩) (z_xpreV hE (fun q _ _ => by rw [hHs]) hK1 hK1 hJ (ci := 4) (q0 := 0) rfl rfl rfl) rfl rfl hl.1 rfl (lv_room (Nat.le_of_ble_eq_true rfl)) dL_listen_5 ⟨Nat.le_of_ble_eq_true rfl, Nat.le_of_ble_eq_true rfl⟩) (fun E ce q1 H1 hP hz hk hce hcv hcl => ?_)
  subst hP
  refine vx_catch (own := RL) (name := zIS) hown [⟨0, 10, 13, 20⟩, ⟨0, 10, 17, 13⟩] ⟨0, 10, 21, 15⟩ [] (htab.trans rfl) (fun z hz => by rcases List.mem_cons.mp hz with rfl | hz2; (exact Or.inr ⟨by decide, _, (hts _ (List.mem_of_getElem? (i := 1) rfl)), hE.2.2.1 (zIS, zIO) (by decide)⟩); cases List.mem_singleton.mp hz2; exact Or.inr ⟨by decide, _, (hts _ (List.mem_of_getElem? (i := 2) rfl)), hE.2.2.1 (zIS, zIA) (by decide)⟩) rfl (by decide) (hts _ (List.mem_of_getElem? (i := 3) rfl)) (va_tabs (zEw_ok _ zc_zIS).1 rfl (hE.1 _ zc_zIS)) hce hcv hcl ?_
  have hS := z_Sgrow hS hz hk
  refine W.eq (g2 := F0 m 21 ls [.ref q1]) rfl ?_
  refine lv_astore (lv' := [(4, .ref q1), (0, .ref b), (1, .int (nI p)), (2, .int (nI o)), (3, .ref qo)]) hx hb dL_listen_21 hl (by decide) rfl (fun ls hl => ?_)
  refine lv_iconst (v := 3) hx hb dL_listen_23 (by decide) ?_
  refine W.widen (k := 1) (n := 6) (by omega) (by omega) ?_
  exact z_iretM hz hx hb hr hlocks hS dL_listen_24
set_option maxHeartbeats 4000000 in
set_option maxRecDepth 100000 in
/-- zcL_raise_k -/
theorem zcL_raise_k (l : Launch) (D : va_G) (cI cL : ClassId) (H : Heap) (B0 qo : Nat) (f : Nat → Int64) (b : Nat) (n : Nat) (me : Nat → Int32) (lo : Nat → Int32) (c : Nat → Nat) (e : Nat → Nat) (rd : Int32) (tk : Int32) (g : zG) (p : Nat) (x : Nat) (hC : zCW D cI b n me lo c e rd tk g H) (hI : zI n me lo c e) (hp : p < n) (hx1 : 1 ≤ x) (hx2 : x ≤ 5) (hO : va_P D vwCl [(qo, .inl (cL, 1, .inr (.inl f)))] H) (hqd : b + 61 ≤ qo ∨ qo < b) : Met l yL_raise wsL_raise ({ frames := 3, cells := 0, slots := 0, locals := 67 } : Room) (zPx D [(cI, .int), (cL, .long)] H B0 [.ref b, .int (nI p), .int (nI x), .ref qo]) (zM (fun H1 => zCW D cI b n me (upd lo p (nI x)) c e rd tk g H1 ∧ va_P D vwCl [(qo, .inl (cL, 1, .inr (.inl (vp_updL f 0 ((lo p)).toInt64))))] H1 ∧ H1.size = H.size) (some (.int 0)) (fun z => zF b (b + 61) z ∨ z = qo)) 0 0 (fun z => zF b (b + 61) z ∨ z = qo) := by
  refine z_wenter (cc := cL_raise) (maxL := 5) (ret := some .int) (hh := [(0, 10, 13, 20), (0, 10, 17, 13)]) (by decide) rfl (Nat.le_of_ble_eq_true rfl) ?_
  intro pg ev s m args below meth cd hfix hr hlocks htab hK hHs hE ls hl
  have hK1 : va_K D vwCl [(cI, .int)] s := hK.sub [0] rfl
  obtain ⟨hx, hb, hml, hown, hts⟩ := id hfix
  have hl : lv_has ls 5 [(0, .ref b), (1, .int (nI p)), (2, .int (nI x)), (3, .ref qo)] := hl
  have hS : va_S (fun z => zF b (b + 61) z ∨ z = qo) s.heap H [] := by rw [hHs]; exact va_S.rf
  have hJ : va_P D vwCl (zPJ b) H := hC.1
  refine lv_aload_n hx hb dL_raise_0 rfl (lv_at hl 3 rfl) ?_
  refine lv_iconst (v := 0) hx hb dL_raise_1 (by decide) ?_
  refine lv_aload_n hx hb dL_raise_2 rfl (lv_at hl 0 rfl) ?_
  refine lv_iload_n hx hb dL_raise_3 rfl (lv_at hl 1 rfl) ?_
  refine lv_iload_n hx hb dL_raise_4 rfl (lv_at hl 2 rfl) ?_
  refine z_mi (va_runV (As := [.int (nI p), .int (nI x)]) (rest := [.int 0, .ref qo]) hfix (zcX4_raise_k l D cI H b n me lo c e rd tk g p x hC hI hp hx1 hx2) (cwV 2 hts gL_raise_X4_raise rfl rfl rfl (by decide +kernel) ⟨Nat.le_of_ble_eq_true rfl, Nat.le_of_ble_eq_true rfl⟩) (z_preV hK1 hK1 hJ (ci := 4) (q0 := 0) rfl rfl rfl) rfl rfl hl.1 rfl (lv_room (Nat.le_of_ble_eq_true rfl)) dL_raise_5 ⟨Nat.le_of_ble_eq_true rfl, Nat.le_of_ble_eq_true rfl⟩) hS (fun z _ h => Or.inl h) (fun z h => Or.inl h) (fun H1 lo1 hB hz1 hk1 hS => ?_)
  have hB1 := hB.1
  have hz0 : H1.size = H.size := hB.2
  have hO1 := zOb_kept hO (fun z h1 h2 h3 => hk1 z h1 (fun h4 => by simp only [zF] at h4; omega))
  refine lv_i2l (v := ((lo p)).toInt64) hx hb dL_raise_8 rfl ?_
  refine z_last hx hb hK hO1 (Or.inr rfl) hS 0 1 rfl rfl (j := 0) rfl (by omega) (by omega) dL_raise_9 (fun H2 lo2 hP1 hz1 hk1 hS => ?_)
  refine lv_goto (tgt := 21) hx hb dL_raise_10 (by decide) ?_
  refine lv_iconst (v := 0) hx hb dL_raise_21 (by decide) ?_
  exact z_iretM ⟨zCW_kept hB1 (fun z h1 h2 h3 => hk1 z (by omega)), hP1, hz1.trans hz0⟩ hx hb hr hlocks hS dL_raise_22
set_option maxHeartbeats 4000000 in
set_option maxRecDepth 100000 in
/-- zcL_raise_b1 -/
theorem zcL_raise_b1 (l : Launch) (D : va_G) (cI cL : ClassId) (H : Heap) (B0 qo : Nat) (hlt : l.stackTraces = false) (hB0 : B0 ≤ H.size) (b : Nat) (n : Nat) (me : Nat → Int32) (lo : Nat → Int32) (c : Nat → Nat) (e : Nat → Nat) (rd : Int32) (tk : Int32) (g : zG) (x : Int32) (y : Int32) (hC : zCW D cI b n me lo c e rd tk g H) (hI : zI n me lo c e) (hx9 : ¬ ∃ j, j < n ∧ x = nI j) : Met l yL_raise wsL_raise ({ frames := 8, cells := 1, slots := 6, locals := 126 } : Room) (zPx D [(cI, .int), (cL, .long)] H B0 [.ref b, .int x, .int y, .ref qo]) (zM (fun H1 => H.size ≤ H1.size) (some (.int 1)) (fun z => H.size ≤ z)) 1 6 (fun z => H.size ≤ z) := by
  refine z_wenter (cc := cL_raise) (maxL := 5) (ret := some .int) (hh := [(0, 10, 13, 20), (0, 10, 17, 13)]) (by decide) rfl (Nat.le_of_ble_eq_true rfl) ?_
  intro pg ev s m args below meth cd hfix hr hlocks htab hK hHs hE ls hl
  have hK1 : va_K D vwCl [(cI, .int)] s := hK.sub [0] rfl
  obtain ⟨hx, hb, hml, hown, hts⟩ := id hfix
  have hl : lv_has ls 5 [(0, .ref b), (1, .int x), (2, .int y), (3, .ref qo)] := hl
  have hS : va_S (fun z => H.size ≤ z) s.heap H [] := by rw [hHs]; exact va_S.rf
  have hJ : va_P D vwCl (zPJ b) H := hC.1
  refine lv_aload_n hx hb dL_raise_0 rfl (lv_at hl 3 rfl) ?_
  refine lv_iconst (v := 0) hx hb dL_raise_1 (by decide) ?_
  refine lv_aload_n hx hb dL_raise_2 rfl (lv_at hl 0 rfl) ?_
  refine lv_iload_n hx hb dL_raise_3 rfl (lv_at hl 1 rfl) ?_
  refine lv_iload_n hx hb dL_raise_4 rfl (lv_at hl 2 rfl) ?_
  refine z_xcall (fun _ h => h) (vx_runV (As := [.int x, .int y]) (rest := [.int 0, .ref qo]) hfix (zcX4_raise_b1 l D cI H hlt B0 hB0 b n me lo c e rd tk g x y hC hI hx9) (cwV 2 hts gL_raise_X4_raise rfl rfl rfl (by decide +kernel) ⟨Nat.le_of_ble_eq_true rfl, Nat.le_of_ble_eq_true rfl⟩) (z_xpreV hE (fun q _ _ => by rw [hHs]) hK1 hK1 hJ (ci := 4) (q0 := 0) rfl rfl rfl) rfl rfl hl.1 rfl (lv_room (Nat.le_of_ble_eq_true rfl)) dL_raise_5 ⟨Nat.le_of_ble_eq_true rfl, Nat.le_of_ble_eq_true rfl⟩) (fun E ce q1 H1 hP hz hk hce hcv hcl => ?_)
  subst hP
  refine vx_catch (own := RL) (name := zIO) hown [] ⟨0, 10, 13, 20⟩ [⟨0, 10, 17, 13⟩] (htab.trans rfl) (fun z hz => absurd hz List.not_mem_nil) rfl (by decide) (hts _ (List.mem_of_getElem? (i := 1) rfl)) (va_tabs (zEw_ok _ zc_zIO).1 rfl (hE.1 _ zc_zIO)) hce hcv hcl ?_
  have hS := z_Sgrow hS hz hk
  refine W.eq (g2 := F0 m 13 ls [.ref q1]) rfl ?_
  refine lv_astore (lv' := [(4, .ref q1), (0, .ref b), (1, .int x), (2, .int y), (3, .ref qo)]) hx hb dL_raise_13 hl (by decide) rfl (fun ls hl => ?_)
  refine lv_iconst (v := 1) hx hb dL_raise_15 (by decide) ?_
  refine W.widen (k := 1) (n := 6) (by omega) (by omega) ?_
  exact z_iretM hz hx hb hr hlocks hS dL_raise_16
set_option maxHeartbeats 4000000 in
set_option maxRecDepth 100000 in
/-- zcL_raise_b2 -/
theorem zcL_raise_b2 (l : Launch) (D : va_G) (cI cL : ClassId) (H : Heap) (B0 qo : Nat) (hlt : l.stackTraces = false) (hB0 : B0 ≤ H.size) (b : Nat) (n : Nat) (me : Nat → Int32) (lo : Nat → Int32) (c : Nat → Nat) (e : Nat → Nat) (rd : Int32) (tk : Int32) (g : zG) (p : Nat) (y : Int32) (hC : zCW D cI b n me lo c e rd tk g H) (hI : zI n me lo c e) (hp : p < n) (hx9 : y < 1 ∨ ¬ y ≤ 5) : Met l yL_raise wsL_raise ({ frames := 8, cells := 1, slots := 6, locals := 125 } : Room) (zPx D [(cI, .int), (cL, .long)] H B0 [.ref b, .int (nI p), .int y, .ref qo]) (zM (fun H1 => H.size ≤ H1.size) (some (.int 2)) (fun z => H.size ≤ z)) 1 6 (fun z => H.size ≤ z) := by
  refine z_wenter (cc := cL_raise) (maxL := 5) (ret := some .int) (hh := [(0, 10, 13, 20), (0, 10, 17, 13)]) (by decide) rfl (Nat.le_of_ble_eq_true rfl) ?_
  intro pg ev s m args below meth cd hfix hr hlocks htab hK hHs hE ls hl
  have hK1 : va_K D vwCl [(cI, .int)] s := hK.sub [0] rfl
  obtain ⟨hx, hb, hml, hown, hts⟩ := id hfix
  have hl : lv_has ls 5 [(0, .ref b), (1, .int (nI p)), (2, .int y), (3, .ref qo)] := hl
  have hS : va_S (fun z => H.size ≤ z) s.heap H [] := by rw [hHs]; exact va_S.rf
  have hJ : va_P D vwCl (zPJ b) H := hC.1
  refine lv_aload_n hx hb dL_raise_0 rfl (lv_at hl 3 rfl) ?_
  refine lv_iconst (v := 0) hx hb dL_raise_1 (by decide) ?_
  refine lv_aload_n hx hb dL_raise_2 rfl (lv_at hl 0 rfl) ?_
  refine lv_iload_n hx hb dL_raise_3 rfl (lv_at hl 1 rfl) ?_
  refine lv_iload_n hx hb dL_raise_4 rfl (lv_at hl 2 rfl) ?_
  refine z_xcall (fun _ h => h) (vx_runV (As := [.int (nI p), .int y]) (rest := [.int 0, .ref qo]) hfix (zcX4_raise_b2 l D cI H hlt B0 hB0 b n me lo c e rd tk g p y hC hI hp hx9) (cwV 2 hts gL_raise_X4_raise rfl rfl rfl (by decide +kernel) ⟨Nat.le_of_ble_eq_true rfl, Nat.le_of_ble_eq_true rfl⟩) (z_xpreV hE (fun q _ _ => by rw [hHs]) hK1 hK1 hJ (ci := 4) (q0 := 0) rfl rfl rfl) rfl rfl hl.1 rfl (lv_room (Nat.le_of_ble_eq_true rfl)) dL_raise_5 ⟨Nat.le_of_ble_eq_true rfl, Nat.le_of_ble_eq_true rfl⟩) (fun E ce q1 H1 hP hz hk hce hcv hcl => ?_)
  subst hP
  refine vx_catch (own := RL) (name := zIA) hown [⟨0, 10, 13, 20⟩] ⟨0, 10, 17, 13⟩ [] (htab.trans rfl) (fun z hz => by cases List.mem_singleton.mp hz; exact Or.inr ⟨by decide, _, (hts _ (List.mem_of_getElem? (i := 1) rfl)), hE.2.2.1 (zIA, zIO) (by decide)⟩) rfl (by decide) (hts _ (List.mem_of_getElem? (i := 2) rfl)) (va_tabs (zEw_ok _ zc_zIA).1 rfl (hE.1 _ zc_zIA)) hce hcv hcl ?_
  have hS := z_Sgrow hS hz hk
  refine W.eq (g2 := F0 m 17 ls [.ref q1]) rfl ?_
  refine lv_astore (lv' := [(4, .ref q1), (0, .ref b), (1, .int (nI p)), (2, .int y), (3, .ref qo)]) hx hb dL_raise_17 hl (by decide) rfl (fun ls hl => ?_)
  refine lv_iconst (v := 2) hx hb dL_raise_19 (by decide) ?_
  refine W.widen (k := 1) (n := 6) (by omega) (by omega) ?_
  exact z_iretM hz hx hb hr hlocks hS dL_raise_20
set_option maxHeartbeats 4000000 in
set_option maxRecDepth 100000 in
/-- zcL_whisper_k -/
theorem zcL_whisper_k (l : Launch) (D : va_G) (cI cL : ClassId) (H : Heap) (B0 qo : Nat) (f : Nat → Int64) (b : Nat) (n : Nat) (me : Nat → Int32) (lo : Nat → Int32) (c : Nat → Nat) (e : Nat → Nat) (rd : Int32) (tk : Int32) (g : zG) (p : Nat) (w : Nat) (z : Nat) (hC : zCW D cI b n me lo c e rd tk g H) (hI : zI n me lo c e) (hp : p < n) (hw : w ≤ 9999) (hz9 : z ≤ 9) (hO : va_P D vwCl [(qo, .inl (cL, 1, .inr (.inl f)))] H) (hqd : b + 61 ≤ qo ∨ qo < b) : Met l yL_whisper wsL_whisper ({ frames := 4, cells := 0, slots := 0, locals := 91 } : Room) (zPx D [(cI, .int), (cL, .long)] H B0 [.ref b, .int (nI p), .int (nI w), .int (nI z), .ref qo]) (zM (fun H1 => zCW D cI b n me lo c e rd tk (wh g p (nI w) (nI z)) H1 ∧ va_P D vwCl [(qo, .inl (cL, 1, .inr (.inl (vp_updL f 0 ((wd g p)).toInt64))))] H1 ∧ H1.size = H.size) (some (.int 0)) (fun z => zF b (b + 61) z ∨ z = qo)) 0 0 (fun z => zF b (b + 61) z ∨ z = qo) := by
  refine z_wenter (cc := cL_whisper) (maxL := 6) (ret := some .int) (hh := [(0, 12, 15, 20), (0, 12, 19, 13)]) (by decide) rfl (Nat.le_of_ble_eq_true rfl) ?_
  intro pg ev s m args below meth cd hfix hr hlocks htab hK hHs hE ls hl
  have hK1 : va_K D vwCl [(cI, .int)] s := hK.sub [0] rfl
  obtain ⟨hx, hb, hml, hown, hts⟩ := id hfix
  have hl : lv_has ls 6 [(0, .ref b), (1, .int (nI p)), (2, .int (nI w)), (3, .int (nI z)), (4, .ref qo)] := hl
  have hS : va_S (fun z => zF b (b + 61) z ∨ z = qo) s.heap H [] := by rw [hHs]; exact va_S.rf
  have hJ : va_P D vwCl (zPJ b) H := hC.1
  refine lv_aload hx hb dL_whisper_0 (lv_at hl 4 rfl) ?_
  refine lv_iconst (v := 0) hx hb dL_whisper_2 (by decide) ?_
  refine lv_aload_n hx hb dL_whisper_3 rfl (lv_at hl 0 rfl) ?_
  refine lv_iload_n hx hb dL_whisper_4 rfl (lv_at hl 1 rfl) ?_
  refine lv_iload_n hx hb dL_whisper_5 rfl (lv_at hl 2 rfl) ?_
  refine lv_iload_n hx hb dL_whisper_6 rfl (lv_at hl 3 rfl) ?_
  refine z_mi (va_runV (As := [.int (nI p), .int (nI w), .int (nI z)]) (rest := [.int 0, .ref qo]) hfix (zcX4_whisper_k l D cI H b n me lo c e rd tk g p w z hC hI hp hw hz9) (cwV 3 hts gL_whisper_X4_whisper rfl rfl rfl (by decide +kernel) ⟨Nat.le_of_ble_eq_true rfl, Nat.le_of_ble_eq_true rfl⟩) (z_preV hK1 hK1 hJ (ci := 4) (q0 := 0) rfl rfl rfl) rfl rfl hl.1 rfl (lv_room (Nat.le_of_ble_eq_true rfl)) dL_whisper_7 ⟨Nat.le_of_ble_eq_true rfl, Nat.le_of_ble_eq_true rfl⟩) hS (fun z _ h => Or.inl h) (fun z h => Or.inl h) (fun H1 lo1 hB hz1 hk1 hS => ?_)
  have hB1 := hB.1
  have hz0 : H1.size = H.size := hB.2
  have hO1 := zOb_kept hO (fun z h1 h2 h3 => hk1 z h1 (fun h4 => by simp only [zF] at h4; omega))
  refine lv_i2l (v := ((wd g p)).toInt64) hx hb dL_whisper_10 rfl ?_
  refine z_last hx hb hK hO1 (Or.inr rfl) hS 0 1 rfl rfl (j := 0) rfl (by omega) (by omega) dL_whisper_11 (fun H2 lo2 hP1 hz1 hk1 hS => ?_)
  refine lv_goto (tgt := 23) hx hb dL_whisper_12 (by decide) ?_
  refine lv_iconst (v := 0) hx hb dL_whisper_23 (by decide) ?_
  exact z_iretM ⟨zCW_kept hB1 (fun z h1 h2 h3 => hk1 z (by omega)), hP1, hz1.trans hz0⟩ hx hb hr hlocks hS dL_whisper_24
set_option maxHeartbeats 4000000 in
set_option maxRecDepth 100000 in
/-- zcL_whisper_b1 -/
theorem zcL_whisper_b1 (l : Launch) (D : va_G) (cI cL : ClassId) (H : Heap) (B0 qo : Nat) (hlt : l.stackTraces = false) (hB0 : B0 ≤ H.size) (b : Nat) (n : Nat) (me : Nat → Int32) (lo : Nat → Int32) (c : Nat → Nat) (e : Nat → Nat) (rd : Int32) (tk : Int32) (g : zG) (x : Int32) (y : Int32) (z : Int32) (hC : zCW D cI b n me lo c e rd tk g H) (hI : zI n me lo c e) (hx9 : ¬ ∃ j, j < n ∧ x = nI j) : Met l yL_whisper wsL_whisper ({ frames := 8, cells := 1, slots := 6, locals := 127 } : Room) (zPx D [(cI, .int), (cL, .long)] H B0 [.ref b, .int x, .int y, .int z, .ref qo]) (zM (fun H1 => H.size ≤ H1.size) (some (.int 1)) (fun z => H.size ≤ z)) 1 6 (fun z => H.size ≤ z) := by
  refine z_wenter (cc := cL_whisper) (maxL := 6) (ret := some .int) (hh := [(0, 12, 15, 20), (0, 12, 19, 13)]) (by decide) rfl (Nat.le_of_ble_eq_true rfl) ?_
  intro pg ev s m args below meth cd hfix hr hlocks htab hK hHs hE ls hl
  have hK1 : va_K D vwCl [(cI, .int)] s := hK.sub [0] rfl
  obtain ⟨hx, hb, hml, hown, hts⟩ := id hfix
  have hl : lv_has ls 6 [(0, .ref b), (1, .int x), (2, .int y), (3, .int z), (4, .ref qo)] := hl
  have hS : va_S (fun z => H.size ≤ z) s.heap H [] := by rw [hHs]; exact va_S.rf
  have hJ : va_P D vwCl (zPJ b) H := hC.1
  refine lv_aload hx hb dL_whisper_0 (lv_at hl 4 rfl) ?_
  refine lv_iconst (v := 0) hx hb dL_whisper_2 (by decide) ?_
  refine lv_aload_n hx hb dL_whisper_3 rfl (lv_at hl 0 rfl) ?_
  refine lv_iload_n hx hb dL_whisper_4 rfl (lv_at hl 1 rfl) ?_
  refine lv_iload_n hx hb dL_whisper_5 rfl (lv_at hl 2 rfl) ?_
  refine lv_iload_n hx hb dL_whisper_6 rfl (lv_at hl 3 rfl) ?_
  refine z_xcall (fun _ h => h) (vx_runV (As := [.int x, .int y, .int z]) (rest := [.int 0, .ref qo]) hfix (zcX4_whisper_b1 l D cI H hlt B0 hB0 b n me lo c e rd tk g x y z hC hI hx9) (cwV 3 hts gL_whisper_X4_whisper rfl rfl rfl (by decide +kernel) ⟨Nat.le_of_ble_eq_true rfl, Nat.le_of_ble_eq_true rfl⟩) (z_xpreV hE (fun q _ _ => by rw [hHs]) hK1 hK1 hJ (ci := 4) (q0 := 0) rfl rfl rfl) rfl rfl hl.1 rfl (lv_room (Nat.le_of_ble_eq_true rfl)) dL_whisper_7 ⟨Nat.le_of_ble_eq_true rfl, Nat.le_of_ble_eq_true rfl⟩) (fun E ce q1 H1 hP hz hk hce hcv hcl => ?_)
  subst hP
  refine vx_catch (own := RL) (name := zIO) hown [] ⟨0, 12, 15, 20⟩ [⟨0, 12, 19, 13⟩] (htab.trans rfl) (fun z hz => absurd hz List.not_mem_nil) rfl (by decide) (hts _ (List.mem_of_getElem? (i := 1) rfl)) (va_tabs (zEw_ok _ zc_zIO).1 rfl (hE.1 _ zc_zIO)) hce hcv hcl ?_
  have hS := z_Sgrow hS hz hk
  refine W.eq (g2 := F0 m 15 ls [.ref q1]) rfl ?_
  refine lv_astore (lv' := [(5, .ref q1), (0, .ref b), (1, .int x), (2, .int y), (3, .int z), (4, .ref qo)]) hx hb dL_whisper_15 hl (by decide) rfl (fun ls hl => ?_)
  refine lv_iconst (v := 1) hx hb dL_whisper_17 (by decide) ?_
  refine W.widen (k := 1) (n := 6) (by omega) (by omega) ?_
  exact z_iretM hz hx hb hr hlocks hS dL_whisper_18
set_option maxHeartbeats 4000000 in
set_option maxRecDepth 100000 in
/-- zcL_whisper_b2 -/
theorem zcL_whisper_b2 (l : Launch) (D : va_G) (cI cL : ClassId) (H : Heap) (B0 qo : Nat) (hlt : l.stackTraces = false) (hB0 : B0 ≤ H.size) (b : Nat) (n : Nat) (me : Nat → Int32) (lo : Nat → Int32) (c : Nat → Nat) (e : Nat → Nat) (rd : Int32) (tk : Int32) (g : zG) (p : Nat) (y : Int32) (z : Int32) (hC : zCW D cI b n me lo c e rd tk g H) (hI : zI n me lo c e) (hp : p < n) (hx9 : y < 0 ∨ ¬ y ≤ 9999) : Met l yL_whisper wsL_whisper ({ frames := 8, cells := 1, slots := 6, locals := 126 } : Room) (zPx D [(cI, .int), (cL, .long)] H B0 [.ref b, .int (nI p), .int y, .int z, .ref qo]) (zM (fun H1 => H.size ≤ H1.size) (some (.int 2)) (fun z => H.size ≤ z)) 1 6 (fun z => H.size ≤ z) := by
  refine z_wenter (cc := cL_whisper) (maxL := 6) (ret := some .int) (hh := [(0, 12, 15, 20), (0, 12, 19, 13)]) (by decide) rfl (Nat.le_of_ble_eq_true rfl) ?_
  intro pg ev s m args below meth cd hfix hr hlocks htab hK hHs hE ls hl
  have hK1 : va_K D vwCl [(cI, .int)] s := hK.sub [0] rfl
  obtain ⟨hx, hb, hml, hown, hts⟩ := id hfix
  have hl : lv_has ls 6 [(0, .ref b), (1, .int (nI p)), (2, .int y), (3, .int z), (4, .ref qo)] := hl
  have hS : va_S (fun z => H.size ≤ z) s.heap H [] := by rw [hHs]; exact va_S.rf
  have hJ : va_P D vwCl (zPJ b) H := hC.1
  refine lv_aload hx hb dL_whisper_0 (lv_at hl 4 rfl) ?_
  refine lv_iconst (v := 0) hx hb dL_whisper_2 (by decide) ?_
  refine lv_aload_n hx hb dL_whisper_3 rfl (lv_at hl 0 rfl) ?_
  refine lv_iload_n hx hb dL_whisper_4 rfl (lv_at hl 1 rfl) ?_
  refine lv_iload_n hx hb dL_whisper_5 rfl (lv_at hl 2 rfl) ?_
  refine lv_iload_n hx hb dL_whisper_6 rfl (lv_at hl 3 rfl) ?_
  refine z_xcall (fun _ h => h) (vx_runV (As := [.int (nI p), .int y, .int z]) (rest := [.int 0, .ref qo]) hfix (zcX4_whisper_b2 l D cI H hlt B0 hB0 b n me lo c e rd tk g p y z hC hI hp hx9) (cwV 3 hts gL_whisper_X4_whisper rfl rfl rfl (by decide +kernel) ⟨Nat.le_of_ble_eq_true rfl, Nat.le_of_ble_eq_true rfl⟩) (z_xpreV hE (fun q _ _ => by rw [hHs]) hK1 hK1 hJ (ci := 4) (q0 := 0) rfl rfl rfl) rfl rfl hl.1 rfl (lv_room (Nat.le_of_ble_eq_true rfl)) dL_whisper_7 ⟨Nat.le_of_ble_eq_true rfl, Nat.le_of_ble_eq_true rfl⟩) (fun E ce q1 H1 hP hz hk hce hcv hcl => ?_)
  subst hP
  refine vx_catch (own := RL) (name := zIA) hown [⟨0, 12, 15, 20⟩] ⟨0, 12, 19, 13⟩ [] (htab.trans rfl) (fun z hz => by cases List.mem_singleton.mp hz; exact Or.inr ⟨by decide, _, (hts _ (List.mem_of_getElem? (i := 1) rfl)), hE.2.2.1 (zIA, zIO) (by decide)⟩) rfl (by decide) (hts _ (List.mem_of_getElem? (i := 2) rfl)) (va_tabs (zEw_ok _ zc_zIA).1 rfl (hE.1 _ zc_zIA)) hce hcv hcl ?_
  have hS := z_Sgrow hS hz hk
  refine W.eq (g2 := F0 m 19 ls [.ref q1]) rfl ?_
  refine lv_astore (lv' := [(5, .ref q1), (0, .ref b), (1, .int (nI p)), (2, .int y), (3, .int z), (4, .ref qo)]) hx hb dL_whisper_19 hl (by decide) rfl (fun ls hl => ?_)
  refine lv_iconst (v := 2) hx hb dL_whisper_21 (by decide) ?_
  refine W.widen (k := 1) (n := 6) (by omega) (by omega) ?_
  exact z_iretM hz hx hb hr hlocks hS dL_whisper_22
set_option maxHeartbeats 4000000 in
set_option maxRecDepth 100000 in
/-- zcL_whisper_b3 -/
theorem zcL_whisper_b3 (l : Launch) (D : va_G) (cI cL : ClassId) (H : Heap) (B0 qo : Nat) (hlt : l.stackTraces = false) (hB0 : B0 ≤ H.size) (b : Nat) (n : Nat) (me : Nat → Int32) (lo : Nat → Int32) (c : Nat → Nat) (e : Nat → Nat) (rd : Int32) (tk : Int32) (g : zG) (p : Nat) (w : Nat) (z : Int32) (hC : zCW D cI b n me lo c e rd tk g H) (hI : zI n me lo c e) (hp : p < n) (hw : w ≤ 9999) (hx9 : z < 0 ∨ ¬ z ≤ 9) : Met l yL_whisper wsL_whisper ({ frames := 7, cells := 1, slots := 6, locals := 106 } : Room) (zPx D [(cI, .int), (cL, .long)] H B0 [.ref b, .int (nI p), .int (nI w), .int z, .ref qo]) (zM (fun H1 => H.size ≤ H1.size) (some (.int 2)) (fun z => H.size ≤ z)) 1 6 (fun z => H.size ≤ z) := by
  refine z_wenter (cc := cL_whisper) (maxL := 6) (ret := some .int) (hh := [(0, 12, 15, 20), (0, 12, 19, 13)]) (by decide) rfl (Nat.le_of_ble_eq_true rfl) ?_
  intro pg ev s m args below meth cd hfix hr hlocks htab hK hHs hE ls hl
  have hK1 : va_K D vwCl [(cI, .int)] s := hK.sub [0] rfl
  obtain ⟨hx, hb, hml, hown, hts⟩ := id hfix
  have hl : lv_has ls 6 [(0, .ref b), (1, .int (nI p)), (2, .int (nI w)), (3, .int z), (4, .ref qo)] := hl
  have hS : va_S (fun z => H.size ≤ z) s.heap H [] := by rw [hHs]; exact va_S.rf
  have hJ : va_P D vwCl (zPJ b) H := hC.1
  refine lv_aload hx hb dL_whisper_0 (lv_at hl 4 rfl) ?_
  refine lv_iconst (v := 0) hx hb dL_whisper_2 (by decide) ?_
  refine lv_aload_n hx hb dL_whisper_3 rfl (lv_at hl 0 rfl) ?_
  refine lv_iload_n hx hb dL_whisper_4 rfl (lv_at hl 1 rfl) ?_
  refine lv_iload_n hx hb dL_whisper_5 rfl (lv_at hl 2 rfl) ?_
  refine lv_iload_n hx hb dL_whisper_6 rfl (lv_at hl 3 rfl) ?_
  refine z_xcall (fun _ h => h) (vx_runV (As := [.int (nI p), .int (nI w), .int z]) (rest := [.int 0, .ref qo]) hfix (zcX4_whisper_b3 l D cI H hlt B0 hB0 b n me lo c e rd tk g p w z hC hI hp hw hx9) (cwV 3 hts gL_whisper_X4_whisper rfl rfl rfl (by decide +kernel) ⟨Nat.le_of_ble_eq_true rfl, Nat.le_of_ble_eq_true rfl⟩) (z_xpreV hE (fun q _ _ => by rw [hHs]) hK1 hK1 hJ (ci := 4) (q0 := 0) rfl rfl rfl) rfl rfl hl.1 rfl (lv_room (Nat.le_of_ble_eq_true rfl)) dL_whisper_7 ⟨Nat.le_of_ble_eq_true rfl, Nat.le_of_ble_eq_true rfl⟩) (fun E ce q1 H1 hP hz hk hce hcv hcl => ?_)
  subst hP
  refine vx_catch (own := RL) (name := zIA) hown [⟨0, 12, 15, 20⟩] ⟨0, 12, 19, 13⟩ [] (htab.trans rfl) (fun z hz => by cases List.mem_singleton.mp hz; exact Or.inr ⟨by decide, _, (hts _ (List.mem_of_getElem? (i := 1) rfl)), hE.2.2.1 (zIA, zIO) (by decide)⟩) rfl (by decide) (hts _ (List.mem_of_getElem? (i := 2) rfl)) (va_tabs (zEw_ok _ zc_zIA).1 rfl (hE.1 _ zc_zIA)) hce hcv hcl ?_
  have hS := z_Sgrow hS hz hk
  refine W.eq (g2 := F0 m 19 ls [.ref q1]) rfl ?_
  refine lv_astore (lv' := [(5, .ref q1), (0, .ref b), (1, .int (nI p)), (2, .int (nI w)), (3, .int z), (4, .ref qo)]) hx hb dL_whisper_19 hl (by decide) rfl (fun ls hl => ?_)
  refine lv_iconst (v := 2) hx hb dL_whisper_21 (by decide) ?_
  refine W.widen (k := 1) (n := 6) (by omega) (by omega) ?_
  exact z_iretM hz hx hb hr hlocks hS dL_whisper_22
set_option maxHeartbeats 4000000 in
set_option maxRecDepth 100000 in
/-- zcL_parrot_k -/
theorem zcL_parrot_k (l : Launch) (D : va_G) (cI cL : ClassId) (H : Heap) (B0 qo : Nat) (f : Nat → Int64) (b : Nat) (n : Nat) (me : Nat → Int32) (lo : Nat → Int32) (c : Nat → Nat) (e : Nat → Nat) (rd : Int32) (tk : Int32) (g : zG) (p : Nat) (q : Nat) (hC : zCW D cI b n me lo c e rd tk g H) (hI : zI n me lo c e) (hp : p < n) (hq : q ≤ 6) (hO : va_P D vwCl [(qo, .inl (cL, 1, .inr (.inl f)))] H) (hqd : b + 61 ≤ qo ∨ qo < b) : Met l yL_parrot wsL_parrot ({ frames := 6, cells := 0, slots := 0, locals := 134 } : Room) (zPx D [(cI, .int), (cL, .long)] H B0 [.ref b, .int (nI p), .int (nI q), .ref qo]) (zM (fun H1 => zCW D cI b n me lo c e rd tk g H1 ∧ va_P D vwCl [(qo, .inl (cL, 1, .inr (.inl (vp_updL f 0 ((tp n g me lo c e p q)).toInt64))))] H1 ∧ H1.size = H.size) (some (.int 0)) (fun z => zF b (b + 61) z ∨ z = qo)) 0 0 (fun z => zF b (b + 61) z ∨ z = qo) := by
  refine z_wenter (cc := cL_parrot) (maxL := 5) (ret := some .int) (hh := [(0, 10, 13, 20)]) (by decide) rfl (Nat.le_of_ble_eq_true rfl) ?_
  intro pg ev s m args below meth cd hfix hr hlocks htab hK hHs hE ls hl
  have hK1 : va_K D vwCl [(cI, .int)] s := hK.sub [0] rfl
  obtain ⟨hx, hb, hml, hown, hts⟩ := id hfix
  have hl : lv_has ls 5 [(0, .ref b), (1, .int (nI p)), (2, .int (nI q)), (3, .ref qo)] := hl
  have hS : va_S (fun z => zF b (b + 61) z ∨ z = qo) s.heap H [] := by rw [hHs]; exact va_S.rf
  have hJ : va_P D vwCl (zPJ b) H := hC.1
  refine lv_aload_n hx hb dL_parrot_0 rfl (lv_at hl 3 rfl) ?_
  refine lv_iconst (v := 0) hx hb dL_parrot_1 (by decide) ?_
  refine lv_aload_n hx hb dL_parrot_2 rfl (lv_at hl 0 rfl) ?_
  refine lv_iload_n hx hb dL_parrot_3 rfl (lv_at hl 1 rfl) ?_
  refine lv_iload_n hx hb dL_parrot_4 rfl (lv_at hl 2 rfl) ?_
  refine z_ki (va_runV (As := [.int (nI p), .int (nI q)]) (rest := [.int 0, .ref qo]) hfix (zcX4_parrot_k l D cI H b n me lo c e rd tk g p q hC hI hp hq) (cwV 2 hts gL_parrot_X4_parrot rfl rfl rfl (by decide +kernel) ⟨Nat.le_of_ble_eq_true rfl, Nat.le_of_ble_eq_true rfl⟩) (z_preV hK1 hK1 hJ (ci := 4) (q0 := 0) rfl rfl rfl) rfl rfl hl.1 rfl (lv_room (Nat.le_of_ble_eq_true rfl)) dL_parrot_5 ⟨Nat.le_of_ble_eq_true rfl, Nat.le_of_ble_eq_true rfl⟩) ?_
  have hB1 := hC
  have hO1 := hO
  have hz0 : H.size = H.size := rfl
  refine lv_i2l (v := ((tp n g me lo c e p q)).toInt64) hx hb dL_parrot_8 rfl ?_
  refine z_last hx hb hK hO1 (Or.inr rfl) hS 0 1 rfl rfl (j := 0) rfl (by omega) (by omega) dL_parrot_9 (fun H2 lo2 hP1 hz1 hk1 hS => ?_)
  refine lv_goto (tgt := 17) hx hb dL_parrot_10 (by decide) ?_
  refine lv_iconst (v := 0) hx hb dL_parrot_17 (by decide) ?_
  exact z_iretM ⟨zCW_kept hB1 (fun z h1 h2 h3 => hk1 z (by omega)), hP1, hz1.trans hz0⟩ hx hb hr hlocks hS dL_parrot_18
set_option maxHeartbeats 4000000 in
set_option maxRecDepth 100000 in
/-- zcL_parrot_b1 -/
theorem zcL_parrot_b1 (l : Launch) (D : va_G) (cI cL : ClassId) (H : Heap) (B0 qo : Nat) (hlt : l.stackTraces = false) (hB0 : B0 ≤ H.size) (b : Nat) (n : Nat) (me : Nat → Int32) (lo : Nat → Int32) (c : Nat → Nat) (e : Nat → Nat) (rd : Int32) (tk : Int32) (g : zG) (x : Int32) (y : Int32) (hC : zCW D cI b n me lo c e rd tk g H) (hI : zI n me lo c e) (hx9 : ¬ ∃ j, j < n ∧ x = nI j) : Met l yL_parrot wsL_parrot ({ frames := 8, cells := 1, slots := 6, locals := 125 } : Room) (zPx D [(cI, .int), (cL, .long)] H B0 [.ref b, .int x, .int y, .ref qo]) (zM (fun H1 => H.size ≤ H1.size) (some (.int 1)) (fun z => H.size ≤ z)) 1 6 (fun z => H.size ≤ z) := by
  refine z_wenter (cc := cL_parrot) (maxL := 5) (ret := some .int) (hh := [(0, 10, 13, 20)]) (by decide) rfl (Nat.le_of_ble_eq_true rfl) ?_
  intro pg ev s m args below meth cd hfix hr hlocks htab hK hHs hE ls hl
  have hK1 : va_K D vwCl [(cI, .int)] s := hK.sub [0] rfl
  obtain ⟨hx, hb, hml, hown, hts⟩ := id hfix
  have hl : lv_has ls 5 [(0, .ref b), (1, .int x), (2, .int y), (3, .ref qo)] := hl
  have hS : va_S (fun z => H.size ≤ z) s.heap H [] := by rw [hHs]; exact va_S.rf
  have hJ : va_P D vwCl (zPJ b) H := hC.1
  refine lv_aload_n hx hb dL_parrot_0 rfl (lv_at hl 3 rfl) ?_
  refine lv_iconst (v := 0) hx hb dL_parrot_1 (by decide) ?_
  refine lv_aload_n hx hb dL_parrot_2 rfl (lv_at hl 0 rfl) ?_
  refine lv_iload_n hx hb dL_parrot_3 rfl (lv_at hl 1 rfl) ?_
  refine lv_iload_n hx hb dL_parrot_4 rfl (lv_at hl 2 rfl) ?_
  refine z_xcall (fun _ h => h) (vx_runV (As := [.int x, .int y]) (rest := [.int 0, .ref qo]) hfix (zcX4_parrot_b1 l D cI H hlt B0 hB0 b n me lo c e rd tk g x y hC hI hx9) (cwV 2 hts gL_parrot_X4_parrot rfl rfl rfl (by decide +kernel) ⟨Nat.le_of_ble_eq_true rfl, Nat.le_of_ble_eq_true rfl⟩) (z_xpreV hE (fun q _ _ => by rw [hHs]) hK1 hK1 hJ (ci := 4) (q0 := 0) rfl rfl rfl) rfl rfl hl.1 rfl (lv_room (Nat.le_of_ble_eq_true rfl)) dL_parrot_5 ⟨Nat.le_of_ble_eq_true rfl, Nat.le_of_ble_eq_true rfl⟩) (fun E ce q1 H1 hP hz hk hce hcv hcl => ?_)
  subst hP
  refine vx_catch (own := RL) (name := zIO) hown [] ⟨0, 10, 13, 20⟩ [] (htab.trans rfl) (fun z hz => absurd hz List.not_mem_nil) rfl (by decide) (hts _ (List.mem_of_getElem? (i := 1) rfl)) (va_tabs (zEw_ok _ zc_zIO).1 rfl (hE.1 _ zc_zIO)) hce hcv hcl ?_
  have hS := z_Sgrow hS hz hk
  refine W.eq (g2 := F0 m 13 ls [.ref q1]) rfl ?_
  refine lv_astore (lv' := [(4, .ref q1), (0, .ref b), (1, .int x), (2, .int y), (3, .ref qo)]) hx hb dL_parrot_13 hl (by decide) rfl (fun ls hl => ?_)
  refine lv_iconst (v := 1) hx hb dL_parrot_15 (by decide) ?_
  refine W.widen (k := 1) (n := 6) (by omega) (by omega) ?_
  exact z_iretM hz hx hb hr hlocks hS dL_parrot_16
set_option maxHeartbeats 4000000 in
set_option maxRecDepth 100000 in
/-- zcL_parrot_b2 -/
theorem zcL_parrot_b2 (l : Launch) (D : va_G) (cI cL : ClassId) (H : Heap) (B0 qo : Nat) (hlt : l.stackTraces = false) (hB0 : B0 ≤ H.size) (b : Nat) (n : Nat) (me : Nat → Int32) (lo : Nat → Int32) (c : Nat → Nat) (e : Nat → Nat) (rd : Int32) (tk : Int32) (g : zG) (p : Nat) (y : Int32) (hC : zCW D cI b n me lo c e rd tk g H) (hI : zI n me lo c e) (hp : p < n) (hx9 : y < 0 ∨ ¬ y ≤ 6) : Met l yL_parrot wsL_parrot ({ frames := 8, cells := 1, slots := 6, locals := 125 } : Room) (zPx D [(cI, .int), (cL, .long)] H B0 [.ref b, .int (nI p), .int y, .ref qo]) (zM (fun H1 => H.size ≤ H1.size) (some (.int 1)) (fun z => H.size ≤ z)) 1 6 (fun z => H.size ≤ z) := by
  refine z_wenter (cc := cL_parrot) (maxL := 5) (ret := some .int) (hh := [(0, 10, 13, 20)]) (by decide) rfl (Nat.le_of_ble_eq_true rfl) ?_
  intro pg ev s m args below meth cd hfix hr hlocks htab hK hHs hE ls hl
  have hK1 : va_K D vwCl [(cI, .int)] s := hK.sub [0] rfl
  obtain ⟨hx, hb, hml, hown, hts⟩ := id hfix
  have hl : lv_has ls 5 [(0, .ref b), (1, .int (nI p)), (2, .int y), (3, .ref qo)] := hl
  have hS : va_S (fun z => H.size ≤ z) s.heap H [] := by rw [hHs]; exact va_S.rf
  have hJ : va_P D vwCl (zPJ b) H := hC.1
  refine lv_aload_n hx hb dL_parrot_0 rfl (lv_at hl 3 rfl) ?_
  refine lv_iconst (v := 0) hx hb dL_parrot_1 (by decide) ?_
  refine lv_aload_n hx hb dL_parrot_2 rfl (lv_at hl 0 rfl) ?_
  refine lv_iload_n hx hb dL_parrot_3 rfl (lv_at hl 1 rfl) ?_
  refine lv_iload_n hx hb dL_parrot_4 rfl (lv_at hl 2 rfl) ?_
  refine z_xcall (fun _ h => h) (vx_runV (As := [.int (nI p), .int y]) (rest := [.int 0, .ref qo]) hfix (zcX4_parrot_b2 l D cI H hlt B0 hB0 b n me lo c e rd tk g p y hC hI hp hx9) (cwV 2 hts gL_parrot_X4_parrot rfl rfl rfl (by decide +kernel) ⟨Nat.le_of_ble_eq_true rfl, Nat.le_of_ble_eq_true rfl⟩) (z_xpreV hE (fun q _ _ => by rw [hHs]) hK1 hK1 hJ (ci := 4) (q0 := 0) rfl rfl rfl) rfl rfl hl.1 rfl (lv_room (Nat.le_of_ble_eq_true rfl)) dL_parrot_5 ⟨Nat.le_of_ble_eq_true rfl, Nat.le_of_ble_eq_true rfl⟩) (fun E ce q1 H1 hP hz hk hce hcv hcl => ?_)
  subst hP
  refine vx_catch (own := RL) (name := zIO) hown [] ⟨0, 10, 13, 20⟩ [] (htab.trans rfl) (fun z hz => absurd hz List.not_mem_nil) rfl (by decide) (hts _ (List.mem_of_getElem? (i := 1) rfl)) (va_tabs (zEw_ok _ zc_zIO).1 rfl (hE.1 _ zc_zIO)) hce hcv hcl ?_
  have hS := z_Sgrow hS hz hk
  refine W.eq (g2 := F0 m 13 ls [.ref q1]) rfl ?_
  refine lv_astore (lv' := [(4, .ref q1), (0, .ref b), (1, .int (nI p)), (2, .int y), (3, .ref qo)]) hx hb dL_parrot_13 hl (by decide) rfl (fun ls hl => ?_)
  refine lv_iconst (v := 1) hx hb dL_parrot_15 (by decide) ?_
  refine W.widen (k := 1) (n := 6) (by omega) (by omega) ?_
  exact z_iretM hz hx hb hr hlocks hS dL_parrot_16
set_option maxHeartbeats 4000000 in
set_option maxRecDepth 100000 in
/-- zcL_half_k0 -/
theorem zcL_half_k0 (l : Launch) (D : va_G) (cI cL : ClassId) (H : Heap) (B0 qo : Nat) (f : Nat → Int64) (b : Nat) (n : Nat) (me : Nat → Int32) (lo : Nat → Int32) (c : Nat → Nat) (e : Nat → Nat) (rd : Int32) (tk : Int32) (g : zG) (p : Nat) (q : Nat) (hC : zCW D cI b n me lo c e rd tk g H) (hI : zI n me lo c e) (hp : p < n) (hq : q ≤ 2) (hO : va_P D vwCl [(qo, .inl (cL, 1, .inr (.inl f)))] H) (hqd : b + 61 ≤ qo ∨ qo < b) : Met l yL_half wsL_half ({ frames := 4, cells := 0, slots := 0, locals := 89 } : Room) (zPx D [(cI, .int), (cL, .long)] H B0 [.ref b, .int (nI p), .int 0, .int (nI q), .ref qo]) (zM (fun H1 => zCW D cI b n me lo c e rd tk g H1 ∧ va_P D vwCl [(qo, .inl (cL, 1, .inr (.inl (vp_updL f 0 ((th g p 0 q)).toInt64))))] H1 ∧ H1.size = H.size) (some (.int 0)) (fun z => zF b (b + 61) z ∨ z = qo)) 0 0 (fun z => zF b (b + 61) z ∨ z = qo) := by
  refine z_wenter (cc := cL_half) (maxL := 6) (ret := some .int) (hh := [(0, 12, 15, 20)]) (by decide) rfl (Nat.le_of_ble_eq_true rfl) ?_
  intro pg ev s m args below meth cd hfix hr hlocks htab hK hHs hE ls hl
  have hK1 : va_K D vwCl [(cI, .int)] s := hK.sub [0] rfl
  obtain ⟨hx, hb, hml, hown, hts⟩ := id hfix
  have hl : lv_has ls 6 [(0, .ref b), (1, .int (nI p)), (2, .int 0), (3, .int (nI q)), (4, .ref qo)] := hl
  have hS : va_S (fun z => zF b (b + 61) z ∨ z = qo) s.heap H [] := by rw [hHs]; exact va_S.rf
  have hJ : va_P D vwCl (zPJ b) H := hC.1
  refine lv_aload hx hb dL_half_0 (lv_at hl 4 rfl) ?_
  refine lv_iconst (v := 0) hx hb dL_half_2 (by decide) ?_
  refine lv_aload_n hx hb dL_half_3 rfl (lv_at hl 0 rfl) ?_
  refine lv_iload_n hx hb dL_half_4 rfl (lv_at hl 1 rfl) ?_
  refine lv_iload_n hx hb dL_half_5 rfl (lv_at hl 2 rfl) ?_
  refine lv_iload_n hx hb dL_half_6 rfl (lv_at hl 3 rfl) ?_
  refine z_ki (va_runV (As := [.int (nI p), .int 0, .int (nI q)]) (rest := [.int 0, .ref qo]) hfix (zcX4_half_k0 l D cI H b n me lo c e rd tk g p q hC hI hp hq) (cwV 3 hts gL_half_X4_half rfl rfl rfl (by decide +kernel) ⟨Nat.le_of_ble_eq_true rfl, Nat.le_of_ble_eq_true rfl⟩) (z_preV hK1 hK1 hJ (ci := 4) (q0 := 0) rfl rfl rfl) rfl rfl hl.1 rfl (lv_room (Nat.le_of_ble_eq_true rfl)) dL_half_7 ⟨Nat.le_of_ble_eq_true rfl, Nat.le_of_ble_eq_true rfl⟩) ?_
  have hB1 := hC
  have hO1 := hO
  have hz0 : H.size = H.size := rfl
  refine lv_i2l (v := ((th g p 0 q)).toInt64) hx hb dL_half_10 rfl ?_
  refine z_last hx hb hK hO1 (Or.inr rfl) hS 0 1 rfl rfl (j := 0) rfl (by omega) (by omega) dL_half_11 (fun H2 lo2 hP1 hz1 hk1 hS => ?_)
  refine lv_goto (tgt := 19) hx hb dL_half_12 (by decide) ?_
  refine lv_iconst (v := 0) hx hb dL_half_19 (by decide) ?_
  exact z_iretM ⟨zCW_kept hB1 (fun z h1 h2 h3 => hk1 z (by omega)), hP1, hz1.trans hz0⟩ hx hb hr hlocks hS dL_half_20
set_option maxHeartbeats 4000000 in
set_option maxRecDepth 100000 in
/-- zcL_half_k1 -/
theorem zcL_half_k1 (l : Launch) (D : va_G) (cI cL : ClassId) (H : Heap) (B0 qo : Nat) (f : Nat → Int64) (b : Nat) (n : Nat) (me : Nat → Int32) (lo : Nat → Int32) (c : Nat → Nat) (e : Nat → Nat) (rd : Int32) (tk : Int32) (g : zG) (p : Nat) (q : Nat) (hC : zCW D cI b n me lo c e rd tk g H) (hI : zI n me lo c e) (hp : p < n) (hq : q ≤ 2) (hO : va_P D vwCl [(qo, .inl (cL, 1, .inr (.inl f)))] H) (hqd : b + 61 ≤ qo ∨ qo < b) : Met l yL_half wsL_half ({ frames := 4, cells := 0, slots := 0, locals := 89 } : Room) (zPx D [(cI, .int), (cL, .long)] H B0 [.ref b, .int (nI p), .int 1, .int (nI q), .ref qo]) (zM (fun H1 => zCW D cI b n me lo c e rd tk g H1 ∧ va_P D vwCl [(qo, .inl (cL, 1, .inr (.inl (vp_updL f 0 ((th g p 1 q)).toInt64))))] H1 ∧ H1.size = H.size) (some (.int 0)) (fun z => zF b (b + 61) z ∨ z = qo)) 0 0 (fun z => zF b (b + 61) z ∨ z = qo) := by
  refine z_wenter (cc := cL_half) (maxL := 6) (ret := some .int) (hh := [(0, 12, 15, 20)]) (by decide) rfl (Nat.le_of_ble_eq_true rfl) ?_
  intro pg ev s m args below meth cd hfix hr hlocks htab hK hHs hE ls hl
  have hK1 : va_K D vwCl [(cI, .int)] s := hK.sub [0] rfl
  obtain ⟨hx, hb, hml, hown, hts⟩ := id hfix
  have hl : lv_has ls 6 [(0, .ref b), (1, .int (nI p)), (2, .int 1), (3, .int (nI q)), (4, .ref qo)] := hl
  have hS : va_S (fun z => zF b (b + 61) z ∨ z = qo) s.heap H [] := by rw [hHs]; exact va_S.rf
  have hJ : va_P D vwCl (zPJ b) H := hC.1
  refine lv_aload hx hb dL_half_0 (lv_at hl 4 rfl) ?_
  refine lv_iconst (v := 0) hx hb dL_half_2 (by decide) ?_
  refine lv_aload_n hx hb dL_half_3 rfl (lv_at hl 0 rfl) ?_
  refine lv_iload_n hx hb dL_half_4 rfl (lv_at hl 1 rfl) ?_
  refine lv_iload_n hx hb dL_half_5 rfl (lv_at hl 2 rfl) ?_
  refine lv_iload_n hx hb dL_half_6 rfl (lv_at hl 3 rfl) ?_
  refine z_ki (va_runV (As := [.int (nI p), .int 1, .int (nI q)]) (rest := [.int 0, .ref qo]) hfix (zcX4_half_k1 l D cI H b n me lo c e rd tk g p q hC hI hp hq) (cwV 3 hts gL_half_X4_half rfl rfl rfl (by decide +kernel) ⟨Nat.le_of_ble_eq_true rfl, Nat.le_of_ble_eq_true rfl⟩) (z_preV hK1 hK1 hJ (ci := 4) (q0 := 0) rfl rfl rfl) rfl rfl hl.1 rfl (lv_room (Nat.le_of_ble_eq_true rfl)) dL_half_7 ⟨Nat.le_of_ble_eq_true rfl, Nat.le_of_ble_eq_true rfl⟩) ?_
  have hB1 := hC
  have hO1 := hO
  have hz0 : H.size = H.size := rfl
  refine lv_i2l (v := ((th g p 1 q)).toInt64) hx hb dL_half_10 rfl ?_
  refine z_last hx hb hK hO1 (Or.inr rfl) hS 0 1 rfl rfl (j := 0) rfl (by omega) (by omega) dL_half_11 (fun H2 lo2 hP1 hz1 hk1 hS => ?_)
  refine lv_goto (tgt := 19) hx hb dL_half_12 (by decide) ?_
  refine lv_iconst (v := 0) hx hb dL_half_19 (by decide) ?_
  exact z_iretM ⟨zCW_kept hB1 (fun z h1 h2 h3 => hk1 z (by omega)), hP1, hz1.trans hz0⟩ hx hb hr hlocks hS dL_half_20
set_option maxHeartbeats 4000000 in
set_option maxRecDepth 100000 in
/-- zcL_half_b1 -/
theorem zcL_half_b1 (l : Launch) (D : va_G) (cI cL : ClassId) (H : Heap) (B0 qo : Nat) (hlt : l.stackTraces = false) (hB0 : B0 ≤ H.size) (b : Nat) (n : Nat) (me : Nat → Int32) (lo : Nat → Int32) (c : Nat → Nat) (e : Nat → Nat) (rd : Int32) (tk : Int32) (g : zG) (x : Int32) (h : Int32) (y : Int32) (hC : zCW D cI b n me lo c e rd tk g H) (hI : zI n me lo c e) (hx9 : ¬ ∃ j, j < n ∧ x = nI j) : Met l yL_half wsL_half ({ frames := 8, cells := 1, slots := 6, locals := 126 } : Room) (zPx D [(cI, .int), (cL, .long)] H B0 [.ref b, .int x, .int h, .int y, .ref qo]) (zM (fun H1 => H.size ≤ H1.size) (some (.int 1)) (fun z => H.size ≤ z)) 1 6 (fun z => H.size ≤ z) := by
  refine z_wenter (cc := cL_half) (maxL := 6) (ret := some .int) (hh := [(0, 12, 15, 20)]) (by decide) rfl (Nat.le_of_ble_eq_true rfl) ?_
  intro pg ev s m args below meth cd hfix hr hlocks htab hK hHs hE ls hl
  have hK1 : va_K D vwCl [(cI, .int)] s := hK.sub [0] rfl
  obtain ⟨hx, hb, hml, hown, hts⟩ := id hfix
  have hl : lv_has ls 6 [(0, .ref b), (1, .int x), (2, .int h), (3, .int y), (4, .ref qo)] := hl
  have hS : va_S (fun z => H.size ≤ z) s.heap H [] := by rw [hHs]; exact va_S.rf
  have hJ : va_P D vwCl (zPJ b) H := hC.1
  refine lv_aload hx hb dL_half_0 (lv_at hl 4 rfl) ?_
  refine lv_iconst (v := 0) hx hb dL_half_2 (by decide) ?_
  refine lv_aload_n hx hb dL_half_3 rfl (lv_at hl 0 rfl) ?_
  refine lv_iload_n hx hb dL_half_4 rfl (lv_at hl 1 rfl) ?_
  refine lv_iload_n hx hb dL_half_5 rfl (lv_at hl 2 rfl) ?_
  refine lv_iload_n hx hb dL_half_6 rfl (lv_at hl 3 rfl) ?_
  refine z_xcall (fun _ h => h) (vx_runV (As := [.int x, .int h, .int y]) (rest := [.int 0, .ref qo]) hfix (zcX4_half_b1 l D cI H hlt B0 hB0 b n me lo c e rd tk g x h y hC hI hx9) (cwV 3 hts gL_half_X4_half rfl rfl rfl (by decide +kernel) ⟨Nat.le_of_ble_eq_true rfl, Nat.le_of_ble_eq_true rfl⟩) (z_xpreV hE (fun q _ _ => by rw [hHs]) hK1 hK1 hJ (ci := 4) (q0 := 0) rfl rfl rfl) rfl rfl hl.1 rfl (lv_room (Nat.le_of_ble_eq_true rfl)) dL_half_7 ⟨Nat.le_of_ble_eq_true rfl, Nat.le_of_ble_eq_true rfl⟩) (fun E ce q1 H1 hP hz hk hce hcv hcl => ?_)
  subst hP
  refine vx_catch (own := RL) (name := zIO) hown [] ⟨0, 12, 15, 20⟩ [] (htab.trans rfl) (fun z hz => absurd hz List.not_mem_nil) rfl (by decide) (hts _ (List.mem_of_getElem? (i := 1) rfl)) (va_tabs (zEw_ok _ zc_zIO).1 rfl (hE.1 _ zc_zIO)) hce hcv hcl ?_
  have hS := z_Sgrow hS hz hk
  refine W.eq (g2 := F0 m 15 ls [.ref q1]) rfl ?_
  refine lv_astore (lv' := [(5, .ref q1), (0, .ref b), (1, .int x), (2, .int h), (3, .int y), (4, .ref qo)]) hx hb dL_half_15 hl (by decide) rfl (fun ls hl => ?_)
  refine lv_iconst (v := 1) hx hb dL_half_17 (by decide) ?_
  refine W.widen (k := 1) (n := 6) (by omega) (by omega) ?_
  exact z_iretM hz hx hb hr hlocks hS dL_half_18
set_option maxHeartbeats 4000000 in
set_option maxRecDepth 100000 in
/-- zcL_half_b2 -/
theorem zcL_half_b2 (l : Launch) (D : va_G) (cI cL : ClassId) (H : Heap) (B0 qo : Nat) (hlt : l.stackTraces = false) (hB0 : B0 ≤ H.size) (b : Nat) (n : Nat) (me : Nat → Int32) (lo : Nat → Int32) (c : Nat → Nat) (e : Nat → Nat) (rd : Int32) (tk : Int32) (g : zG) (p : Nat) (h : Int32) (y : Int32) (hC : zCW D cI b n me lo c e rd tk g H) (hI : zI n me lo c e) (hp : p < n) (hx9 : y < 0 ∨ ¬ y ≤ 2) : Met l yL_half wsL_half ({ frames := 8, cells := 1, slots := 6, locals := 126 } : Room) (zPx D [(cI, .int), (cL, .long)] H B0 [.ref b, .int (nI p), .int h, .int y, .ref qo]) (zM (fun H1 => H.size ≤ H1.size) (some (.int 1)) (fun z => H.size ≤ z)) 1 6 (fun z => H.size ≤ z) := by
  refine z_wenter (cc := cL_half) (maxL := 6) (ret := some .int) (hh := [(0, 12, 15, 20)]) (by decide) rfl (Nat.le_of_ble_eq_true rfl) ?_
  intro pg ev s m args below meth cd hfix hr hlocks htab hK hHs hE ls hl
  have hK1 : va_K D vwCl [(cI, .int)] s := hK.sub [0] rfl
  obtain ⟨hx, hb, hml, hown, hts⟩ := id hfix
  have hl : lv_has ls 6 [(0, .ref b), (1, .int (nI p)), (2, .int h), (3, .int y), (4, .ref qo)] := hl
  have hS : va_S (fun z => H.size ≤ z) s.heap H [] := by rw [hHs]; exact va_S.rf
  have hJ : va_P D vwCl (zPJ b) H := hC.1
  refine lv_aload hx hb dL_half_0 (lv_at hl 4 rfl) ?_
  refine lv_iconst (v := 0) hx hb dL_half_2 (by decide) ?_
  refine lv_aload_n hx hb dL_half_3 rfl (lv_at hl 0 rfl) ?_
  refine lv_iload_n hx hb dL_half_4 rfl (lv_at hl 1 rfl) ?_
  refine lv_iload_n hx hb dL_half_5 rfl (lv_at hl 2 rfl) ?_
  refine lv_iload_n hx hb dL_half_6 rfl (lv_at hl 3 rfl) ?_
  refine z_xcall (fun _ h => h) (vx_runV (As := [.int (nI p), .int h, .int y]) (rest := [.int 0, .ref qo]) hfix (zcX4_half_b2 l D cI H hlt B0 hB0 b n me lo c e rd tk g p h y hC hI hp hx9) (cwV 3 hts gL_half_X4_half rfl rfl rfl (by decide +kernel) ⟨Nat.le_of_ble_eq_true rfl, Nat.le_of_ble_eq_true rfl⟩) (z_xpreV hE (fun q _ _ => by rw [hHs]) hK1 hK1 hJ (ci := 4) (q0 := 0) rfl rfl rfl) rfl rfl hl.1 rfl (lv_room (Nat.le_of_ble_eq_true rfl)) dL_half_7 ⟨Nat.le_of_ble_eq_true rfl, Nat.le_of_ble_eq_true rfl⟩) (fun E ce q1 H1 hP hz hk hce hcv hcl => ?_)
  subst hP
  refine vx_catch (own := RL) (name := zIO) hown [] ⟨0, 12, 15, 20⟩ [] (htab.trans rfl) (fun z hz => absurd hz List.not_mem_nil) rfl (by decide) (hts _ (List.mem_of_getElem? (i := 1) rfl)) (va_tabs (zEw_ok _ zc_zIO).1 rfl (hE.1 _ zc_zIO)) hce hcv hcl ?_
  have hS := z_Sgrow hS hz hk
  refine W.eq (g2 := F0 m 15 ls [.ref q1]) rfl ?_
  refine lv_astore (lv' := [(5, .ref q1), (0, .ref b), (1, .int (nI p)), (2, .int h), (3, .int y), (4, .ref qo)]) hx hb dL_half_15 hl (by decide) rfl (fun ls hl => ?_)
  refine lv_iconst (v := 1) hx hb dL_half_17 (by decide) ?_
  refine W.widen (k := 1) (n := 6) (by omega) (by omega) ?_
  exact z_iretM hz hx hb hr hlocks hS dL_half_18
set_option maxHeartbeats 4000000 in
set_option maxRecDepth 100000 in
/-- zcL_hears_k -/
theorem zcL_hears_k (l : Launch) (D : va_G) (cI cL : ClassId) (H : Heap) (B0 qo : Nat) (f : Nat → Int64) (b : Nat) (n : Nat) (me : Nat → Int32) (lo : Nat → Int32) (c : Nat → Nat) (e : Nat → Nat) (rd : Int32) (tk : Int32) (g : zG) (p : Nat) (k : Nat) (hC : zCW D cI b n me lo c e rd tk g H) (hI : zI n me lo c e) (hp : p < n) (hk : k < c p) (hO : va_P D vwCl [(qo, .inl (cL, 1, .inr (.inl f)))] H) (hqd : b + 61 ≤ qo ∨ qo < b) : Met l yL_hears wsL_hears ({ frames := 3, cells := 0, slots := 0, locals := 65 } : Room) (zPx D [(cI, .int), (cL, .long)] H B0 [.ref b, .int (nI p), .int (nI k), .ref qo]) (zM (fun H1 => zCW D cI b n me lo c e rd tk g H1 ∧ va_P D vwCl [(qo, .inl (cL, 1, .inr (.inl (vp_updL f 0 ((nI (e (p * 4 + k)))).toInt64))))] H1 ∧ H1.size = H.size) (some (.int 0)) (fun z => zF b (b + 61) z ∨ z = qo)) 0 0 (fun z => zF b (b + 61) z ∨ z = qo) := by
  refine z_wenter (cc := cL_hears) (maxL := 5) (ret := some .int) (hh := [(0, 10, 13, 20)]) (by decide) rfl (Nat.le_of_ble_eq_true rfl) ?_
  intro pg ev s m args below meth cd hfix hr hlocks htab hK hHs hE ls hl
  have hK1 : va_K D vwCl [(cI, .int)] s := hK.sub [0] rfl
  obtain ⟨hx, hb, hml, hown, hts⟩ := id hfix
  have hl : lv_has ls 5 [(0, .ref b), (1, .int (nI p)), (2, .int (nI k)), (3, .ref qo)] := hl
  have hS : va_S (fun z => zF b (b + 61) z ∨ z = qo) s.heap H [] := by rw [hHs]; exact va_S.rf
  have hJ : va_P D vwCl (zPJ b) H := hC.1
  refine lv_aload_n hx hb dL_hears_0 rfl (lv_at hl 3 rfl) ?_
  refine lv_iconst (v := 0) hx hb dL_hears_1 (by decide) ?_
  refine lv_aload_n hx hb dL_hears_2 rfl (lv_at hl 0 rfl) ?_
  refine lv_iload_n hx hb dL_hears_3 rfl (lv_at hl 1 rfl) ?_
  refine lv_iload_n hx hb dL_hears_4 rfl (lv_at hl 2 rfl) ?_
  refine z_ki (va_runV (As := [.int (nI p), .int (nI k)]) (rest := [.int 0, .ref qo]) hfix (zcX4_hears_k l D cI H b n me lo c e rd tk g p k hC hI hp hk) (cwV 2 hts gL_hears_X4_hears rfl rfl rfl (by decide +kernel) ⟨Nat.le_of_ble_eq_true rfl, Nat.le_of_ble_eq_true rfl⟩) (z_preV hK1 hK1 hJ (ci := 4) (q0 := 0) rfl rfl rfl) rfl rfl hl.1 rfl (lv_room (Nat.le_of_ble_eq_true rfl)) dL_hears_5 ⟨Nat.le_of_ble_eq_true rfl, Nat.le_of_ble_eq_true rfl⟩) ?_
  have hB1 := hC
  have hO1 := hO
  have hz0 : H.size = H.size := rfl
  refine lv_i2l (v := ((nI (e (p * 4 + k)))).toInt64) hx hb dL_hears_8 rfl ?_
  refine z_last hx hb hK hO1 (Or.inr rfl) hS 0 1 rfl rfl (j := 0) rfl (by omega) (by omega) dL_hears_9 (fun H2 lo2 hP1 hz1 hk1 hS => ?_)
  refine lv_goto (tgt := 17) hx hb dL_hears_10 (by decide) ?_
  refine lv_iconst (v := 0) hx hb dL_hears_17 (by decide) ?_
  exact z_iretM ⟨zCW_kept hB1 (fun z h1 h2 h3 => hk1 z (by omega)), hP1, hz1.trans hz0⟩ hx hb hr hlocks hS dL_hears_18
set_option maxHeartbeats 4000000 in
set_option maxRecDepth 100000 in
/-- zcL_hears_b1 -/
theorem zcL_hears_b1 (l : Launch) (D : va_G) (cI cL : ClassId) (H : Heap) (B0 qo : Nat) (hlt : l.stackTraces = false) (hB0 : B0 ≤ H.size) (b : Nat) (n : Nat) (me : Nat → Int32) (lo : Nat → Int32) (c : Nat → Nat) (e : Nat → Nat) (rd : Int32) (tk : Int32) (g : zG) (x : Int32) (y : Int32) (hC : zCW D cI b n me lo c e rd tk g H) (hI : zI n me lo c e) (hx9 : ¬ ∃ j, j < n ∧ x = nI j) : Met l yL_hears wsL_hears ({ frames := 8, cells := 1, slots := 6, locals := 125 } : Room) (zPx D [(cI, .int), (cL, .long)] H B0 [.ref b, .int x, .int y, .ref qo]) (zM (fun H1 => H.size ≤ H1.size) (some (.int 1)) (fun z => H.size ≤ z)) 1 6 (fun z => H.size ≤ z) := by
  refine z_wenter (cc := cL_hears) (maxL := 5) (ret := some .int) (hh := [(0, 10, 13, 20)]) (by decide) rfl (Nat.le_of_ble_eq_true rfl) ?_
  intro pg ev s m args below meth cd hfix hr hlocks htab hK hHs hE ls hl
  have hK1 : va_K D vwCl [(cI, .int)] s := hK.sub [0] rfl
  obtain ⟨hx, hb, hml, hown, hts⟩ := id hfix
  have hl : lv_has ls 5 [(0, .ref b), (1, .int x), (2, .int y), (3, .ref qo)] := hl
  have hS : va_S (fun z => H.size ≤ z) s.heap H [] := by rw [hHs]; exact va_S.rf
  have hJ : va_P D vwCl (zPJ b) H := hC.1
  refine lv_aload_n hx hb dL_hears_0 rfl (lv_at hl 3 rfl) ?_
  refine lv_iconst (v := 0) hx hb dL_hears_1 (by decide) ?_
  refine lv_aload_n hx hb dL_hears_2 rfl (lv_at hl 0 rfl) ?_
  refine lv_iload_n hx hb dL_hears_3 rfl (lv_at hl 1 rfl) ?_
  refine lv_iload_n hx hb dL_hears_4 rfl (lv_at hl 2 rfl) ?_
  refine z_xcall (fun _ h => h) (vx_runV (As := [.int x, .int y]) (rest := [.int 0, .ref qo]) hfix (zcX4_hears_b1 l D cI H hlt B0 hB0 b n me lo c e rd tk g x y hC hI hx9) (cwV 2 hts gL_hears_X4_hears rfl rfl rfl (by decide +kernel) ⟨Nat.le_of_ble_eq_true rfl, Nat.le_of_ble_eq_true rfl⟩) (z_xpreV hE (fun q _ _ => by rw [hHs]) hK1 hK1 hJ (ci := 4) (q0 := 0) rfl rfl rfl) rfl rfl hl.1 rfl (lv_room (Nat.le_of_ble_eq_true rfl)) dL_hears_5 ⟨Nat.le_of_ble_eq_true rfl, Nat.le_of_ble_eq_true rfl⟩) (fun E ce q1 H1 hP hz hk hce hcv hcl => ?_)
  subst hP
  refine vx_catch (own := RL) (name := zIO) hown [] ⟨0, 10, 13, 20⟩ [] (htab.trans rfl) (fun z hz => absurd hz List.not_mem_nil) rfl (by decide) (hts _ (List.mem_of_getElem? (i := 1) rfl)) (va_tabs (zEw_ok _ zc_zIO).1 rfl (hE.1 _ zc_zIO)) hce hcv hcl ?_
  have hS := z_Sgrow hS hz hk
  refine W.eq (g2 := F0 m 13 ls [.ref q1]) rfl ?_
  refine lv_astore (lv' := [(4, .ref q1), (0, .ref b), (1, .int x), (2, .int y), (3, .ref qo)]) hx hb dL_hears_13 hl (by decide) rfl (fun ls hl => ?_)
  refine lv_iconst (v := 1) hx hb dL_hears_15 (by decide) ?_
  refine W.widen (k := 1) (n := 6) (by omega) (by omega) ?_
  exact z_iretM hz hx hb hr hlocks hS dL_hears_16
set_option maxHeartbeats 4000000 in
set_option maxRecDepth 100000 in
/-- zcL_hears_b2 -/
theorem zcL_hears_b2 (l : Launch) (D : va_G) (cI cL : ClassId) (H : Heap) (B0 qo : Nat) (hlt : l.stackTraces = false) (hB0 : B0 ≤ H.size) (b : Nat) (n : Nat) (me : Nat → Int32) (lo : Nat → Int32) (c : Nat → Nat) (e : Nat → Nat) (rd : Int32) (tk : Int32) (g : zG) (p : Nat) (y : Int32) (hC : zCW D cI b n me lo c e rd tk g H) (hI : zI n me lo c e) (hp : p < n) (hx9 : ¬ ∃ j, j < c p ∧ y = nI j) : Met l yL_hears wsL_hears ({ frames := 7, cells := 1, slots := 6, locals := 104 } : Room) (zPx D [(cI, .int), (cL, .long)] H B0 [.ref b, .int (nI p), .int y, .ref qo]) (zM (fun H1 => H.size ≤ H1.size) (some (.int 1)) (fun z => H.size ≤ z)) 1 6 (fun z => H.size ≤ z) := by
  refine z_wenter (cc := cL_hears) (maxL := 5) (ret := some .int) (hh := [(0, 10, 13, 20)]) (by decide) rfl (Nat.le_of_ble_eq_true rfl) ?_
  intro pg ev s m args below meth cd hfix hr hlocks htab hK hHs hE ls hl
  have hK1 : va_K D vwCl [(cI, .int)] s := hK.sub [0] rfl
  obtain ⟨hx, hb, hml, hown, hts⟩ := id hfix
  have hl : lv_has ls 5 [(0, .ref b), (1, .int (nI p)), (2, .int y), (3, .ref qo)] := hl
  have hS : va_S (fun z => H.size ≤ z) s.heap H [] := by rw [hHs]; exact va_S.rf
  have hJ : va_P D vwCl (zPJ b) H := hC.1
  refine lv_aload_n hx hb dL_hears_0 rfl (lv_at hl 3 rfl) ?_
  refine lv_iconst (v := 0) hx hb dL_hears_1 (by decide) ?_
  refine lv_aload_n hx hb dL_hears_2 rfl (lv_at hl 0 rfl) ?_
  refine lv_iload_n hx hb dL_hears_3 rfl (lv_at hl 1 rfl) ?_
  refine lv_iload_n hx hb dL_hears_4 rfl (lv_at hl 2 rfl) ?_
  refine z_xcall (fun _ h => h) (vx_runV (As := [.int (nI p), .int y]) (rest := [.int 0, .ref qo]) hfix (zcX4_hears_b2 l D cI H hlt B0 hB0 b n me lo c e rd tk g p y hC hI hp hx9) (cwV 2 hts gL_hears_X4_hears rfl rfl rfl (by decide +kernel) ⟨Nat.le_of_ble_eq_true rfl, Nat.le_of_ble_eq_true rfl⟩) (z_xpreV hE (fun q _ _ => by rw [hHs]) hK1 hK1 hJ (ci := 4) (q0 := 0) rfl rfl rfl) rfl rfl hl.1 rfl (lv_room (Nat.le_of_ble_eq_true rfl)) dL_hears_5 ⟨Nat.le_of_ble_eq_true rfl, Nat.le_of_ble_eq_true rfl⟩) (fun E ce q1 H1 hP hz hk hce hcv hcl => ?_)
  subst hP
  refine vx_catch (own := RL) (name := zIO) hown [] ⟨0, 10, 13, 20⟩ [] (htab.trans rfl) (fun z hz => absurd hz List.not_mem_nil) rfl (by decide) (hts _ (List.mem_of_getElem? (i := 1) rfl)) (va_tabs (zEw_ok _ zc_zIO).1 rfl (hE.1 _ zc_zIO)) hce hcv hcl ?_
  have hS := z_Sgrow hS hz hk
  refine W.eq (g2 := F0 m 13 ls [.ref q1]) rfl ?_
  refine lv_astore (lv' := [(4, .ref q1), (0, .ref b), (1, .int (nI p)), (2, .int y), (3, .ref qo)]) hx hb dL_hears_13 hl (by decide) rfl (fun ls hl => ?_)
  refine lv_iconst (v := 1) hx hb dL_hears_15 (by decide) ?_
  refine W.widen (k := 1) (n := 6) (by omega) (by omega) ?_
  exact z_iretM hz hx hb hr hlocks hS dL_hears_16
set_option maxHeartbeats 4000000 in
set_option maxRecDepth 100000 in
/-- zcL_votes_k -/
theorem zcL_votes_k (l : Launch) (D : va_G) (cI cL : ClassId) (H : Heap) (B0 qo : Nat) (f : Nat → Int64) (b : Nat) (n : Nat) (me : Nat → Int32) (lo : Nat → Int32) (c : Nat → Nat) (e : Nat → Nat) (rd : Int32) (tk : Int32) (g : zG) (w : Nat) (hC : zCW D cI b n me lo c e rd tk g H) (hI : zI n me lo c e) (hw : w ≤ 9999) (hO : va_P D vwCl [(qo, .inl (cL, 1, .inr (.inl f)))] H) (hqd : b + 61 ≤ qo ∨ qo < b) : Met l yL_votes wsL_votes ({ frames := 5, cells := 0, slots := 0, locals := 109 } : Room) (zPx D [(cI, .int), (cL, .long)] H B0 [.ref b, .int (nI w), .ref qo]) (zM (fun H1 => zCW D cI b n me lo c e rd tk g H1 ∧ va_P D vwCl [(qo, .inl (cL, 1, .inr (.inl (vp_updL f 0 ((nI (vt g (nI w) n))).toInt64))))] H1 ∧ H1.size = H.size) (some (.int 0)) (fun z => zF b (b + 61) z ∨ z = qo)) 0 0 (fun z => zF b (b + 61) z ∨ z = qo) := by
  refine z_wenter (cc := cL_votes) (maxL := 4) (ret := some .int) (hh := [(0, 9, 12, 13)]) (by decide) rfl (Nat.le_of_ble_eq_true rfl) ?_
  intro pg ev s m args below meth cd hfix hr hlocks htab hK hHs hE ls hl
  have hK1 : va_K D vwCl [(cI, .int)] s := hK.sub [0] rfl
  obtain ⟨hx, hb, hml, hown, hts⟩ := id hfix
  have hl : lv_has ls 4 [(0, .ref b), (1, .int (nI w)), (2, .ref qo)] := hl
  have hS : va_S (fun z => zF b (b + 61) z ∨ z = qo) s.heap H [] := by rw [hHs]; exact va_S.rf
  have hJ : va_P D vwCl (zPJ b) H := hC.1
  refine lv_aload_n hx hb dL_votes_0 rfl (lv_at hl 2 rfl) ?_
  refine lv_iconst (v := 0) hx hb dL_votes_1 (by decide) ?_
  refine lv_aload_n hx hb dL_votes_2 rfl (lv_at hl 0 rfl) ?_
  refine lv_iload_n hx hb dL_votes_3 rfl (lv_at hl 1 rfl) ?_
  refine z_ki (va_runV (As := [.int (nI w)]) (rest := [.int 0, .ref qo]) hfix (zcX4_votes_k l D cI H b n me lo c e rd tk g w hC hI hw) (cwV 1 hts gL_votes_X4_votes rfl rfl rfl (by decide +kernel) ⟨Nat.le_of_ble_eq_true rfl, Nat.le_of_ble_eq_true rfl⟩) (z_preV hK1 hK1 hJ (ci := 4) (q0 := 0) rfl rfl rfl) rfl rfl hl.1 rfl (lv_room (Nat.le_of_ble_eq_true rfl)) dL_votes_4 ⟨Nat.le_of_ble_eq_true rfl, Nat.le_of_ble_eq_true rfl⟩) ?_
  have hB1 := hC
  have hO1 := hO
  have hz0 : H.size = H.size := rfl
  refine lv_i2l (v := ((nI (vt g (nI w) n))).toInt64) hx hb dL_votes_7 rfl ?_
  refine z_last hx hb hK hO1 (Or.inr rfl) hS 0 1 rfl rfl (j := 0) rfl (by omega) (by omega) dL_votes_8 (fun H2 lo2 hP1 hz1 hk1 hS => ?_)
  refine lv_goto (tgt := 15) hx hb dL_votes_9 (by decide) ?_
  refine lv_iconst (v := 0) hx hb dL_votes_15 (by decide) ?_
  exact z_iretM ⟨zCW_kept hB1 (fun z h1 h2 h3 => hk1 z (by omega)), hP1, hz1.trans hz0⟩ hx hb hr hlocks hS dL_votes_16
set_option maxHeartbeats 4000000 in
set_option maxRecDepth 100000 in
/-- zcL_votes_b1 -/
theorem zcL_votes_b1 (l : Launch) (D : va_G) (cI cL : ClassId) (H : Heap) (B0 qo : Nat) (hlt : l.stackTraces = false) (hB0 : B0 ≤ H.size) (b : Nat) (n : Nat) (me : Nat → Int32) (lo : Nat → Int32) (c : Nat → Nat) (e : Nat → Nat) (rd : Int32) (tk : Int32) (g : zG) (x : Int32) (hC : zCW D cI b n me lo c e rd tk g H) (hI : zI n me lo c e) (hx9 : x < 0 ∨ ¬ x ≤ 9999) : Met l yL_votes wsL_votes ({ frames := 8, cells := 1, slots := 6, locals := 123 } : Room) (zPx D [(cI, .int), (cL, .long)] H B0 [.ref b, .int x, .ref qo]) (zM (fun H1 => H.size ≤ H1.size) (some (.int 1)) (fun z => H.size ≤ z)) 1 6 (fun z => H.size ≤ z) := by
  refine z_wenter (cc := cL_votes) (maxL := 4) (ret := some .int) (hh := [(0, 9, 12, 13)]) (by decide) rfl (Nat.le_of_ble_eq_true rfl) ?_
  intro pg ev s m args below meth cd hfix hr hlocks htab hK hHs hE ls hl
  have hK1 : va_K D vwCl [(cI, .int)] s := hK.sub [0] rfl
  obtain ⟨hx, hb, hml, hown, hts⟩ := id hfix
  have hl : lv_has ls 4 [(0, .ref b), (1, .int x), (2, .ref qo)] := hl
  have hS : va_S (fun z => H.size ≤ z) s.heap H [] := by rw [hHs]; exact va_S.rf
  have hJ : va_P D vwCl (zPJ b) H := hC.1
  refine lv_aload_n hx hb dL_votes_0 rfl (lv_at hl 2 rfl) ?_
  refine lv_iconst (v := 0) hx hb dL_votes_1 (by decide) ?_
  refine lv_aload_n hx hb dL_votes_2 rfl (lv_at hl 0 rfl) ?_
  refine lv_iload_n hx hb dL_votes_3 rfl (lv_at hl 1 rfl) ?_
  refine z_xcall (fun _ h => h) (vx_runV (As := [.int x]) (rest := [.int 0, .ref qo]) hfix (zcX4_votes_b1 l D cI H hlt B0 hB0 b n me lo c e rd tk g x hC hI hx9) (cwV 1 hts gL_votes_X4_votes rfl rfl rfl (by decide +kernel) ⟨Nat.le_of_ble_eq_true rfl, Nat.le_of_ble_eq_true rfl⟩) (z_xpreV hE (fun q _ _ => by rw [hHs]) hK1 hK1 hJ (ci := 4) (q0 := 0) rfl rfl rfl) rfl rfl hl.1 rfl (lv_room (Nat.le_of_ble_eq_true rfl)) dL_votes_4 ⟨Nat.le_of_ble_eq_true rfl, Nat.le_of_ble_eq_true rfl⟩) (fun E ce q1 H1 hP hz hk hce hcv hcl => ?_)
  subst hP
  refine vx_catch (own := RL) (name := zIA) hown [] ⟨0, 9, 12, 13⟩ [] (htab.trans rfl) (fun z hz => absurd hz List.not_mem_nil) rfl (by decide) (hts _ (List.mem_of_getElem? (i := 1) rfl)) (va_tabs (zEw_ok _ zc_zIA).1 rfl (hE.1 _ zc_zIA)) hce hcv hcl ?_
  have hS := z_Sgrow hS hz hk
  refine W.eq (g2 := F0 m 12 ls [.ref q1]) rfl ?_
  refine lv_astore_n (lv' := [(3, .ref q1), (0, .ref b), (1, .int x), (2, .ref qo)]) hx hb dL_votes_12 rfl hl (by decide) rfl (fun ls hl => ?_)
  refine lv_iconst (v := 1) hx hb dL_votes_13 (by decide) ?_
  refine W.widen (k := 1) (n := 6) (by omega) (by omega) ?_
  exact z_iretM hz hx hb hr hlocks hS dL_votes_14
set_option maxHeartbeats 4000000 in
set_option maxRecDepth 100000 in
/-- zcL_left_k -/
theorem zcL_left_k (l : Launch) (D : va_G) (cI cL : ClassId) (H : Heap) (B0 qo : Nat) (f : Nat → Int64) (b : Nat) (n : Nat) (me : Nat → Int32) (lo : Nat → Int32) (c : Nat → Nat) (e : Nat → Nat) (rd : Int32) (tk : Int32) (g : zG) (w : Nat) (hC : zCW D cI b n me lo c e rd tk g H) (hI : zI n me lo c e) (hw : w ≤ 9999) (hO : va_P D vwCl [(qo, .inl (cL, 1, .inr (.inl f)))] H) (hqd : b + 61 ≤ qo ∨ qo < b) : Met l yL_left wsL_left ({ frames := 3, cells := 0, slots := 0, locals := 66 } : Room) (zPx D [(cI, .int), (cL, .long)] H B0 [.ref b, .int (nI w), .ref qo]) (zM (fun H1 => zCW D cI b n me lo c e rd tk g H1 ∧ va_P D vwCl [(qo, .inl (cL, 1, .inr (.inl (vp_updL f 0 ((nI (lf g (nI w) n))).toInt64))))] H1 ∧ H1.size = H.size) (some (.int 0)) (fun z => zF b (b + 61) z ∨ z = qo)) 0 0 (fun z => zF b (b + 61) z ∨ z = qo) := by
  refine z_wenter (cc := cL_left) (maxL := 4) (ret := some .int) (hh := [(0, 9, 12, 13)]) (by decide) rfl (Nat.le_of_ble_eq_true rfl) ?_
  intro pg ev s m args below meth cd hfix hr hlocks htab hK hHs hE ls hl
  have hK1 : va_K D vwCl [(cI, .int)] s := hK.sub [0] rfl
  obtain ⟨hx, hb, hml, hown, hts⟩ := id hfix
  have hl : lv_has ls 4 [(0, .ref b), (1, .int (nI w)), (2, .ref qo)] := hl
  have hS : va_S (fun z => zF b (b + 61) z ∨ z = qo) s.heap H [] := by rw [hHs]; exact va_S.rf
  have hJ : va_P D vwCl (zPJ b) H := hC.1
  refine lv_aload_n hx hb dL_left_0 rfl (lv_at hl 2 rfl) ?_
  refine lv_iconst (v := 0) hx hb dL_left_1 (by decide) ?_
  refine lv_aload_n hx hb dL_left_2 rfl (lv_at hl 0 rfl) ?_
  refine lv_iload_n hx hb dL_left_3 rfl (lv_at hl 1 rfl) ?_
  refine z_ki (va_runV (As := [.int (nI w)]) (rest := [.int 0, .ref qo]) hfix (zcX4_left_k l D cI H b n me lo c e rd tk g w hC hI hw) (cwV 1 hts gL_left_X4_left rfl rfl rfl (by decide +kernel) ⟨Nat.le_of_ble_eq_true rfl, Nat.le_of_ble_eq_true rfl⟩) (z_preV hK1 hK1 hJ (ci := 4) (q0 := 0) rfl rfl rfl) rfl rfl hl.1 rfl (lv_room (Nat.le_of_ble_eq_true rfl)) dL_left_4 ⟨Nat.le_of_ble_eq_true rfl, Nat.le_of_ble_eq_true rfl⟩) ?_
  have hB1 := hC
  have hO1 := hO
  have hz0 : H.size = H.size := rfl
  refine lv_i2l (v := ((nI (lf g (nI w) n))).toInt64) hx hb dL_left_7 rfl ?_
  refine z_last hx hb hK hO1 (Or.inr rfl) hS 0 1 rfl rfl (j := 0) rfl (by omega) (by omega) dL_left_8 (fun H2 lo2 hP1 hz1 hk1 hS => ?_)
  refine lv_goto (tgt := 15) hx hb dL_left_9 (by decide) ?_
  refine lv_iconst (v := 0) hx hb dL_left_15 (by decide) ?_
  exact z_iretM ⟨zCW_kept hB1 (fun z h1 h2 h3 => hk1 z (by omega)), hP1, hz1.trans hz0⟩ hx hb hr hlocks hS dL_left_16
set_option maxHeartbeats 4000000 in
set_option maxRecDepth 100000 in
/-- zcL_left_b1 -/
theorem zcL_left_b1 (l : Launch) (D : va_G) (cI cL : ClassId) (H : Heap) (B0 qo : Nat) (hlt : l.stackTraces = false) (hB0 : B0 ≤ H.size) (b : Nat) (n : Nat) (me : Nat → Int32) (lo : Nat → Int32) (c : Nat → Nat) (e : Nat → Nat) (rd : Int32) (tk : Int32) (g : zG) (x : Int32) (hC : zCW D cI b n me lo c e rd tk g H) (hI : zI n me lo c e) (hx9 : x < 0 ∨ ¬ x ≤ 9999) : Met l yL_left wsL_left ({ frames := 8, cells := 1, slots := 6, locals := 126 } : Room) (zPx D [(cI, .int), (cL, .long)] H B0 [.ref b, .int x, .ref qo]) (zM (fun H1 => H.size ≤ H1.size) (some (.int 1)) (fun z => H.size ≤ z)) 1 6 (fun z => H.size ≤ z) := by
  refine z_wenter (cc := cL_left) (maxL := 4) (ret := some .int) (hh := [(0, 9, 12, 13)]) (by decide) rfl (Nat.le_of_ble_eq_true rfl) ?_
  intro pg ev s m args below meth cd hfix hr hlocks htab hK hHs hE ls hl
  have hK1 : va_K D vwCl [(cI, .int)] s := hK.sub [0] rfl
  obtain ⟨hx, hb, hml, hown, hts⟩ := id hfix
  have hl : lv_has ls 4 [(0, .ref b), (1, .int x), (2, .ref qo)] := hl
  have hS : va_S (fun z => H.size ≤ z) s.heap H [] := by rw [hHs]; exact va_S.rf
  have hJ : va_P D vwCl (zPJ b) H := hC.1
  refine lv_aload_n hx hb dL_left_0 rfl (lv_at hl 2 rfl) ?_
  refine lv_iconst (v := 0) hx hb dL_left_1 (by decide) ?_
  refine lv_aload_n hx hb dL_left_2 rfl (lv_at hl 0 rfl) ?_
  refine lv_iload_n hx hb dL_left_3 rfl (lv_at hl 1 rfl) ?_
  refine z_xcall (fun _ h => h) (vx_runV (As := [.int x]) (rest := [.int 0, .ref qo]) hfix (zcX4_left_b1 l D cI H hlt B0 hB0 b n me lo c e rd tk g x hC hI hx9) (cwV 1 hts gL_left_X4_left rfl rfl rfl (by decide +kernel) ⟨Nat.le_of_ble_eq_true rfl, Nat.le_of_ble_eq_true rfl⟩) (z_xpreV hE (fun q _ _ => by rw [hHs]) hK1 hK1 hJ (ci := 4) (q0 := 0) rfl rfl rfl) rfl rfl hl.1 rfl (lv_room (Nat.le_of_ble_eq_true rfl)) dL_left_4 ⟨Nat.le_of_ble_eq_true rfl, Nat.le_of_ble_eq_true rfl⟩) (fun E ce q1 H1 hP hz hk hce hcv hcl => ?_)
  subst hP
  refine vx_catch (own := RL) (name := zIA) hown [] ⟨0, 9, 12, 13⟩ [] (htab.trans rfl) (fun z hz => absurd hz List.not_mem_nil) rfl (by decide) (hts _ (List.mem_of_getElem? (i := 1) rfl)) (va_tabs (zEw_ok _ zc_zIA).1 rfl (hE.1 _ zc_zIA)) hce hcv hcl ?_
  have hS := z_Sgrow hS hz hk
  refine W.eq (g2 := F0 m 12 ls [.ref q1]) rfl ?_
  refine lv_astore_n (lv' := [(3, .ref q1), (0, .ref b), (1, .int x), (2, .ref qo)]) hx hb dL_left_12 rfl hl (by decide) rfl (fun ls hl => ?_)
  refine lv_iconst (v := 1) hx hb dL_left_13 (by decide) ?_
  refine W.widen (k := 1) (n := 6) (by omega) (by omega) ?_
  exact z_iretM hz hx hb hr hlocks hS dL_left_14
set_option maxHeartbeats 4000000 in
set_option maxRecDepth 100000 in
/-- zcL_count_k -/
theorem zcL_count_k (l : Launch) (D : va_G) (cI cL : ClassId) (H : Heap) (B0 qo : Nat) (f : Nat → Int64) (b : Nat) (n : Nat) (me : Nat → Int32) (lo : Nat → Int32) (c : Nat → Nat) (e : Nat → Nat) (rd : Int32) (tk : Int32) (g : zG) (q : Nat) (hC : zCW D cI b n me lo c e rd tk g H) (hI : zI n me lo c e) (hq : q ≤ 5) (hO : va_P D vwCl [(qo, .inl (cL, 1, .inr (.inl f)))] H) (hqd : b + 61 ≤ qo ∨ qo < b) : Met l yL_count wsL_count ({ frames := 7, cells := 0, slots := 0, locals := 151 } : Room) (zPx D [(cI, .int), (cL, .long)] H B0 [.ref b, .int (nI q), .ref qo]) (zM (fun H1 => zCW D cI b n me lo c e rd tk g H1 ∧ va_P D vwCl [(qo, .inl (cL, 1, .inr (.inl (vp_updL f 0 ((tj n (rd, tk, g) q)).toInt64))))] H1 ∧ H1.size = H.size) (some (.int 0)) (fun z => zF b (b + 61) z ∨ z = qo)) 0 0 (fun z => zF b (b + 61) z ∨ z = qo) := by
  refine z_wenter (cc := cL_count) (maxL := 4) (ret := some .int) (hh := [(0, 9, 12, 20)]) (by decide) rfl (Nat.le_of_ble_eq_true rfl) ?_
  intro pg ev s m args below meth cd hfix hr hlocks htab hK hHs hE ls hl
  have hK1 : va_K D vwCl [(cI, .int)] s := hK.sub [0] rfl
  obtain ⟨hx, hb, hml, hown, hts⟩ := id hfix
  have hl : lv_has ls 4 [(0, .ref b), (1, .int (nI q)), (2, .ref qo)] := hl
  have hS : va_S (fun z => zF b (b + 61) z ∨ z = qo) s.heap H [] := by rw [hHs]; exact va_S.rf
  have hJ : va_P D vwCl (zPJ b) H := hC.1
  refine lv_aload_n hx hb dL_count_0 rfl (lv_at hl 2 rfl) ?_
  refine lv_iconst (v := 0) hx hb dL_count_1 (by decide) ?_
  refine lv_aload_n hx hb dL_count_2 rfl (lv_at hl 0 rfl) ?_
  refine lv_iload_n hx hb dL_count_3 rfl (lv_at hl 1 rfl) ?_
  refine z_ki (va_runV (As := [.int (nI q)]) (rest := [.int 0, .ref qo]) hfix (zcX4_count_k l D cI H b n me lo c e rd tk g q hC hI hq) (cwV 1 hts gL_count_X4_count rfl rfl rfl (by decide +kernel) ⟨Nat.le_of_ble_eq_true rfl, Nat.le_of_ble_eq_true rfl⟩) (z_preV hK1 hK1 hJ (ci := 4) (q0 := 0) rfl rfl rfl) rfl rfl hl.1 rfl (lv_room (Nat.le_of_ble_eq_true rfl)) dL_count_4 ⟨Nat.le_of_ble_eq_true rfl, Nat.le_of_ble_eq_true rfl⟩) ?_
  have hB1 := hC
  have hO1 := hO
  have hz0 : H.size = H.size := rfl
  refine lv_i2l (v := ((tj n (rd, tk, g) q)).toInt64) hx hb dL_count_7 rfl ?_
  refine z_last hx hb hK hO1 (Or.inr rfl) hS 0 1 rfl rfl (j := 0) rfl (by omega) (by omega) dL_count_8 (fun H2 lo2 hP1 hz1 hk1 hS => ?_)
  refine lv_goto (tgt := 15) hx hb dL_count_9 (by decide) ?_
  refine lv_iconst (v := 0) hx hb dL_count_15 (by decide) ?_
  exact z_iretM ⟨zCW_kept hB1 (fun z h1 h2 h3 => hk1 z (by omega)), hP1, hz1.trans hz0⟩ hx hb hr hlocks hS dL_count_16
set_option maxHeartbeats 4000000 in
set_option maxRecDepth 100000 in
/-- zcL_count_b1 -/
theorem zcL_count_b1 (l : Launch) (D : va_G) (cI cL : ClassId) (H : Heap) (B0 qo : Nat) (hlt : l.stackTraces = false) (hB0 : B0 ≤ H.size) (b : Nat) (n : Nat) (me : Nat → Int32) (lo : Nat → Int32) (c : Nat → Nat) (e : Nat → Nat) (rd : Int32) (tk : Int32) (g : zG) (x : Int32) (hC : zCW D cI b n me lo c e rd tk g H) (hI : zI n me lo c e) (hx9 : x < 0 ∨ ¬ x ≤ 5) : Met l yL_count wsL_count ({ frames := 8, cells := 1, slots := 6, locals := 124 } : Room) (zPx D [(cI, .int), (cL, .long)] H B0 [.ref b, .int x, .ref qo]) (zM (fun H1 => H.size ≤ H1.size) (some (.int 1)) (fun z => H.size ≤ z)) 1 6 (fun z => H.size ≤ z) := by
  refine z_wenter (cc := cL_count) (maxL := 4) (ret := some .int) (hh := [(0, 9, 12, 20)]) (by decide) rfl (Nat.le_of_ble_eq_true rfl) ?_
  intro pg ev s m args below meth cd hfix hr hlocks htab hK hHs hE ls hl
  have hK1 : va_K D vwCl [(cI, .int)] s := hK.sub [0] rfl
  obtain ⟨hx, hb, hml, hown, hts⟩ := id hfix
  have hl : lv_has ls 4 [(0, .ref b), (1, .int x), (2, .ref qo)] := hl
  have hS : va_S (fun z => H.size ≤ z) s.heap H [] := by rw [hHs]; exact va_S.rf
  have hJ : va_P D vwCl (zPJ b) H := hC.1
  refine lv_aload_n hx hb dL_count_0 rfl (lv_at hl 2 rfl) ?_
  refine lv_iconst (v := 0) hx hb dL_count_1 (by decide) ?_
  refine lv_aload_n hx hb dL_count_2 rfl (lv_at hl 0 rfl) ?_
  refine lv_iload_n hx hb dL_count_3 rfl (lv_at hl 1 rfl) ?_
  refine z_xcall (fun _ h => h) (vx_runV (As := [.int x]) (rest := [.int 0, .ref qo]) hfix (zcX4_count_b1 l D cI H hlt B0 hB0 b n me lo c e rd tk g x hC hI hx9) (cwV 1 hts gL_count_X4_count rfl rfl rfl (by decide +kernel) ⟨Nat.le_of_ble_eq_true rfl, Nat.le_of_ble_eq_true rfl⟩) (z_xpreV hE (fun q _ _ => by rw [hHs]) hK1 hK1 hJ (ci := 4) (q0 := 0) rfl rfl rfl) rfl rfl hl.1 rfl (lv_room (Nat.le_of_ble_eq_true rfl)) dL_count_4 ⟨Nat.le_of_ble_eq_true rfl, Nat.le_of_ble_eq_true rfl⟩) (fun E ce q1 H1 hP hz hk hce hcv hcl => ?_)
  subst hP
  refine vx_catch (own := RL) (name := zIO) hown [] ⟨0, 9, 12, 20⟩ [] (htab.trans rfl) (fun z hz => absurd hz List.not_mem_nil) rfl (by decide) (hts _ (List.mem_of_getElem? (i := 1) rfl)) (va_tabs (zEw_ok _ zc_zIO).1 rfl (hE.1 _ zc_zIO)) hce hcv hcl ?_
  have hS := z_Sgrow hS hz hk
  refine W.eq (g2 := F0 m 12 ls [.ref q1]) rfl ?_
  refine lv_astore_n (lv' := [(3, .ref q1), (0, .ref b), (1, .int x), (2, .ref qo)]) hx hb dL_count_12 rfl hl (by decide) rfl (fun ls hl => ?_)
  refine lv_iconst (v := 1) hx hb dL_count_13 (by decide) ?_
  refine W.widen (k := 1) (n := 6) (by omega) (by omega) ?_
  exact z_iretM hz hx hb hr hlocks hS dL_count_14
set_option maxHeartbeats 4000000 in
set_option maxRecDepth 100000 in
/-- zcL_pass_k -/
theorem zcL_pass_k (l : Launch) (D : va_G) (cI cL : ClassId) (H : Heap) (B0 qo : Nat) (f : Nat → Int64) (b : Nat) (n : Nat) (me : Nat → Int32) (lo : Nat → Int32) (c : Nat → Nat) (e : Nat → Nat) (rd : Int32) (tk : Int32) (g : zG) (r : Nat) (hC : zCW D cI b n me lo c e rd tk g H) (hI : zI n me lo c e) (hr1 : 1 ≤ r) (hr2 : r ≤ 200) (hO : va_P D vwCl [(qo, .inl (cL, 1, .inr (.inl f)))] H) (hqd : b + 61 ≤ qo ∨ qo < b) : Met l yL_pass wsL_pass ({ frames := 7, cells := 0, slots := 0, locals := 159 } : Room) (zPx D [(cI, .int), (cL, .long)] H B0 [.ref b, .int (nI r), .ref qo]) (zM (fun H1 => zCW D cI b n me lo c e ((rN n me lo c e (rd, tk, g) r).1) ((rN n me lo c e (rd, tk, g) r).2.1) ((rN n me lo c e (rd, tk, g) r).2.2) H1 ∧ va_P D vwCl [(qo, .inl (cL, 1, .inr (.inl (vp_updL f 0 (((rN n me lo c e (rd, tk, g) r).2.1 - tk)).toInt64))))] H1 ∧ H1.size = H.size) (some (.int 0)) (fun z => zF b (b + 61) z ∨ z = qo)) 0 0 (fun z => zF b (b + 61) z ∨ z = qo) := by
  refine z_wenter (cc := cL_pass) (maxL := 4) (ret := some .int) (hh := [(0, 9, 12, 13)]) (by decide) rfl (Nat.le_of_ble_eq_true rfl) ?_
  intro pg ev s m args below meth cd hfix hr hlocks htab hK hHs hE ls hl
  have hK1 : va_K D vwCl [(cI, .int)] s := hK.sub [0] rfl
  obtain ⟨hx, hb, hml, hown, hts⟩ := id hfix
  have hl : lv_has ls 4 [(0, .ref b), (1, .int (nI r)), (2, .ref qo)] := hl
  have hS : va_S (fun z => zF b (b + 61) z ∨ z = qo) s.heap H [] := by rw [hHs]; exact va_S.rf
  have hJ : va_P D vwCl (zPJ b) H := hC.1
  refine lv_aload_n hx hb dL_pass_0 rfl (lv_at hl 2 rfl) ?_
  refine lv_iconst (v := 0) hx hb dL_pass_1 (by decide) ?_
  refine lv_aload_n hx hb dL_pass_2 rfl (lv_at hl 0 rfl) ?_
  refine lv_iload_n hx hb dL_pass_3 rfl (lv_at hl 1 rfl) ?_
  refine z_mi (va_runV (As := [.int (nI r)]) (rest := [.int 0, .ref qo]) hfix (zcX4_pass_k l D cI H b n me lo c e rd tk g r hC hI hr1 hr2) (cwV 1 hts gL_pass_X4_pass rfl rfl rfl (by decide +kernel) ⟨Nat.le_of_ble_eq_true rfl, Nat.le_of_ble_eq_true rfl⟩) (z_preV hK1 hK1 hJ (ci := 4) (q0 := 0) rfl rfl rfl) rfl rfl hl.1 rfl (lv_room (Nat.le_of_ble_eq_true rfl)) dL_pass_4 ⟨Nat.le_of_ble_eq_true rfl, Nat.le_of_ble_eq_true rfl⟩) hS (fun z _ h => Or.inl h) (fun z h => Or.inl h) (fun H1 lo1 hB hz1 hk1 hS => ?_)
  have hB1 := hB.1
  have hz0 : H1.size = H.size := hB.2
  have hO1 := zOb_kept hO (fun z h1 h2 h3 => hk1 z h1 (fun h4 => by simp only [zF] at h4; omega))
  refine lv_i2l (v := (((rN n me lo c e (rd, tk, g) r).2.1 - tk)).toInt64) hx hb dL_pass_7 rfl ?_
  refine z_last hx hb hK hO1 (Or.inr rfl) hS 0 1 rfl rfl (j := 0) rfl (by omega) (by omega) dL_pass_8 (fun H2 lo2 hP1 hz1 hk1 hS => ?_)
  refine lv_goto (tgt := 15) hx hb dL_pass_9 (by decide) ?_
  refine lv_iconst (v := 0) hx hb dL_pass_15 (by decide) ?_
  exact z_iretM ⟨zCW_kept hB1 (fun z h1 h2 h3 => hk1 z (by omega)), hP1, hz1.trans hz0⟩ hx hb hr hlocks hS dL_pass_16
set_option maxHeartbeats 4000000 in
set_option maxRecDepth 100000 in
/-- zcL_pass_b1 -/
theorem zcL_pass_b1 (l : Launch) (D : va_G) (cI cL : ClassId) (H : Heap) (B0 qo : Nat) (hlt : l.stackTraces = false) (hB0 : B0 ≤ H.size) (b : Nat) (n : Nat) (me : Nat → Int32) (lo : Nat → Int32) (c : Nat → Nat) (e : Nat → Nat) (rd : Int32) (tk : Int32) (g : zG) (x : Int32) (hC : zCW D cI b n me lo c e rd tk g H) (hI : zI n me lo c e) (hx9 : x < 1 ∨ ¬ x ≤ 200) : Met l yL_pass wsL_pass ({ frames := 8, cells := 1, slots := 6, locals := 125 } : Room) (zPx D [(cI, .int), (cL, .long)] H B0 [.ref b, .int x, .ref qo]) (zM (fun H1 => H.size ≤ H1.size) (some (.int 1)) (fun z => H.size ≤ z)) 1 6 (fun z => H.size ≤ z) := by
  refine z_wenter (cc := cL_pass) (maxL := 4) (ret := some .int) (hh := [(0, 9, 12, 13)]) (by decide) rfl (Nat.le_of_ble_eq_true rfl) ?_
  intro pg ev s m args below meth cd hfix hr hlocks htab hK hHs hE ls hl
  have hK1 : va_K D vwCl [(cI, .int)] s := hK.sub [0] rfl
  obtain ⟨hx, hb, hml, hown, hts⟩ := id hfix
  have hl : lv_has ls 4 [(0, .ref b), (1, .int x), (2, .ref qo)] := hl
  have hS : va_S (fun z => H.size ≤ z) s.heap H [] := by rw [hHs]; exact va_S.rf
  have hJ : va_P D vwCl (zPJ b) H := hC.1
  refine lv_aload_n hx hb dL_pass_0 rfl (lv_at hl 2 rfl) ?_
  refine lv_iconst (v := 0) hx hb dL_pass_1 (by decide) ?_
  refine lv_aload_n hx hb dL_pass_2 rfl (lv_at hl 0 rfl) ?_
  refine lv_iload_n hx hb dL_pass_3 rfl (lv_at hl 1 rfl) ?_
  refine z_xcall (fun _ h => h) (vx_runV (As := [.int x]) (rest := [.int 0, .ref qo]) hfix (zcX4_pass_b1 l D cI H hlt B0 hB0 b n me lo c e rd tk g x hC hI hx9) (cwV 1 hts gL_pass_X4_pass rfl rfl rfl (by decide +kernel) ⟨Nat.le_of_ble_eq_true rfl, Nat.le_of_ble_eq_true rfl⟩) (z_xpreV hE (fun q _ _ => by rw [hHs]) hK1 hK1 hJ (ci := 4) (q0 := 0) rfl rfl rfl) rfl rfl hl.1 rfl (lv_room (Nat.le_of_ble_eq_true rfl)) dL_pass_4 ⟨Nat.le_of_ble_eq_true rfl, Nat.le_of_ble_eq_true rfl⟩) (fun E ce q1 H1 hP hz hk hce hcv hcl => ?_)
  subst hP
  refine vx_catch (own := RL) (name := zIA) hown [] ⟨0, 9, 12, 13⟩ [] (htab.trans rfl) (fun z hz => absurd hz List.not_mem_nil) rfl (by decide) (hts _ (List.mem_of_getElem? (i := 1) rfl)) (va_tabs (zEw_ok _ zc_zIA).1 rfl (hE.1 _ zc_zIA)) hce hcv hcl ?_
  have hS := z_Sgrow hS hz hk
  refine W.eq (g2 := F0 m 12 ls [.ref q1]) rfl ?_
  refine lv_astore_n (lv' := [(3, .ref q1), (0, .ref b), (1, .int x), (2, .ref qo)]) hx hb dL_pass_12 rfl hl (by decide) rfl (fun ls hl => ?_)
  refine lv_iconst (v := 1) hx hb dL_pass_13 (by decide) ?_
  refine W.widen (k := 1) (n := 6) (by omega) (by omega) ?_
  exact z_iretM hz hx hb hr hlocks hS dL_pass_14
set_option maxHeartbeats 4000000 in
set_option maxRecDepth 100000 in
/-- zcL_foresee_k -/
theorem zcL_foresee_k (l : Launch) (D : va_G) (cI cL : ClassId) (H : Heap) (B0 qo : Nat) (f : Nat → Int64) (b : Nat) (n : Nat) (me : Nat → Int32) (lo : Nat → Int32) (c : Nat → Nat) (e : Nat → Nat) (rd : Int32) (tk : Int32) (g : zG) (r : Nat) (p : Nat) (hC : zCW D cI b n me lo c e rd tk g H) (hI : zI n me lo c e) (hr1 : 1 ≤ r) (hr2 : r ≤ 200) (hp : p < n) (hO : va_P D vwCl [(qo, .inl (cL, 1, .inr (.inl f)))] H) (hqd : b + 61 ≤ qo ∨ qo < b) : Met l yL_foresee wsL_foresee ({ frames := 7, cells := 0, slots := 0, locals := 159 } : Room) (zPx D [(cI, .int), (cL, .long)] H B0 [.ref b, .int (nI r), .int (nI p), .ref qo]) (zM (fun H1 => zCW D cI b n me lo c e rd tk g H1 ∧ va_P D vwCl [(qo, .inl (cL, 1, .inr (.inl (vp_updL f 0 ((wd (rN n me lo c e (rd, tk, g) r).2.2 p)).toInt64))))] H1 ∧ H1.size = H.size) (some (.int 0)) (fun z => zF b (b + 61) z ∨ z = qo)) 0 0 (fun z => zF b (b + 61) z ∨ z = qo) := by
  refine z_wenter (cc := cL_foresee) (maxL := 5) (ret := some .int) (hh := [(0, 10, 13, 13), (0, 10, 17, 20)]) (by decide) rfl (Nat.le_of_ble_eq_true rfl) ?_
  intro pg ev s m args below meth cd hfix hr hlocks htab hK hHs hE ls hl
  have hK1 : va_K D vwCl [(cI, .int)] s := hK.sub [0] rfl
  obtain ⟨hx, hb, hml, hown, hts⟩ := id hfix
  have hl : lv_has ls 5 [(0, .ref b), (1, .int (nI r)), (2, .int (nI p)), (3, .ref qo)] := hl
  have hS : va_S (fun z => zF b (b + 61) z ∨ z = qo) s.heap H [] := by rw [hHs]; exact va_S.rf
  have hJ : va_P D vwCl (zPJ b) H := hC.1
  refine lv_aload_n hx hb dL_foresee_0 rfl (lv_at hl 3 rfl) ?_
  refine lv_iconst (v := 0) hx hb dL_foresee_1 (by decide) ?_
  refine lv_aload_n hx hb dL_foresee_2 rfl (lv_at hl 0 rfl) ?_
  refine lv_iload_n hx hb dL_foresee_3 rfl (lv_at hl 1 rfl) ?_
  refine lv_iload_n hx hb dL_foresee_4 rfl (lv_at hl 2 rfl) ?_
  refine z_mi (va_runV (As := [.int (nI r), .int (nI p)]) (rest := [.int 0, .ref qo]) hfix (zcX4_foresee_k l D cI H b n me lo c e rd tk g r p hC hI hr1 hr2 hp) (cwV 2 hts gL_foresee_X4_foresee rfl rfl rfl (by decide +kernel) ⟨Nat.le_of_ble_eq_true rfl, Nat.le_of_ble_eq_true rfl⟩) (z_preV hK1 hK1 hJ (ci := 4) (q0 := 0) rfl rfl rfl) rfl rfl hl.1 rfl (lv_room (Nat.le_of_ble_eq_true rfl)) dL_foresee_5 ⟨Nat.le_of_ble_eq_true rfl, Nat.le_of_ble_eq_true rfl⟩) hS (fun z _ h => Or.inl h) (fun z h => Or.inl h) (fun H1 lo1 hB hz1 hk1 hS => ?_)
  have hB1 := hB.1
  have hz0 : H1.size = H.size := hB.2
  have hO1 := zOb_kept hO (fun z h1 h2 h3 => hk1 z h1 (fun h4 => by simp only [zF] at h4; omega))
  refine lv_i2l (v := ((wd (rN n me lo c e (rd, tk, g) r).2.2 p)).toInt64) hx hb dL_foresee_8 rfl ?_
  refine z_last hx hb hK hO1 (Or.inr rfl) hS 0 1 rfl rfl (j := 0) rfl (by omega) (by omega) dL_foresee_9 (fun H2 lo2 hP1 hz1 hk1 hS => ?_)
  refine lv_goto (tgt := 21) hx hb dL_foresee_10 (by decide) ?_
  refine lv_iconst (v := 0) hx hb dL_foresee_21 (by decide) ?_
  exact z_iretM ⟨zCW_kept hB1 (fun z h1 h2 h3 => hk1 z (by omega)), hP1, hz1.trans hz0⟩ hx hb hr hlocks hS dL_foresee_22
set_option maxHeartbeats 4000000 in
set_option maxRecDepth 100000 in
/-- zcL_foresee_b1 -/
theorem zcL_foresee_b1 (l : Launch) (D : va_G) (cI cL : ClassId) (H : Heap) (B0 qo : Nat) (hlt : l.stackTraces = false) (hB0 : B0 ≤ H.size) (b : Nat) (n : Nat) (me : Nat → Int32) (lo : Nat → Int32) (c : Nat → Nat) (e : Nat → Nat) (rd : Int32) (tk : Int32) (g : zG) (x : Int32) (y : Int32) (hC : zCW D cI b n me lo c e rd tk g H) (hI : zI n me lo c e) (hx9 : x < 1 ∨ ¬ x ≤ 200) : Met l yL_foresee wsL_foresee ({ frames := 8, cells := 1, slots := 6, locals := 125 } : Room) (zPx D [(cI, .int), (cL, .long)] H B0 [.ref b, .int x, .int y, .ref qo]) (zM (fun H1 => H.size ≤ H1.size) (some (.int 1)) (fun z => H.size ≤ z)) 1 6 (fun z => H.size ≤ z) := by
  refine z_wenter (cc := cL_foresee) (maxL := 5) (ret := some .int) (hh := [(0, 10, 13, 13), (0, 10, 17, 20)]) (by decide) rfl (Nat.le_of_ble_eq_true rfl) ?_
  intro pg ev s m args below meth cd hfix hr hlocks htab hK hHs hE ls hl
  have hK1 : va_K D vwCl [(cI, .int)] s := hK.sub [0] rfl
  obtain ⟨hx, hb, hml, hown, hts⟩ := id hfix
  have hl : lv_has ls 5 [(0, .ref b), (1, .int x), (2, .int y), (3, .ref qo)] := hl
  have hS : va_S (fun z => H.size ≤ z) s.heap H [] := by rw [hHs]; exact va_S.rf
  have hJ : va_P D vwCl (zPJ b) H := hC.1
  refine lv_aload_n hx hb dL_foresee_0 rfl (lv_at hl 3 rfl) ?_
  refine lv_iconst (v := 0) hx hb dL_foresee_1 (by decide) ?_
  refine lv_aload_n hx hb dL_foresee_2 rfl (lv_at hl 0 rfl) ?_
  refine lv_iload_n hx hb dL_foresee_3 rfl (lv_at hl 1 rfl) ?_
  refine lv_iload_n hx hb dL_foresee_4 rfl (lv_at hl 2 rfl) ?_
  refine z_xcall (fun _ h => h) (vx_runV (As := [.int x, .int y]) (rest := [.int 0, .ref qo]) hfix (zcX4_foresee_b1 l D cI H hlt B0 hB0 b n me lo c e rd tk g x y hC hI hx9) (cwV 2 hts gL_foresee_X4_foresee rfl rfl rfl (by decide +kernel) ⟨Nat.le_of_ble_eq_true rfl, Nat.le_of_ble_eq_true rfl⟩) (z_xpreV hE (fun q _ _ => by rw [hHs]) hK1 hK1 hJ (ci := 4) (q0 := 0) rfl rfl rfl) rfl rfl hl.1 rfl (lv_room (Nat.le_of_ble_eq_true rfl)) dL_foresee_5 ⟨Nat.le_of_ble_eq_true rfl, Nat.le_of_ble_eq_true rfl⟩) (fun E ce q1 H1 hP hz hk hce hcv hcl => ?_)
  subst hP
  refine vx_catch (own := RL) (name := zIA) hown [] ⟨0, 10, 13, 13⟩ [⟨0, 10, 17, 20⟩] (htab.trans rfl) (fun z hz => absurd hz List.not_mem_nil) rfl (by decide) (hts _ (List.mem_of_getElem? (i := 1) rfl)) (va_tabs (zEw_ok _ zc_zIA).1 rfl (hE.1 _ zc_zIA)) hce hcv hcl ?_
  have hS := z_Sgrow hS hz hk
  refine W.eq (g2 := F0 m 13 ls [.ref q1]) rfl ?_
  refine lv_astore (lv' := [(4, .ref q1), (0, .ref b), (1, .int x), (2, .int y), (3, .ref qo)]) hx hb dL_foresee_13 hl (by decide) rfl (fun ls hl => ?_)
  refine lv_iconst (v := 1) hx hb dL_foresee_15 (by decide) ?_
  refine W.widen (k := 1) (n := 6) (by omega) (by omega) ?_
  exact z_iretM hz hx hb hr hlocks hS dL_foresee_16
set_option maxHeartbeats 4000000 in
set_option maxRecDepth 100000 in
/-- zcL_foresee_b2 -/
theorem zcL_foresee_b2 (l : Launch) (D : va_G) (cI cL : ClassId) (H : Heap) (B0 qo : Nat) (hlt : l.stackTraces = false) (hB0 : B0 ≤ H.size) (b : Nat) (n : Nat) (me : Nat → Int32) (lo : Nat → Int32) (c : Nat → Nat) (e : Nat → Nat) (rd : Int32) (tk : Int32) (g : zG) (r : Nat) (x : Int32) (hC : zCW D cI b n me lo c e rd tk g H) (hI : zI n me lo c e) (hr1 : 1 ≤ r) (hr2 : r ≤ 200) (hx9 : ¬ ∃ j, j < n ∧ x = nI j) : Met l yL_foresee wsL_foresee ({ frames := 8, cells := 1, slots := 6, locals := 125 } : Room) (zPx D [(cI, .int), (cL, .long)] H B0 [.ref b, .int (nI r), .int x, .ref qo]) (zM (fun H1 => H.size ≤ H1.size) (some (.int 2)) (fun z => H.size ≤ z)) 1 6 (fun z => H.size ≤ z) := by
  refine z_wenter (cc := cL_foresee) (maxL := 5) (ret := some .int) (hh := [(0, 10, 13, 13), (0, 10, 17, 20)]) (by decide) rfl (Nat.le_of_ble_eq_true rfl) ?_
  intro pg ev s m args below meth cd hfix hr hlocks htab hK hHs hE ls hl
  have hK1 : va_K D vwCl [(cI, .int)] s := hK.sub [0] rfl
  obtain ⟨hx, hb, hml, hown, hts⟩ := id hfix
  have hl : lv_has ls 5 [(0, .ref b), (1, .int (nI r)), (2, .int x), (3, .ref qo)] := hl
  have hS : va_S (fun z => H.size ≤ z) s.heap H [] := by rw [hHs]; exact va_S.rf
  have hJ : va_P D vwCl (zPJ b) H := hC.1
  refine lv_aload_n hx hb dL_foresee_0 rfl (lv_at hl 3 rfl) ?_
  refine lv_iconst (v := 0) hx hb dL_foresee_1 (by decide) ?_
  refine lv_aload_n hx hb dL_foresee_2 rfl (lv_at hl 0 rfl) ?_
  refine lv_iload_n hx hb dL_foresee_3 rfl (lv_at hl 1 rfl) ?_
  refine lv_iload_n hx hb dL_foresee_4 rfl (lv_at hl 2 rfl) ?_
  refine z_xcall (fun _ h => h) (vx_runV (As := [.int (nI r), .int x]) (rest := [.int 0, .ref qo]) hfix (zcX4_foresee_b2 l D cI H hlt B0 hB0 b n me lo c e rd tk g r x hC hI hr1 hr2 hx9) (cwV 2 hts gL_foresee_X4_foresee rfl rfl rfl (by decide +kernel) ⟨Nat.le_of_ble_eq_true rfl, Nat.le_of_ble_eq_true rfl⟩) (z_xpreV hE (fun q _ _ => by rw [hHs]) hK1 hK1 hJ (ci := 4) (q0 := 0) rfl rfl rfl) rfl rfl hl.1 rfl (lv_room (Nat.le_of_ble_eq_true rfl)) dL_foresee_5 ⟨Nat.le_of_ble_eq_true rfl, Nat.le_of_ble_eq_true rfl⟩) (fun E ce q1 H1 hP hz hk hce hcv hcl => ?_)
  subst hP
  refine vx_catch (own := RL) (name := zIO) hown [⟨0, 10, 13, 13⟩] ⟨0, 10, 17, 20⟩ [] (htab.trans rfl) (fun z hz => by cases List.mem_singleton.mp hz; exact Or.inr ⟨by decide, _, (hts _ (List.mem_of_getElem? (i := 1) rfl)), hE.2.2.1 (zIO, zIA) (by decide)⟩) rfl (by decide) (hts _ (List.mem_of_getElem? (i := 2) rfl)) (va_tabs (zEw_ok _ zc_zIO).1 rfl (hE.1 _ zc_zIO)) hce hcv hcl ?_
  have hS := z_Sgrow hS hz hk
  refine W.eq (g2 := F0 m 17 ls [.ref q1]) rfl ?_
  refine lv_astore (lv' := [(4, .ref q1), (0, .ref b), (1, .int (nI r)), (2, .int x), (3, .ref qo)]) hx hb dL_foresee_17 hl (by decide) rfl (fun ls hl => ?_)
  refine lv_iconst (v := 2) hx hb dL_foresee_19 (by decide) ?_
  refine W.widen (k := 1) (n := 6) (by omega) (by omega) ?_
  exact z_iretM hz hx hb hr hlocks hS dL_foresee_20
set_option maxHeartbeats 4000000 in
set_option maxRecDepth 100000 in
/-- zcL_advise_k -/
theorem zcL_advise_k (l : Launch) (D : va_G) (cI cL : ClassId) (H : Heap) (B0 qo : Nat) (f : Nat → Int64) (b : Nat) (n : Nat) (me : Nat → Int32) (lo : Nat → Int32) (c : Nat → Nat) (e : Nat → Nat) (rd : Int32) (tk : Int32) (g : zG) (w : Nat) (r : Nat) (hC : zCW D cI b n me lo c e rd tk g H) (hI : zI n me lo c e) (hw : w ≤ 9999) (hr1 : 1 ≤ r) (hr2 : r ≤ 40) (hO : va_P D vwCl [(qo, .inl (cL, 1, .inr (.inl f)))] H) (hqd : b + 61 ≤ qo ∨ qo < b) : Met l yL_advise wsL_advise ({ frames := 8, cells := 0, slots := 0, locals := 187 } : Room) (zPx D [(cI, .int), (cL, .long)] H B0 [.ref b, .int (nI w), .int (nI r), .ref qo]) (zM (fun H1 => zCW D cI b n me lo c e rd tk g H1 ∧ va_P D vwCl [(qo, .inl (cL, 1, .inr (.inl (vp_updL f 0 (((av (vw n me lo c e rd tk g (nI w) r) n).1)).toInt64))))] H1 ∧ H1.size = H.size) (some (.int 0)) (fun z => zF b (b + 61) z ∨ z = qo)) 0 0 (fun z => zF b (b + 61) z ∨ z = qo) := by
  refine z_wenter (cc := cL_advise) (maxL := 5) (ret := some .int) (hh := [(0, 10, 13, 13)]) (by decide) rfl (Nat.le_of_ble_eq_true rfl) ?_
  intro pg ev s m args below meth cd hfix hr hlocks htab hK hHs hE ls hl
  have hK1 : va_K D vwCl [(cI, .int)] s := hK.sub [0] rfl
  obtain ⟨hx, hb, hml, hown, hts⟩ := id hfix
  have hl : lv_has ls 5 [(0, .ref b), (1, .int (nI w)), (2, .int (nI r)), (3, .ref qo)] := hl
  have hS : va_S (fun z => zF b (b + 61) z ∨ z = qo) s.heap H [] := by rw [hHs]; exact va_S.rf
  have hJ : va_P D vwCl (zPJ b) H := hC.1
  refine lv_aload_n hx hb dL_advise_0 rfl (lv_at hl 3 rfl) ?_
  refine lv_iconst (v := 0) hx hb dL_advise_1 (by decide) ?_
  refine lv_aload_n hx hb dL_advise_2 rfl (lv_at hl 0 rfl) ?_
  refine lv_iload_n hx hb dL_advise_3 rfl (lv_at hl 1 rfl) ?_
  refine lv_iload_n hx hb dL_advise_4 rfl (lv_at hl 2 rfl) ?_
  refine z_mi (va_runV (As := [.int (nI w), .int (nI r)]) (rest := [.int 0, .ref qo]) hfix (zcX4_advise_k l D cI H b n me lo c e rd tk g w r hC hI hw hr1 hr2) (cwV 2 hts gL_advise_X4_advise rfl rfl rfl (by decide +kernel) ⟨Nat.le_of_ble_eq_true rfl, Nat.le_of_ble_eq_true rfl⟩) (z_preV hK1 hK1 hJ (ci := 4) (q0 := 0) rfl rfl rfl) rfl rfl hl.1 rfl (lv_room (Nat.le_of_ble_eq_true rfl)) dL_advise_5 ⟨Nat.le_of_ble_eq_true rfl, Nat.le_of_ble_eq_true rfl⟩) hS (fun z _ h => Or.inl h) (fun z h => Or.inl h) (fun H1 lo1 hB hz1 hk1 hS => ?_)
  have hB1 := hB.1
  have hz0 : H1.size = H.size := hB.2
  have hO1 := zOb_kept hO (fun z h1 h2 h3 => hk1 z h1 (fun h4 => by simp only [zF] at h4; omega))
  refine lv_i2l (v := (((av (vw n me lo c e rd tk g (nI w) r) n).1)).toInt64) hx hb dL_advise_8 rfl ?_
  refine z_last hx hb hK hO1 (Or.inr rfl) hS 0 1 rfl rfl (j := 0) rfl (by omega) (by omega) dL_advise_9 (fun H2 lo2 hP1 hz1 hk1 hS => ?_)
  refine lv_goto (tgt := 17) hx hb dL_advise_10 (by decide) ?_
  refine lv_iconst (v := 0) hx hb dL_advise_17 (by decide) ?_
  exact z_iretM ⟨zCW_kept hB1 (fun z h1 h2 h3 => hk1 z (by omega)), hP1, hz1.trans hz0⟩ hx hb hr hlocks hS dL_advise_18
set_option maxHeartbeats 4000000 in
set_option maxRecDepth 100000 in
/-- zcL_advise_b1 -/
theorem zcL_advise_b1 (l : Launch) (D : va_G) (cI cL : ClassId) (H : Heap) (B0 qo : Nat) (hlt : l.stackTraces = false) (hB0 : B0 ≤ H.size) (b : Nat) (n : Nat) (me : Nat → Int32) (lo : Nat → Int32) (c : Nat → Nat) (e : Nat → Nat) (rd : Int32) (tk : Int32) (g : zG) (x : Int32) (y : Int32) (hC : zCW D cI b n me lo c e rd tk g H) (hI : zI n me lo c e) (hx9 : x < 0 ∨ ¬ x ≤ 9999) : Met l yL_advise wsL_advise ({ frames := 8, cells := 1, slots := 6, locals := 129 } : Room) (zPx D [(cI, .int), (cL, .long)] H B0 [.ref b, .int x, .int y, .ref qo]) (zM (fun H1 => H.size ≤ H1.size) (some (.int 1)) (fun z => H.size ≤ z)) 1 6 (fun z => H.size ≤ z) := by
  refine z_wenter (cc := cL_advise) (maxL := 5) (ret := some .int) (hh := [(0, 10, 13, 13)]) (by decide) rfl (Nat.le_of_ble_eq_true rfl) ?_
  intro pg ev s m args below meth cd hfix hr hlocks htab hK hHs hE ls hl
  have hK1 : va_K D vwCl [(cI, .int)] s := hK.sub [0] rfl
  obtain ⟨hx, hb, hml, hown, hts⟩ := id hfix
  have hl : lv_has ls 5 [(0, .ref b), (1, .int x), (2, .int y), (3, .ref qo)] := hl
  have hS : va_S (fun z => H.size ≤ z) s.heap H [] := by rw [hHs]; exact va_S.rf
  have hJ : va_P D vwCl (zPJ b) H := hC.1
  refine lv_aload_n hx hb dL_advise_0 rfl (lv_at hl 3 rfl) ?_
  refine lv_iconst (v := 0) hx hb dL_advise_1 (by decide) ?_
  refine lv_aload_n hx hb dL_advise_2 rfl (lv_at hl 0 rfl) ?_
  refine lv_iload_n hx hb dL_advise_3 rfl (lv_at hl 1 rfl) ?_
  refine lv_iload_n hx hb dL_advise_4 rfl (lv_at hl 2 rfl) ?_
  refine z_xcall (fun _ h => h) (vx_runV (As := [.int x, .int y]) (rest := [.int 0, .ref qo]) hfix (zcX4_advise_b1 l D cI H hlt B0 hB0 b n me lo c e rd tk g x y hC hI hx9) (cwV 2 hts gL_advise_X4_advise rfl rfl rfl (by decide +kernel) ⟨Nat.le_of_ble_eq_true rfl, Nat.le_of_ble_eq_true rfl⟩) (z_xpreV hE (fun q _ _ => by rw [hHs]) hK1 hK1 hJ (ci := 4) (q0 := 0) rfl rfl rfl) rfl rfl hl.1 rfl (lv_room (Nat.le_of_ble_eq_true rfl)) dL_advise_5 ⟨Nat.le_of_ble_eq_true rfl, Nat.le_of_ble_eq_true rfl⟩) (fun E ce q1 H1 hP hz hk hce hcv hcl => ?_)
  subst hP
  refine vx_catch (own := RL) (name := zIA) hown [] ⟨0, 10, 13, 13⟩ [] (htab.trans rfl) (fun z hz => absurd hz List.not_mem_nil) rfl (by decide) (hts _ (List.mem_of_getElem? (i := 1) rfl)) (va_tabs (zEw_ok _ zc_zIA).1 rfl (hE.1 _ zc_zIA)) hce hcv hcl ?_
  have hS := z_Sgrow hS hz hk
  refine W.eq (g2 := F0 m 13 ls [.ref q1]) rfl ?_
  refine lv_astore (lv' := [(4, .ref q1), (0, .ref b), (1, .int x), (2, .int y), (3, .ref qo)]) hx hb dL_advise_13 hl (by decide) rfl (fun ls hl => ?_)
  refine lv_iconst (v := 1) hx hb dL_advise_15 (by decide) ?_
  refine W.widen (k := 1) (n := 6) (by omega) (by omega) ?_
  exact z_iretM hz hx hb hr hlocks hS dL_advise_16
set_option maxHeartbeats 4000000 in
set_option maxRecDepth 100000 in
/-- zcL_advise_b2 -/
theorem zcL_advise_b2 (l : Launch) (D : va_G) (cI cL : ClassId) (H : Heap) (B0 qo : Nat) (hlt : l.stackTraces = false) (hB0 : B0 ≤ H.size) (b : Nat) (n : Nat) (me : Nat → Int32) (lo : Nat → Int32) (c : Nat → Nat) (e : Nat → Nat) (rd : Int32) (tk : Int32) (g : zG) (w : Nat) (y : Int32) (hC : zCW D cI b n me lo c e rd tk g H) (hI : zI n me lo c e) (hw : w ≤ 9999) (hx9 : y < 1 ∨ ¬ y ≤ 40) : Met l yL_advise wsL_advise ({ frames := 8, cells := 1, slots := 6, locals := 130 } : Room) (zPx D [(cI, .int), (cL, .long)] H B0 [.ref b, .int (nI w), .int y, .ref qo]) (zM (fun H1 => H.size ≤ H1.size) (some (.int 1)) (fun z => H.size ≤ z)) 1 6 (fun z => H.size ≤ z) := by
  refine z_wenter (cc := cL_advise) (maxL := 5) (ret := some .int) (hh := [(0, 10, 13, 13)]) (by decide) rfl (Nat.le_of_ble_eq_true rfl) ?_
  intro pg ev s m args below meth cd hfix hr hlocks htab hK hHs hE ls hl
  have hK1 : va_K D vwCl [(cI, .int)] s := hK.sub [0] rfl
  obtain ⟨hx, hb, hml, hown, hts⟩ := id hfix
  have hl : lv_has ls 5 [(0, .ref b), (1, .int (nI w)), (2, .int y), (3, .ref qo)] := hl
  have hS : va_S (fun z => H.size ≤ z) s.heap H [] := by rw [hHs]; exact va_S.rf
  have hJ : va_P D vwCl (zPJ b) H := hC.1
  refine lv_aload_n hx hb dL_advise_0 rfl (lv_at hl 3 rfl) ?_
  refine lv_iconst (v := 0) hx hb dL_advise_1 (by decide) ?_
  refine lv_aload_n hx hb dL_advise_2 rfl (lv_at hl 0 rfl) ?_
  refine lv_iload_n hx hb dL_advise_3 rfl (lv_at hl 1 rfl) ?_
  refine lv_iload_n hx hb dL_advise_4 rfl (lv_at hl 2 rfl) ?_
  refine z_xcall (fun _ h => h) (vx_runV (As := [.int (nI w), .int y]) (rest := [.int 0, .ref qo]) hfix (zcX4_advise_b2 l D cI H hlt B0 hB0 b n me lo c e rd tk g w y hC hI hw hx9) (cwV 2 hts gL_advise_X4_advise rfl rfl rfl (by decide +kernel) ⟨Nat.le_of_ble_eq_true rfl, Nat.le_of_ble_eq_true rfl⟩) (z_xpreV hE (fun q _ _ => by rw [hHs]) hK1 hK1 hJ (ci := 4) (q0 := 0) rfl rfl rfl) rfl rfl hl.1 rfl (lv_room (Nat.le_of_ble_eq_true rfl)) dL_advise_5 ⟨Nat.le_of_ble_eq_true rfl, Nat.le_of_ble_eq_true rfl⟩) (fun E ce q1 H1 hP hz hk hce hcv hcl => ?_)
  subst hP
  refine vx_catch (own := RL) (name := zIA) hown [] ⟨0, 10, 13, 13⟩ [] (htab.trans rfl) (fun z hz => absurd hz List.not_mem_nil) rfl (by decide) (hts _ (List.mem_of_getElem? (i := 1) rfl)) (va_tabs (zEw_ok _ zc_zIA).1 rfl (hE.1 _ zc_zIA)) hce hcv hcl ?_
  have hS := z_Sgrow hS hz hk
  refine W.eq (g2 := F0 m 13 ls [.ref q1]) rfl ?_
  refine lv_astore (lv' := [(4, .ref q1), (0, .ref b), (1, .int (nI w)), (2, .int y), (3, .ref qo)]) hx hb dL_advise_13 hl (by decide) rfl (fun ls hl => ?_)
  refine lv_iconst (v := 1) hx hb dL_advise_15 (by decide) ?_
  refine W.widen (k := 1) (n := 6) (by omega) (by omega) ?_
  exact z_iretM hz hx hb hr hlocks hS dL_advise_16
set_option maxHeartbeats 4000000 in
set_option maxRecDepth 100000 in
/-- zcL_source_k -/
theorem zcL_source_k (l : Launch) (D : va_G) (cI cL : ClassId) (H : Heap) (B0 qo : Nat) (f : Nat → Int64) (b : Nat) (n : Nat) (me : Nat → Int32) (lo : Nat → Int32) (c : Nat → Nat) (e : Nat → Nat) (rd : Int32) (tk : Int32) (g : zG) (p : Nat) (hC : zCW D cI b n me lo c e rd tk g H) (hI : zI n me lo c e) (hp : p < n) (hO : va_P D vwCl [(qo, .inl (cL, 1, .inr (.inl f)))] H) (hqd : b + 61 ≤ qo ∨ qo < b) : Met l yL_source wsL_source ({ frames := 5, cells := 0, slots := 0, locals := 113 } : Room) (zPx D [(cI, .int), (cL, .long)] H B0 [.ref b, .int (nI p), .ref qo]) (zM (fun H1 => zCW D cI b n me lo c e rd tk g H1 ∧ va_P D vwCl [(qo, .inl (cL, 1, .inr (.inl (vp_updL f 0 ((fd n c e (os e p (c p)) 12)).toInt64))))] H1 ∧ H1.size = H.size) (some (.int 0)) (fun z => zF b (b + 61) z ∨ z = qo)) 0 0 (fun z => zF b (b + 61) z ∨ z = qo) := by
  refine z_wenter (cc := cL_source) (maxL := 4) (ret := some .int) (hh := [(0, 9, 12, 20)]) (by decide) rfl (Nat.le_of_ble_eq_true rfl) ?_
  intro pg ev s m args below meth cd hfix hr hlocks htab hK hHs hE ls hl
  have hK1 : va_K D vwCl [(cI, .int)] s := hK.sub [0] rfl
  obtain ⟨hx, hb, hml, hown, hts⟩ := id hfix
  have hl : lv_has ls 4 [(0, .ref b), (1, .int (nI p)), (2, .ref qo)] := hl
  have hS : va_S (fun z => zF b (b + 61) z ∨ z = qo) s.heap H [] := by rw [hHs]; exact va_S.rf
  have hJ : va_P D vwCl (zPJ b) H := hC.1
  refine lv_aload_n hx hb dL_source_0 rfl (lv_at hl 2 rfl) ?_
  refine lv_iconst (v := 0) hx hb dL_source_1 (by decide) ?_
  refine lv_aload_n hx hb dL_source_2 rfl (lv_at hl 0 rfl) ?_
  refine lv_iload_n hx hb dL_source_3 rfl (lv_at hl 1 rfl) ?_
  refine z_ki (va_runV (As := [.int (nI p)]) (rest := [.int 0, .ref qo]) hfix (zcX4_source_k l D cI H b n me lo c e rd tk g p hC hI hp) (cwV 1 hts gL_source_X4_source rfl rfl rfl (by decide +kernel) ⟨Nat.le_of_ble_eq_true rfl, Nat.le_of_ble_eq_true rfl⟩) (z_preV hK1 hK1 hJ (ci := 4) (q0 := 0) rfl rfl rfl) rfl rfl hl.1 rfl (lv_room (Nat.le_of_ble_eq_true rfl)) dL_source_4 ⟨Nat.le_of_ble_eq_true rfl, Nat.le_of_ble_eq_true rfl⟩) ?_
  have hB1 := hC
  have hO1 := hO
  have hz0 : H.size = H.size := rfl
  refine lv_i2l (v := ((fd n c e (os e p (c p)) 12)).toInt64) hx hb dL_source_7 rfl ?_
  refine z_last hx hb hK hO1 (Or.inr rfl) hS 0 1 rfl rfl (j := 0) rfl (by omega) (by omega) dL_source_8 (fun H2 lo2 hP1 hz1 hk1 hS => ?_)
  refine lv_goto (tgt := 15) hx hb dL_source_9 (by decide) ?_
  refine lv_iconst (v := 0) hx hb dL_source_15 (by decide) ?_
  exact z_iretM ⟨zCW_kept hB1 (fun z h1 h2 h3 => hk1 z (by omega)), hP1, hz1.trans hz0⟩ hx hb hr hlocks hS dL_source_16
set_option maxHeartbeats 4000000 in
set_option maxRecDepth 100000 in
/-- zcL_source_b1 -/
theorem zcL_source_b1 (l : Launch) (D : va_G) (cI cL : ClassId) (H : Heap) (B0 qo : Nat) (hlt : l.stackTraces = false) (hB0 : B0 ≤ H.size) (b : Nat) (n : Nat) (me : Nat → Int32) (lo : Nat → Int32) (c : Nat → Nat) (e : Nat → Nat) (rd : Int32) (tk : Int32) (g : zG) (x : Int32) (hC : zCW D cI b n me lo c e rd tk g H) (hI : zI n me lo c e) (hx9 : ¬ ∃ j, j < n ∧ x = nI j) : Met l yL_source wsL_source ({ frames := 8, cells := 1, slots := 6, locals := 126 } : Room) (zPx D [(cI, .int), (cL, .long)] H B0 [.ref b, .int x, .ref qo]) (zM (fun H1 => H.size ≤ H1.size) (some (.int 1)) (fun z => H.size ≤ z)) 1 6 (fun z => H.size ≤ z) := by
  refine z_wenter (cc := cL_source) (maxL := 4) (ret := some .int) (hh := [(0, 9, 12, 20)]) (by decide) rfl (Nat.le_of_ble_eq_true rfl) ?_
  intro pg ev s m args below meth cd hfix hr hlocks htab hK hHs hE ls hl
  have hK1 : va_K D vwCl [(cI, .int)] s := hK.sub [0] rfl
  obtain ⟨hx, hb, hml, hown, hts⟩ := id hfix
  have hl : lv_has ls 4 [(0, .ref b), (1, .int x), (2, .ref qo)] := hl
  have hS : va_S (fun z => H.size ≤ z) s.heap H [] := by rw [hHs]; exact va_S.rf
  have hJ : va_P D vwCl (zPJ b) H := hC.1
  refine lv_aload_n hx hb dL_source_0 rfl (lv_at hl 2 rfl) ?_
  refine lv_iconst (v := 0) hx hb dL_source_1 (by decide) ?_
  refine lv_aload_n hx hb dL_source_2 rfl (lv_at hl 0 rfl) ?_
  refine lv_iload_n hx hb dL_source_3 rfl (lv_at hl 1 rfl) ?_
  refine z_xcall (fun _ h => h) (vx_runV (As := [.int x]) (rest := [.int 0, .ref qo]) hfix (zcX4_source_b1 l D cI H hlt B0 hB0 b n me lo c e rd tk g x hC hI hx9) (cwV 1 hts gL_source_X4_source rfl rfl rfl (by decide +kernel) ⟨Nat.le_of_ble_eq_true rfl, Nat.le_of_ble_eq_true rfl⟩) (z_xpreV hE (fun q _ _ => by rw [hHs]) hK1 hK1 hJ (ci := 4) (q0 := 0) rfl rfl rfl) rfl rfl hl.1 rfl (lv_room (Nat.le_of_ble_eq_true rfl)) dL_source_4 ⟨Nat.le_of_ble_eq_true rfl, Nat.le_of_ble_eq_true rfl⟩) (fun E ce q1 H1 hP hz hk hce hcv hcl => ?_)
  subst hP
  refine vx_catch (own := RL) (name := zIO) hown [] ⟨0, 9, 12, 20⟩ [] (htab.trans rfl) (fun z hz => absurd hz List.not_mem_nil) rfl (by decide) (hts _ (List.mem_of_getElem? (i := 1) rfl)) (va_tabs (zEw_ok _ zc_zIO).1 rfl (hE.1 _ zc_zIO)) hce hcv hcl ?_
  have hS := z_Sgrow hS hz hk
  refine W.eq (g2 := F0 m 12 ls [.ref q1]) rfl ?_
  refine lv_astore_n (lv' := [(3, .ref q1), (0, .ref b), (1, .int x), (2, .ref qo)]) hx hb dL_source_12 rfl hl (by decide) rfl (fun ls hl => ?_)
  refine lv_iconst (v := 1) hx hb dL_source_13 (by decide) ?_
  refine W.widen (k := 1) (n := 6) (by omega) (by omega) ?_
  exact z_iretM hz hx hb hr hlocks hS dL_source_14
