set_option maxHeartbeats 4000000 in
set_option maxRecDepth 100000 in
/-- Seats.size -/
theorem zcX2_size (l : Launch) (D : va_G) (cI : ClassId) (H : Heap) (b : Nat) (n : Nat) (me : Nat → Int32) (lo : Nat → Int32) (c : Nat → Nat) (e : Nat → Nat) (hW : va_P D vwCl (zSeats cI b n me lo c e) H) : Met l yX2_size wsX2_size ({ frames := 0, cells := 0, slots := 0, locals := 0 } : Room) (zPc D [(cI, .int)] H [.ref b]) (zQ (some (.int (nI n))) H) 0 0 (fun _ => False) := by
  refine z_enter (cc := cX2_size) (maxL := 1) (ret := (some .int)) (by decide) rfl (Nat.le_of_ble_eq_true rfl) ?_
  intro pg ev s m args below meth cd hfix hr hlocks hname hK hHs ls hl
  obtain ⟨hx, hb, hml, hown, hts⟩ := id hfix
  have hl : lv_has ls 1 [(0, .ref b)] := hl
  have hinX2 : ∀ w ∈ wsX20, w ∈ wsX2_size := by decide +kernel
  refine lv_aload_n hx hb dX2_size_0 rfl (lv_at hl 0 rfl) ?_
  refine va_get (D := D) (ci := 2) (v := .int (nI n)) (C := RX2) (T := TX2) (N := 5) hx hb hts hinX2 hown hK hW 0 rfl rfl 0 (by decide) (hts _ (List.mem_of_getElem? (i := 1) rfl)) (fun _ h9 => h9) rfl dX2_size_1 ?_
  exact z_iret hx hb hr hlocks dX2_size_4
set_option maxHeartbeats 4000000 in
set_option maxRecDepth 100000 in
/-- Seats.memory -/
theorem zcX2_memory (l : Launch) (D : va_G) (cI : ClassId) (H : Heap) (b : Nat) (n : Nat) (me : Nat → Int32) (lo : Nat → Int32) (c : Nat → Nat) (e : Nat → Nat) (p : Nat) (hW : va_P D vwCl (zSeats cI b n me lo c e) H) (hp : p < 12) : Met l yX2_memory wsX2_memory ({ frames := 1, cells := 0, slots := 0, locals := 21 } : Room) (zPc D [(cI, .int)] H [.ref b, .int (nI p)]) (zQ (some (.int (me p))) H) 0 0 (fun _ => False) := by
  refine z_enter (cc := cX2_memory) (maxL := 2) (ret := (some .int)) (by decide) rfl (Nat.le_of_ble_eq_true rfl) ?_
  intro pg ev s m args below meth cd hfix hr hlocks hname hK hHs ls hl
  obtain ⟨hx, hb, hml, hown, hts⟩ := id hfix
  have hl : lv_has ls 2 [(0, .ref b), (1, .int (nI p))] := hl
  have hinX2 : ∀ w ∈ wsX20, w ∈ wsX2_memory := by decide +kernel
  refine lv_aload_n hx hb dX2_memory_0 rfl (lv_at hl 0 rfl) ?_
  refine va_get (D := D) (ci := 2) (v := .ref (b + 1)) (C := RX2) (T := TX2) (N := 5) hx hb hts hinX2 hown hK hW 0 rfl rfl 1 (by decide) (hts _ (List.mem_of_getElem? (i := 1) rfl)) (fun _ h9 => h9) rfl dX2_memory_1 ?_
  refine lv_iload_n hx hb dX2_memory_4 rfl (lv_at hl 1 rfl) ?_
  refine z_ki (va_runV (As := [.int (nI p)]) (rest := []) hfix (zcX1_at l D cI H (b + 1) 12 me p (va_P.sub (ws' := (zRow cI (b + 1) 12 me)) hW [1, 2] rfl) (by omega) (by omega)) (cwV 1 hts gX2_memory_X1_at rfl rfl rfl (by decide +kernel) ⟨Nat.le_of_ble_eq_true rfl, Nat.le_of_ble_eq_true rfl⟩) (z_preV hK hK hW (ci := 1) (q0 := 1) rfl rfl rfl) rfl rfl hl.1 rfl (lv_room (Nat.le_of_ble_eq_true rfl)) dX2_memory_5 ⟨by omega, by omega⟩) ?_
  exact z_iret hx hb hr hlocks dX2_memory_8
set_option maxHeartbeats 4000000 in
set_option maxRecDepth 100000 in
/-- Seats.loud -/
theorem zcX2_loud (l : Launch) (D : va_G) (cI : ClassId) (H : Heap) (b : Nat) (n : Nat) (me : Nat → Int32) (lo : Nat → Int32) (c : Nat → Nat) (e : Nat → Nat) (p : Nat) (hW : va_P D vwCl (zSeats cI b n me lo c e) H) (hp : p < 12) : Met l yX2_loud wsX2_loud ({ frames := 1, cells := 0, slots := 0, locals := 21 } : Room) (zPc D [(cI, .int)] H [.ref b, .int (nI p)]) (zQ (some (.int (lo p))) H) 0 0 (fun _ => False) := by
  refine z_enter (cc := cX2_loud) (maxL := 2) (ret := (some .int)) (by decide) rfl (Nat.le_of_ble_eq_true rfl) ?_
  intro pg ev s m args below meth cd hfix hr hlocks hname hK hHs ls hl
  obtain ⟨hx, hb, hml, hown, hts⟩ := id hfix
  have hl : lv_has ls 2 [(0, .ref b), (1, .int (nI p))] := hl
  have hinX2 : ∀ w ∈ wsX20, w ∈ wsX2_loud := by decide +kernel
  refine lv_aload_n hx hb dX2_loud_0 rfl (lv_at hl 0 rfl) ?_
  refine va_get (D := D) (ci := 2) (v := .ref (b + 3)) (C := RX2) (T := TX2) (N := 5) hx hb hts hinX2 hown hK hW 0 rfl rfl 2 (by decide) (hts _ (List.mem_of_getElem? (i := 1) rfl)) (fun _ h9 => h9) rfl dX2_loud_1 ?_
  refine lv_iload_n hx hb dX2_loud_4 rfl (lv_at hl 1 rfl) ?_
  refine z_ki (va_runV (As := [.int (nI p)]) (rest := []) hfix (zcX1_at l D cI H (b + 3) 12 lo p (va_P.sub (ws' := (zRow cI (b + 3) 12 lo)) hW [3, 4] rfl) (by omega) (by omega)) (cwV 1 hts gX2_loud_X1_at rfl rfl rfl (by decide +kernel) ⟨Nat.le_of_ble_eq_true rfl, Nat.le_of_ble_eq_true rfl⟩) (z_preV hK hK hW (ci := 1) (q0 := 3) rfl rfl rfl) rfl rfl hl.1 rfl (lv_room (Nat.le_of_ble_eq_true rfl)) dX2_loud_5 ⟨by omega, by omega⟩) ?_
  exact z_iret hx hb hr hlocks dX2_loud_8
set_option maxHeartbeats 4000000 in
set_option maxRecDepth 100000 in
/-- Seats.listening -/
theorem zcX2_listening (l : Launch) (D : va_G) (cI : ClassId) (H : Heap) (b : Nat) (n : Nat) (me : Nat → Int32) (lo : Nat → Int32) (c : Nat → Nat) (e : Nat → Nat) (p : Nat) (hW : va_P D vwCl (zSeats cI b n me lo c e) H) (hp : p < 12) : Met l yX2_listening wsX2_listening ({ frames := 1, cells := 0, slots := 0, locals := 21 } : Room) (zPc D [(cI, .int)] H [.ref b, .int (nI p)]) (zQ (some (.int (nI (c p)))) H) 0 0 (fun _ => False) := by
  refine z_enter (cc := cX2_listening) (maxL := 2) (ret := (some .int)) (by decide) rfl (Nat.le_of_ble_eq_true rfl) ?_
  intro pg ev s m args below meth cd hfix hr hlocks hname hK hHs ls hl
  obtain ⟨hx, hb, hml, hown, hts⟩ := id hfix
  have hl : lv_has ls 2 [(0, .ref b), (1, .int (nI p))] := hl
  have hinX2 : ∀ w ∈ wsX20, w ∈ wsX2_listening := by decide +kernel
  refine lv_aload_n hx hb dX2_listening_0 rfl (lv_at hl 0 rfl) ?_
  refine va_get (D := D) (ci := 2) (v := .ref (b + 5)) (C := RX2) (T := TX2) (N := 5) hx hb hts hinX2 hown hK hW 0 rfl rfl 3 (by decide) (hts _ (List.mem_of_getElem? (i := 1) rfl)) (fun _ h9 => h9) rfl dX2_listening_1 ?_
  refine lv_iload_n hx hb dX2_listening_4 rfl (lv_at hl 1 rfl) ?_
  refine z_ki (va_runV (As := [.int (nI p)]) (rest := []) hfix (zcX1_at l D cI H (b + 5) 12 (zn c) p (va_P.sub (ws' := (zRow cI (b + 5) 12 (zn c))) hW [5, 6] rfl) (by omega) (by omega)) (cwV 1 hts gX2_listening_X1_at rfl rfl rfl (by decide +kernel) ⟨Nat.le_of_ble_eq_true rfl, Nat.le_of_ble_eq_true rfl⟩) (z_preV hK hK hW (ci := 1) (q0 := 5) rfl rfl rfl) rfl rfl hl.1 rfl (lv_room (Nat.le_of_ble_eq_true rfl)) dX2_listening_5 ⟨by omega, by omega⟩) ?_
  exact z_iret hx hb hr hlocks dX2_listening_8
set_option maxHeartbeats 4000000 in
set_option maxRecDepth 100000 in
/-- Seats.other -/
theorem zcX2_other (l : Launch) (D : va_G) (cI : ClassId) (H : Heap) (b : Nat) (n : Nat) (me : Nat → Int32) (lo : Nat → Int32) (c : Nat → Nat) (e : Nat → Nat) (p : Nat) (k : Nat) (hW : va_P D vwCl (zSeats cI b n me lo c e) H) (hp : p < 12) (hk : k < 4) : Met l yX2_other wsX2_other ({ frames := 1, cells := 0, slots := 0, locals := 21 } : Room) (zPc D [(cI, .int)] H [.ref b, .int (nI p), .int (nI k)]) (zQ (some (.int (nI (e (p * 4 + k))))) H) 0 0 (fun _ => False) := by
  refine z_enter (cc := cX2_other) (maxL := 3) (ret := (some .int)) (by decide) rfl (Nat.le_of_ble_eq_true rfl) ?_
  intro pg ev s m args below meth cd hfix hr hlocks hname hK hHs ls hl
  obtain ⟨hx, hb, hml, hown, hts⟩ := id hfix
  have hl : lv_has ls 3 [(0, .ref b), (1, .int (nI p)), (2, .int (nI k))] := hl
  have hinX2 : ∀ w ∈ wsX20, w ∈ wsX2_other := by decide +kernel
  refine lv_aload_n hx hb dX2_other_0 rfl (lv_at hl 0 rfl) ?_
  refine va_get (D := D) (ci := 2) (v := .ref (b + 7)) (C := RX2) (T := TX2) (N := 5) hx hb hts hinX2 hown hK hW 0 rfl rfl 4 (by decide) (hts _ (List.mem_of_getElem? (i := 1) rfl)) (fun _ h9 => h9) rfl dX2_other_1 ?_
  refine lv_iload_n hx hb dX2_other_4 rfl (lv_at hl 1 rfl) ?_
  refine lv_iconst (v := 4) hx hb dX2_other_5 (by decide) ?_
  refine lv_imul hx hb dX2_other_6 ?_
  refine z_toi (y := nI (p * 4)) (pk_mul p 4) ?_
  refine lv_iload_n hx hb dX2_other_7 rfl (lv_at hl 2 rfl) ?_
  refine lv_iadd hx hb dX2_other_8 ?_
  refine z_toi (y := nI (p * 4 + k)) (nI_add (p * 4) k) ?_
  refine z_ki (va_runV (As := [.int (nI (p * 4 + k))]) (rest := []) hfix (zcX1_at l D cI H (b + 7) 48 (zn e) (p * 4 + k) (va_P.sub (ws' := (zRow cI (b + 7) 48 (zn e))) hW [7, 8] rfl) (by omega) (by omega)) (cwV 1 hts gX2_other_X1_at rfl rfl rfl (by decide +kernel) ⟨Nat.le_of_ble_eq_true rfl, Nat.le_of_ble_eq_true rfl⟩) (z_preV hK hK hW (ci := 1) (q0 := 7) rfl rfl rfl) rfl rfl hl.1 rfl (lv_room (Nat.le_of_ble_eq_true rfl)) dX2_other_9 ⟨by omega, by omega⟩) ?_
  exact z_iret hx hb hr hlocks dX2_other_12
set_option maxHeartbeats 4000000 in
set_option maxRecDepth 100000 in
/-- Seats.placeOf -/
theorem zcX2_placeOf (l : Launch) (D : va_G) (cI : ClassId) (H : Heap) (b : Nat) (n : Nat) (me : Nat → Int32) (lo : Nat → Int32) (c : Nat → Nat) (e : Nat → Nat) (p : Nat) (o : Nat) (hW : va_P D vwCl (zSeats cI b n me lo c e) H) (hI : zI n me lo c e) (hp : p < 12) (ho : o < 100000) : Met l yX2_placeOf wsX2_placeOf ({ frames := 2, cells := 0, slots := 0, locals := 43 } : Room) (zPc D [(cI, .int)] H [.ref b, .int (nI p), .int (nI o)]) (zQ (some (.int (zo (po e p o (c p))))) H) 0 0 (fun _ => False) := by
  refine z_enter (cc := cX2_placeOf) (maxL := 5) (ret := (some .int)) (by decide) rfl (Nat.le_of_ble_eq_true rfl) ?_
  intro pg ev s m args below meth cd hfix hr hlocks hname hK hHs ls hl
  obtain ⟨hx, hb, hml, hown, hts⟩ := id hfix
  have hl : lv_has ls 5 [(0, .ref b), (1, .int (nI p)), (2, .int (nI o))] := hl
  have hinX2 : ∀ w ∈ wsX20, w ∈ wsX2_placeOf := by decide +kernel
  have hc4 := zI_c hI p
  have hn := zI_n hI
  refine lv_aload_n hx hb dX2_placeOf_0 rfl (lv_at hl 0 rfl) ?_
  refine va_get (D := D) (ci := 2) (v := .ref (b + 5)) (C := RX2) (T := TX2) (N := 5) hx hb hts hinX2 hown hK hW 0 rfl rfl 3 (by decide) (hts _ (List.mem_of_getElem? (i := 1) rfl)) (fun _ h9 => h9) rfl dX2_placeOf_1 ?_
  refine lv_iload_n hx hb dX2_placeOf_4 rfl (lv_at hl 1 rfl) ?_
  refine z_ki (va_runV (As := [.int (nI p)]) (rest := []) hfix (zcX1_at l D cI H (b + 5) 12 (zn c) p (va_P.sub (ws' := (zRow cI (b + 5) 12 (zn c))) hW [5, 6] rfl) (by omega) (by omega)) (cwV 1 hts gX2_placeOf_X1_at rfl rfl rfl (by decide +kernel) ⟨Nat.le_of_ble_eq_true rfl, Nat.le_of_ble_eq_true rfl⟩) (z_preV hK hK hW (ci := 1) (q0 := 5) rfl rfl rfl) rfl rfl hl.1 rfl (lv_room (Nat.le_of_ble_eq_true rfl)) dX2_placeOf_5 ⟨by omega, by omega⟩) ?_
  refine lv_istore_n (lv' := [(3, .int (nI (c p))), (0, .ref b), (1, .int (nI p)), (2, .int (nI o))]) hx hb dX2_placeOf_8 rfl hl (by decide) rfl (fun ls hl => ?_)
  refine lv_iconst (v := 0) hx hb dX2_placeOf_9 (by decide) ?_
  refine lv_istore (lv' := [(4, .int 0), (3, .int (nI (c p))), (0, .ref b), (1, .int (nI p)), (2, .int (nI o))]) hx hb dX2_placeOf_10 hl (by decide) rfl (fun ls hl => ?_)
  have loop12 : ∀ (fu : Nat) (k : Nat), c p - k < fu → (k ≤ c p) → (po e p o k = none) → ∀ (x4 : Int32), x4 = (nI k) → ∀ ls : Array Slot, lv_has ls 5 [(4, .int x4), (3, .int (nI (c p))), (0, .ref b), (1, .int (nI p)), (2, .int (nI o))] → W pg l ev ({ frames := 2, cells := 0, slots := 0, locals := 43 } : Room) s m args below meth cd H [] 0 0 (MQ below (zQ (some (.int (zo (po e p o (c p))))) H) args s 0 0 (fun _ => False)) (F0 m 12 ls []) := by
    intro fu
    induction fu with
    | zero => intro k hfu; exact absurd hfu (Nat.not_lt_zero _)
    | succ fu ih =>
      intro k hfu hi12_0 hi12_1 x4 ex4 ls hl
      subst ex4
      refine lv_iload hx hb dX2_placeOf_12 (lv_at hl 0 rfl) ?_
      refine lv_iload_n hx hb dX2_placeOf_14 rfl (lv_at hl 1 rfl) ?_
      refine lv_icmp_ge (tgt := 38) hx hb dX2_placeOf_15 (by decide) (fun c15 => ?_) (fun c15 => ?_)
      · have c15 := z_le (a := c p) (b := k) c15 (by omega) (by omega)
        refine lv_iconst (v := (-1)) hx hb dX2_placeOf_38 (by decide) ?_
        refine z_toi (y := (zo (po e p o (c p)))) (by rw [show c p = k by omega, hi12_1]; rfl) ?_
        exact z_iret hx hb hr hlocks dX2_placeOf_39
      · have c15 := z_nle (a := c p) (b := k) c15 (by omega) (by omega)
        have hek := zI_e hI c15
        refine lv_aload_n hx hb dX2_placeOf_18 rfl (lv_at hl 2 rfl) ?_
        refine lv_iload_n hx hb dX2_placeOf_19 rfl (lv_at hl 3 rfl) ?_
        refine lv_iload hx hb dX2_placeOf_20 (lv_at hl 0 rfl) ?_
        refine z_ki (va_runV (As := [.int (nI p), .int (nI k)]) (rest := []) hfix (zcX2_other l D cI H b n me lo c e p k hW (by omega) (by omega)) (cwV 2 hts gX2_placeOf_X2_other rfl rfl rfl (by decide +kernel) ⟨Nat.le_of_ble_eq_true rfl, Nat.le_of_ble_eq_true rfl⟩) (z_preV hK hK hW (ci := 2) (q0 := 0) rfl rfl rfl) rfl rfl hl.1 rfl (lv_room (Nat.le_of_ble_eq_true rfl)) dX2_placeOf_22 ⟨by omega, by omega⟩) ?_
        refine lv_iload_n hx hb dX2_placeOf_25 rfl (lv_at hl 4 rfl) ?_
        refine lv_icmp_ne (tgt := 32) hx hb dX2_placeOf_26 (by decide) (fun c26 => ?_) (fun c26 => ?_)
        · have c26 := z_ne (a := e (p * 4 + k)) (b := o) c26 (by omega) (by omega)
          refine lv_iinc (v := (nI (k + 1))) (lv' := [(4, .int (nI (k + 1))), (3, .int (nI (c p))), (0, .ref b), (1, .int (nI p)), (2, .int (nI o))]) hx hb dX2_placeOf_32 hl (k := 0) rfl (nI_1 _) (by decide) rfl (fun ls hl => ?_)
          refine lv_goto (tgt := 12) hx hb dX2_placeOf_35 (by decide) ?_
          exact ih (k + 1) (by omega) (by omega) (zd_poN hi12_1 c26) _ (rfl) _ (lv_sub hl [0, 1, 2, 3, 4] rfl)
        · have c26 := z_eq (a := e (p * 4 + k)) (b := o) c26 (by omega) (by omega)
          refine lv_iload hx hb dX2_placeOf_29 (lv_at hl 0 rfl) ?_
          refine z_toi (y := (zo (po e p o (c p)))) (by rw [zd_po (zd_poS hi12_1 c26) (by omega)]; rfl) ?_
          exact z_iret hx hb hr hlocks dX2_placeOf_31
  exact loop12 _ 0 (Nat.lt_succ_self _) (by omega) (rfl) _ (rfl) _ (lv_sub hl [0, 1, 2, 3, 4] rfl)
set_option maxHeartbeats 4000000 in
set_option maxRecDepth 100000 in
/-- Seats.listeners -/
theorem zcX2_listeners (l : Launch) (D : va_G) (cI : ClassId) (H : Heap) (b : Nat) (n : Nat) (me : Nat → Int32) (lo : Nat → Int32) (c : Nat → Nat) (e : Nat → Nat) (p : Nat) (hW : va_P D vwCl (zSeats cI b n me lo c e) H) (hI : zI n me lo c e) (hp : p < 12) : Met l yX2_listeners wsX2_listeners ({ frames := 3, cells := 0, slots := 0, locals := 67 } : Room) (zPc D [(cI, .int)] H [.ref b, .int (nI p)]) (zQ (some (.int (nI (ln c e p n)))) H) 0 0 (fun _ => False) := by
  refine z_enter (cc := cX2_listeners) (maxL := 4) (ret := (some .int)) (by decide) rfl (Nat.le_of_ble_eq_true rfl) ?_
  intro pg ev s m args below meth cd hfix hr hlocks hname hK hHs ls hl
  obtain ⟨hx, hb, hml, hown, hts⟩ := id hfix
  have hl : lv_has ls 4 [(0, .ref b), (1, .int (nI p))] := hl
  have hinX2 : ∀ w ∈ wsX20, w ∈ wsX2_listeners := by decide +kernel
  have hn := zI_n hI
  refine lv_iconst (v := 0) hx hb dX2_listeners_0 (by decide) ?_
  refine lv_istore_n (lv' := [(2, .int 0), (0, .ref b), (1, .int (nI p))]) hx hb dX2_listeners_1 rfl hl (by decide) rfl (fun ls hl => ?_)
  refine lv_iconst (v := 0) hx hb dX2_listeners_2 (by decide) ?_
  refine lv_istore_n (lv' := [(3, .int 0), (2, .int 0), (0, .ref b), (1, .int (nI p))]) hx hb dX2_listeners_3 rfl hl (by decide) rfl (fun ls hl => ?_)
  have loop4 : ∀ (fu : Nat) (k : Nat), n - k < fu → (k ≤ n) → ∀ (x3 : Int32), x3 = (nI k) → ∀ (x2 : Int32), x2 = (nI (ln c e p k)) → ∀ ls : Array Slot, lv_has ls 4 [(3, .int x3), (2, .int x2), (0, .ref b), (1, .int (nI p))] → W pg l ev ({ frames := 3, cells := 0, slots := 0, locals := 67 } : Room) s m args below meth cd H [] 0 0 (MQ below (zQ (some (.int (nI (ln c e p n)))) H) args s 0 0 (fun _ => False)) (F0 m 4 ls []) := by
    intro fu
    induction fu with
    | zero => intro k hfu; exact absurd hfu (Nat.not_lt_zero _)
    | succ fu ih =>
      intro k hfu hi4_0 x3 ex3 x2 ex2 ls hl
      subst ex3
      subst ex2
      refine lv_iload_n hx hb dX2_listeners_4 rfl (lv_at hl 0 rfl) ?_
      refine lv_aload_n hx hb dX2_listeners_5 rfl (lv_at hl 2 rfl) ?_
      refine va_get (D := D) (ci := 2) (v := .int (nI n)) (C := RX2) (T := TX2) (N := 5) hx hb hts hinX2 hown hK hW 0 rfl rfl 0 (by decide) (hts _ (List.mem_of_getElem? (i := 1) rfl)) (fun _ h9 => h9) rfl dX2_listeners_6 ?_
      refine lv_icmp_ge (tgt := 31) hx hb dX2_listeners_9 (by decide) (fun c9 => ?_) (fun c9 => ?_)
      · have c9 := z_le (a := n) (b := k) c9 (by omega) (by omega)
        refine lv_iload_n hx hb dX2_listeners_31 rfl (lv_at hl 1 rfl) ?_
        refine z_toi (y := (nI (ln c e p n))) (by rw [show n = k by omega]) ?_
        exact z_iret hx hb hr hlocks dX2_listeners_32
      · have c9 := z_nle (a := n) (b := k) c9 (by omega) (by omega)
        refine lv_aload_n hx hb dX2_listeners_12 rfl (lv_at hl 2 rfl) ?_
        refine lv_iload_n hx hb dX2_listeners_13 rfl (lv_at hl 0 rfl) ?_
        refine lv_iload_n hx hb dX2_listeners_14 rfl (lv_at hl 3 rfl) ?_
        refine z_ki (va_runV (As := [.int (nI k), .int (nI p)]) (rest := []) hfix (zcX2_placeOf l D cI H b n me lo c e k p hW hI (by omega) (by omega)) (cwV 2 hts gX2_listeners_X2_placeOf rfl rfl rfl (by decide +kernel) ⟨Nat.le_of_ble_eq_true rfl, Nat.le_of_ble_eq_true rfl⟩) (z_preV hK hK hW (ci := 2) (q0 := 0) rfl rfl rfl) rfl rfl hl.1 rfl (lv_room (Nat.le_of_ble_eq_true rfl)) dX2_listeners_15 ⟨by omega, by omega⟩) ?_
        refine lv_iconst (v := (-1)) hx hb dX2_listeners_18 (by decide) ?_
        refine lv_icmp_eq (tgt := 25) hx hb dX2_listeners_19 (by decide) (fun c19 => ?_) (fun c19 => ?_)
        · have c19 := (zo_m1 (fun q hq => by have h1 := (zd_po_lt hq).1; have h2 := zI_c hI k; omega)).mp c19
          refine lv_iinc (v := (nI (k + 1))) (lv' := [(3, .int (nI (k + 1))), (2, .int (nI (ln c e p k))), (0, .ref b), (1, .int (nI p))]) hx hb dX2_listeners_25 hl (k := 0) rfl (nI_1 _) (by decide) rfl (fun ls hl => ?_)
          refine lv_goto (tgt := 4) hx hb dX2_listeners_28 (by decide) ?_
          exact ih (k + 1) (by omega) (by omega) _ (rfl) _ (by simp only [ln]; first | rw [if_pos c19] | rw [if_neg c19]) _ (lv_sub hl [0, 1, 2, 3] rfl)
        · have c19 := fun h => c19 ((zo_m1 (fun q hq => by have h1 := (zd_po_lt hq).1; have h2 := zI_c hI k; omega)).mpr h)
          refine lv_iinc (v := (nI (ln c e p k + 1))) (lv' := [(2, .int (nI (ln c e p k + 1))), (3, .int (nI k)), (0, .ref b), (1, .int (nI p))]) hx hb dX2_listeners_22 hl (k := 1) rfl (nI_1 _) (by decide) rfl (fun ls hl => ?_)
          refine lv_iinc (v := (nI (k + 1))) (lv' := [(3, .int (nI (k + 1))), (2, .int (nI (ln c e p k + 1))), (0, .ref b), (1, .int (nI p))]) hx hb dX2_listeners_25 hl (k := 1) rfl (nI_1 _) (by decide) rfl (fun ls hl => ?_)
          refine lv_goto (tgt := 4) hx hb dX2_listeners_28 (by decide) ?_
          exact ih (k + 1) (by omega) (by omega) _ (rfl) _ (by simp only [ln]; first | rw [if_pos c19] | rw [if_neg c19]) _ (lv_sub hl [0, 1, 2, 3] rfl)
  exact loop4 _ 0 (Nat.lt_succ_self _) (by omega) _ (rfl) _ (rfl) _ (lv_sub hl [0, 1, 2, 3] rfl)
set_option maxHeartbeats 4000000 in
set_option maxRecDepth 100000 in
/-- Seats.heard -/
theorem zcX2_heard (l : Launch) (D : va_G) (cI : ClassId) (H : Heap) (b : Nat) (n : Nat) (me : Nat → Int32) (lo : Nat → Int32) (c : Nat → Nat) (e : Nat → Nat) (p : Nat) (hW : va_P D vwCl (zSeats cI b n me lo c e) H) (hI : zI n me lo c e) (hp : p < 12) : Met l yX2_heard wsX2_heard ({ frames := 2, cells := 0, slots := 0, locals := 43 } : Room) (zPc D [(cI, .int)] H [.ref b, .int (nI p)]) (zQ (some (.int (zo (hd lo e p (c p))))) H) 0 0 (fun _ => False) := by
  refine z_enter (cc := cX2_heard) (maxL := 7) (ret := (some .int)) (by decide) rfl (Nat.le_of_ble_eq_true rfl) ?_
  intro pg ev s m args below meth cd hfix hr hlocks hname hK hHs ls hl
  obtain ⟨hx, hb, hml, hown, hts⟩ := id hfix
  have hl : lv_has ls 7 [(0, .ref b), (1, .int (nI p))] := hl
  have hinX2 : ∀ w ∈ wsX20, w ∈ wsX2_heard := by decide +kernel
  have hc4 := zI_c hI p
  have hn := zI_n hI
  refine lv_aload_n hx hb dX2_heard_0 rfl (lv_at hl 0 rfl) ?_
  refine va_get (D := D) (ci := 2) (v := .ref (b + 5)) (C := RX2) (T := TX2) (N := 5) hx hb hts hinX2 hown hK hW 0 rfl rfl 3 (by decide) (hts _ (List.mem_of_getElem? (i := 1) rfl)) (fun _ h9 => h9) rfl dX2_heard_1 ?_
  refine lv_iload_n hx hb dX2_heard_4 rfl (lv_at hl 1 rfl) ?_
  refine z_ki (va_runV (As := [.int (nI p)]) (rest := []) hfix (zcX1_at l D cI H (b + 5) 12 (zn c) p (va_P.sub (ws' := (zRow cI (b + 5) 12 (zn c))) hW [5, 6] rfl) (by omega) (by omega)) (cwV 1 hts gX2_heard_X1_at rfl rfl rfl (by decide +kernel) ⟨Nat.le_of_ble_eq_true rfl, Nat.le_of_ble_eq_true rfl⟩) (z_preV hK hK hW (ci := 1) (q0 := 5) rfl rfl rfl) rfl rfl hl.1 rfl (lv_room (Nat.le_of_ble_eq_true rfl)) dX2_heard_5 ⟨by omega, by omega⟩) ?_
  refine lv_istore_n (lv' := [(2, .int (nI (c p))), (0, .ref b), (1, .int (nI p))]) hx hb dX2_heard_8 rfl hl (by decide) rfl (fun ls hl => ?_)
  refine lv_iconst (v := (-1)) hx hb dX2_heard_9 (by decide) ?_
  refine lv_istore_n (lv' := [(3, .int (-1)), (2, .int (nI (c p))), (0, .ref b), (1, .int (nI p))]) hx hb dX2_heard_10 rfl hl (by decide) rfl (fun ls hl => ?_)
  refine lv_iconst (v := 0) hx hb dX2_heard_11 (by decide) ?_
  refine lv_istore (lv' := [(4, .int 0), (3, .int (-1)), (2, .int (nI (c p))), (0, .ref b), (1, .int (nI p))]) hx hb dX2_heard_12 hl (by decide) rfl (fun ls hl => ?_)
  refine lv_iconst (v := 0) hx hb dX2_heard_14 (by decide) ?_
  refine lv_istore (lv' := [(5, .int 0), (4, .int 0), (3, .int (-1)), (2, .int (nI (c p))), (0, .ref b), (1, .int (nI p))]) hx hb dX2_heard_15 hl (by decide) rfl (fun ls hl => ?_)
  have loop17 : ∀ (fu : Nat) (k : Nat), c p - k < fu → (k ≤ c p) → ∀ (x5 : Int32), x5 = (nI k) → ∀ (x4 : Int32), x4 = (zlo lo (hd lo e p k)) → ∀ (x3 : Int32), x3 = (zo (hd lo e p k)) → ∀ ls : Array Slot, lv_has ls 7 [(5, .int x5), (4, .int x4), (3, .int x3), (2, .int (nI (c p))), (0, .ref b), (1, .int (nI p))] → W pg l ev ({ frames := 2, cells := 0, slots := 0, locals := 43 } : Room) s m args below meth cd H [] 0 0 (MQ below (zQ (some (.int (zo (hd lo e p (c p))))) H) args s 0 0 (fun _ => False)) (F0 m 17 ls []) := by
    intro fu
    induction fu with
    | zero => intro k hfu; exact absurd hfu (Nat.not_lt_zero _)
    | succ fu ih =>
      intro k hfu hi17_0 x5 ex5 x4 ex4 x3 ex3 ls hl
      subst ex5
      subst ex4
      subst ex3
      refine lv_iload hx hb dX2_heard_17 (lv_at hl 0 rfl) ?_
      refine lv_iload_n hx hb dX2_heard_19 rfl (lv_at hl 3 rfl) ?_
      refine lv_icmp_ge (tgt := 66) hx hb dX2_heard_20 (by decide) (fun c20 => ?_) (fun c20 => ?_)
      · have c20 := z_le (a := c p) (b := k) c20 (by omega) (by omega)
        refine lv_iload_n hx hb dX2_heard_66 rfl (lv_at hl 2 rfl) ?_
        refine z_toi (y := (zo (hd lo e p (c p)))) (by rw [show c p = k by omega]) ?_
        exact z_iret hx hb hr hlocks dX2_heard_67
      · have c20 := z_nle (a := c p) (b := k) c20 (by omega) (by omega)
        have hek := zI_e hI c20
        have hlk := zI_lo hI hek
        refine lv_aload_n hx hb dX2_heard_23 rfl (lv_at hl 4 rfl) ?_
        refine lv_iload_n hx hb dX2_heard_24 rfl (lv_at hl 5 rfl) ?_
        refine lv_iload hx hb dX2_heard_25 (lv_at hl 0 rfl) ?_
        refine z_ki (va_runV (As := [.int (nI p), .int (nI k)]) (rest := []) hfix (zcX2_other l D cI H b n me lo c e p k hW (by omega) (by omega)) (cwV 2 hts gX2_heard_X2_other rfl rfl rfl (by decide +kernel) ⟨Nat.le_of_ble_eq_true rfl, Nat.le_of_ble_eq_true rfl⟩) (z_preV hK hK hW (ci := 2) (q0 := 0) rfl rfl rfl) rfl rfl hl.1 rfl (lv_room (Nat.le_of_ble_eq_true rfl)) dX2_heard_27 ⟨by omega, by omega⟩) ?_
        refine lv_istore (lv' := [(6, .int (nI (e (p * 4 + k)))), (5, .int (nI k)), (4, .int (zlo lo (hd lo e p k))), (3, .int (zo (hd lo e p k))), (2, .int (nI (c p))), (0, .ref b), (1, .int (nI p))]) hx hb dX2_heard_30 hl (by decide) rfl (fun ls hl => ?_)
        refine lv_aload_n hx hb dX2_heard_32 rfl (lv_at hl 5 rfl) ?_
        refine va_get (D := D) (ci := 2) (v := .ref (b + 3)) (C := RX2) (T := TX2) (N := 5) hx hb hts hinX2 hown hK hW 0 rfl rfl 2 (by decide) (hts _ (List.mem_of_getElem? (i := 2) rfl)) (fun _ h9 => h9) rfl dX2_heard_33 ?_
        refine lv_iload hx hb dX2_heard_36 (lv_at hl 0 rfl) ?_
        refine z_ki (va_runV (As := [.int (nI (e (p * 4 + k)))]) (rest := []) hfix (zcX1_at l D cI H (b + 3) 12 lo (e (p * 4 + k)) (va_P.sub (ws' := (zRow cI (b + 3) 12 lo)) hW [3, 4] rfl) (by omega) (by omega)) (cwV 1 hts gX2_heard_X1_at rfl rfl rfl (by decide +kernel) ⟨Nat.le_of_ble_eq_true rfl, Nat.le_of_ble_eq_true rfl⟩) (z_preV hK hK hW (ci := 1) (q0 := 3) rfl rfl rfl) rfl rfl hl.1 rfl (lv_room (Nat.le_of_ble_eq_true rfl)) dX2_heard_38 ⟨by omega, by omega⟩) ?_
        refine lv_iload hx hb dX2_heard_41 (lv_at hl 2 rfl) ?_
        refine lv_icmp_le (tgt := 60) hx hb dX2_heard_43 (by decide) (fun c43 => ?_) (fun c43 => ?_)
        · refine lv_iinc (v := (nI (k + 1))) (lv' := [(5, .int (nI (k + 1))), (6, .int (nI (e (p * 4 + k)))), (4, .int (zlo lo (hd lo e p k))), (3, .int (zo (hd lo e p k))), (2, .int (nI (c p))), (0, .ref b), (1, .int (nI p))]) hx hb dX2_heard_60 hl (k := 1) rfl (nI_1 _) (by decide) rfl (fun ls hl => ?_)
          refine lv_goto (tgt := 17) hx hb dX2_heard_63 (by decide) ?_
          exact ih (k + 1) (by omega) (by omega) _ (rfl) _ (by first | (rw [zhd_le c43 hlk]; done) | (rw [zhd_gt c43]; rfl)) _ (by first | (rw [zhd_le c43 hlk]; done) | (rw [zhd_gt c43]; rfl)) _ (lv_sub hl [0, 2, 3, 4, 5, 6] rfl)
        · refine lv_aload_n hx hb dX2_heard_46 rfl (lv_at hl 5 rfl) ?_
          refine va_get (D := D) (ci := 2) (v := .ref (b + 3)) (C := RX2) (T := TX2) (N := 5) hx hb hts hinX2 hown hK hW 0 rfl rfl 2 (by decide) (hts _ (List.mem_of_getElem? (i := 2) rfl)) (fun _ h9 => h9) rfl dX2_heard_47 ?_
          refine lv_iload hx hb dX2_heard_50 (lv_at hl 0 rfl) ?_
          refine z_ki (va_runV (As := [.int (nI (e (p * 4 + k)))]) (rest := []) hfix (zcX1_at l D cI H (b + 3) 12 lo (e (p * 4 + k)) (va_P.sub (ws' := (zRow cI (b + 3) 12 lo)) hW [3, 4] rfl) (by omega) (by omega)) (cwV 1 hts gX2_heard_X1_at rfl rfl rfl (by decide +kernel) ⟨Nat.le_of_ble_eq_true rfl, Nat.le_of_ble_eq_true rfl⟩) (z_preV hK hK hW (ci := 1) (q0 := 3) rfl rfl rfl) rfl rfl hl.1 rfl (lv_room (Nat.le_of_ble_eq_true rfl)) dX2_heard_52 ⟨by omega, by omega⟩) ?_
          refine lv_istore (lv' := [(4, .int (lo (e (p * 4 + k)))), (6, .int (nI (e (p * 4 + k)))), (5, .int (nI k)), (3, .int (zo (hd lo e p k))), (2, .int (nI (c p))), (0, .ref b), (1, .int (nI p))]) hx hb dX2_heard_55 hl (by decide) rfl (fun ls hl => ?_)
          refine lv_iload hx hb dX2_heard_57 (lv_at hl 1 rfl) ?_
          refine lv_istore_n (lv' := [(3, .int (nI (e (p * 4 + k)))), (4, .int (lo (e (p * 4 + k)))), (6, .int (nI (e (p * 4 + k)))), (5, .int (nI k)), (2, .int (nI (c p))), (0, .ref b), (1, .int (nI p))]) hx hb dX2_heard_59 rfl hl (by decide) rfl (fun ls hl => ?_)
          refine lv_iinc (v := (nI (k + 1))) (lv' := [(5, .int (nI (k + 1))), (3, .int (nI (e (p * 4 + k)))), (4, .int (lo (e (p * 4 + k)))), (6, .int (nI (e (p * 4 + k)))), (2, .int (nI (c p))), (0, .ref b), (1, .int (nI p))]) hx hb dX2_heard_60 hl (k := 3) rfl (nI_1 _) (by decide) rfl (fun ls hl => ?_)
          refine lv_goto (tgt := 17) hx hb dX2_heard_63 (by decide) ?_
          exact ih (k + 1) (by omega) (by omega) _ (rfl) _ (by first | (rw [zhd_le c43 hlk]; done) | (rw [zhd_gt c43]; rfl)) _ (by first | (rw [zhd_le c43 hlk]; done) | (rw [zhd_gt c43]; rfl)) _ (lv_sub hl [0, 2, 1, 4, 5, 6] rfl)
  exact loop17 _ 0 (Nat.lt_succ_self _) (by omega) _ (rfl) _ (rfl) _ (rfl) _ (lv_sub hl [0, 1, 2, 3, 4, 5] rfl)
set_option maxHeartbeats 4000000 in
set_option maxRecDepth 100000 in
/-- Seats.othersAsSet -/
theorem zcX2_othersAsSet (l : Launch) (D : va_G) (cI : ClassId) (H : Heap) (b : Nat) (n : Nat) (me : Nat → Int32) (lo : Nat → Int32) (c : Nat → Nat) (e : Nat → Nat) (p : Nat) (hW : va_P D vwCl (zSeats cI b n me lo c e) H) (hI : zI n me lo c e) (hp : p < 12) : Met l yX2_othersAsSet wsX2_othersAsSet ({ frames := 2, cells := 0, slots := 0, locals := 43 } : Room) (zPc D [(cI, .int)] H [.ref b, .int (nI p)]) (zQ (some (.int (os e p (c p)))) H) 0 0 (fun _ => False) := by
  refine z_enter (cc := cX2_othersAsSet) (maxL := 5) (ret := (some .int)) (by decide) rfl (Nat.le_of_ble_eq_true rfl) ?_
  intro pg ev s m args below meth cd hfix hr hlocks hname hK hHs ls hl
  obtain ⟨hx, hb, hml, hown, hts⟩ := id hfix
  have hl : lv_has ls 5 [(0, .ref b), (1, .int (nI p))] := hl
  have hinX2 : ∀ w ∈ wsX20, w ∈ wsX2_othersAsSet := by decide +kernel
  have hc4 := zI_c hI p
  have hn := zI_n hI
  refine lv_aload_n hx hb dX2_othersAsSet_0 rfl (lv_at hl 0 rfl) ?_
  refine va_get (D := D) (ci := 2) (v := .ref (b + 5)) (C := RX2) (T := TX2) (N := 5) hx hb hts hinX2 hown hK hW 0 rfl rfl 3 (by decide) (hts _ (List.mem_of_getElem? (i := 1) rfl)) (fun _ h9 => h9) rfl dX2_othersAsSet_1 ?_
  refine lv_iload_n hx hb dX2_othersAsSet_4 rfl (lv_at hl 1 rfl) ?_
  refine z_ki (va_runV (As := [.int (nI p)]) (rest := []) hfix (zcX1_at l D cI H (b + 5) 12 (zn c) p (va_P.sub (ws' := (zRow cI (b + 5) 12 (zn c))) hW [5, 6] rfl) (by omega) (by omega)) (cwV 1 hts gX2_othersAsSet_X1_at rfl rfl rfl (by decide +kernel) ⟨Nat.le_of_ble_eq_true rfl, Nat.le_of_ble_eq_true rfl⟩) (z_preV hK hK hW (ci := 1) (q0 := 5) rfl rfl rfl) rfl rfl hl.1 rfl (lv_room (Nat.le_of_ble_eq_true rfl)) dX2_othersAsSet_5 ⟨by omega, by omega⟩) ?_
  refine lv_istore_n (lv' := [(2, .int (nI (c p))), (0, .ref b), (1, .int (nI p))]) hx hb dX2_othersAsSet_8 rfl hl (by decide) rfl (fun ls hl => ?_)
  refine lv_iconst (v := 0) hx hb dX2_othersAsSet_9 (by decide) ?_
  refine lv_istore_n (lv' := [(3, .int 0), (2, .int (nI (c p))), (0, .ref b), (1, .int (nI p))]) hx hb dX2_othersAsSet_10 rfl hl (by decide) rfl (fun ls hl => ?_)
  refine lv_iconst (v := 0) hx hb dX2_othersAsSet_11 (by decide) ?_
  refine lv_istore (lv' := [(4, .int 0), (3, .int 0), (2, .int (nI (c p))), (0, .ref b), (1, .int (nI p))]) hx hb dX2_othersAsSet_12 hl (by decide) rfl (fun ls hl => ?_)
  have loop14 : ∀ (fu : Nat) (k : Nat), c p - k < fu → (k ≤ c p) → ∀ (x4 : Int32), x4 = (nI k) → ∀ (x3 : Int32), x3 = (os e p k) → ∀ ls : Array Slot, lv_has ls 5 [(4, .int x4), (3, .int x3), (2, .int (nI (c p))), (0, .ref b), (1, .int (nI p))] → W pg l ev ({ frames := 2, cells := 0, slots := 0, locals := 43 } : Room) s m args below meth cd H [] 0 0 (MQ below (zQ (some (.int (os e p (c p)))) H) args s 0 0 (fun _ => False)) (F0 m 14 ls []) := by
    intro fu
    induction fu with
    | zero => intro k hfu; exact absurd hfu (Nat.not_lt_zero _)
    | succ fu ih =>
      intro k hfu hi14_0 x4 ex4 x3 ex3 ls hl
      subst ex4
      subst ex3
      refine lv_iload hx hb dX2_othersAsSet_14 (lv_at hl 0 rfl) ?_
      refine lv_iload_n hx hb dX2_othersAsSet_16 rfl (lv_at hl 2 rfl) ?_
      refine lv_icmp_ge (tgt := 38) hx hb dX2_othersAsSet_17 (by decide) (fun c17 => ?_) (fun c17 => ?_)
      · have c17 := z_le (a := c p) (b := k) c17 (by omega) (by omega)
        refine lv_iload_n hx hb dX2_othersAsSet_38 rfl (lv_at hl 1 rfl) ?_
        refine z_toi (y := (os e p (c p))) (by rw [show c p = k by omega]) ?_
        exact z_iret hx hb hr hlocks dX2_othersAsSet_39
      · have c17 := z_nle (a := c p) (b := k) c17 (by omega) (by omega)
        refine lv_iload_n hx hb dX2_othersAsSet_20 rfl (lv_at hl 1 rfl) ?_
        refine lv_iconst (v := 1) hx hb dX2_othersAsSet_21 (by decide) ?_
        refine lv_aload_n hx hb dX2_othersAsSet_22 rfl (lv_at hl 3 rfl) ?_
        refine lv_iload_n hx hb dX2_othersAsSet_23 rfl (lv_at hl 4 rfl) ?_
        refine lv_iload hx hb dX2_othersAsSet_24 (lv_at hl 0 rfl) ?_
        refine z_ki (va_runV (As := [.int (nI p), .int (nI k)]) (rest := [.int 1, .int (os e p k)]) hfix (zcX2_other l D cI H b n me lo c e p k hW (by omega) (by omega)) (cwV 2 hts gX2_othersAsSet_X2_other rfl rfl rfl (by decide +kernel) ⟨Nat.le_of_ble_eq_true rfl, Nat.le_of_ble_eq_true rfl⟩) (z_preV hK hK hW (ci := 2) (q0 := 0) rfl rfl rfl) rfl rfl hl.1 rfl (lv_room (Nat.le_of_ble_eq_true rfl)) dX2_othersAsSet_26 ⟨by omega, by omega⟩) ?_
        refine lv_ishl hx hb dX2_othersAsSet_29 ?_
        refine lv_ior hx hb dX2_othersAsSet_30 ?_
        refine lv_istore_n (lv' := [(3, .int ((os e p k) ||| ((1 : Int32) <<< ((nI (e (p * 4 + k))) &&& 31)))), (4, .int (nI k)), (2, .int (nI (c p))), (0, .ref b), (1, .int (nI p))]) hx hb dX2_othersAsSet_31 rfl hl (by decide) rfl (fun ls hl => ?_)
        refine lv_iinc (v := (nI (k + 1))) (lv' := [(4, .int (nI (k + 1))), (3, .int ((os e p k) ||| ((1 : Int32) <<< ((nI (e (p * 4 + k))) &&& 31)))), (2, .int (nI (c p))), (0, .ref b), (1, .int (nI p))]) hx hb dX2_othersAsSet_32 hl (k := 1) rfl (nI_1 _) (by decide) rfl (fun ls hl => ?_)
        refine lv_goto (tgt := 14) hx hb dX2_othersAsSet_35 (by decide) ?_
        exact ih (k + 1) (by omega) (by omega) _ (rfl) _ (rfl) _ (lv_sub hl [0, 1, 2, 3, 4] rfl)
  exact loop14 _ 0 (Nat.lt_succ_self _) (by omega) _ (rfl) _ (rfl) _ (lv_sub hl [0, 1, 2, 3, 4] rfl)
set_option maxHeartbeats 4000000 in
set_option maxRecDepth 100000 in
/-- Seats.othersOfAll -/
theorem zcX2_othersOfAll (l : Launch) (D : va_G) (cI : ClassId) (H : Heap) (b : Nat) (n : Nat) (me : Nat → Int32) (lo : Nat → Int32) (c : Nat → Nat) (e : Nat → Nat) (S : Int32) (hW : va_P D vwCl (zSeats cI b n me lo c e) H) (hI : zI n me lo c e) : Met l yX2_othersOfAll wsX2_othersOfAll ({ frames := 3, cells := 0, slots := 0, locals := 67 } : Room) (zPc D [(cI, .int)] H [.ref b, .int S]) (zQ (some (.int (oa c e S n))) H) 0 0 (fun _ => False) := by
  refine z_enter (cc := cX2_othersOfAll) (maxL := 4) (ret := (some .int)) (by decide) rfl (Nat.le_of_ble_eq_true rfl) ?_
  intro pg ev s m args below meth cd hfix hr hlocks hname hK hHs ls hl
  obtain ⟨hx, hb, hml, hown, hts⟩ := id hfix
  have hl : lv_has ls 4 [(0, .ref b), (1, .int S)] := hl
  have hinX2 : ∀ w ∈ wsX20, w ∈ wsX2_othersOfAll := by decide +kernel
  have hn := zI_n hI
  refine lv_iconst (v := 0) hx hb dX2_othersOfAll_0 (by decide) ?_
  refine lv_istore_n (lv' := [(2, .int 0), (0, .ref b), (1, .int S)]) hx hb dX2_othersOfAll_1 rfl hl (by decide) rfl (fun ls hl => ?_)
  refine lv_iconst (v := 0) hx hb dX2_othersOfAll_2 (by decide) ?_
  refine lv_istore_n (lv' := [(3, .int 0), (2, .int 0), (0, .ref b), (1, .int S)]) hx hb dX2_othersOfAll_3 rfl hl (by decide) rfl (fun ls hl => ?_)
  have loop4 : ∀ (fu : Nat) (k : Nat), n - k < fu → (k ≤ n) → ∀ (x3 : Int32), x3 = (nI k) → ∀ (x2 : Int32), x2 = (oa c e S k) → ∀ ls : Array Slot, lv_has ls 4 [(3, .int x3), (2, .int x2), (0, .ref b), (1, .int S)] → W pg l ev ({ frames := 3, cells := 0, slots := 0, locals := 67 } : Room) s m args below meth cd H [] 0 0 (MQ below (zQ (some (.int (oa c e S n))) H) args s 0 0 (fun _ => False)) (F0 m 4 ls []) := by
    intro fu
    induction fu with
    | zero => intro k hfu; exact absurd hfu (Nat.not_lt_zero _)
    | succ fu ih =>
      intro k hfu hi4_0 x3 ex3 x2 ex2 ls hl
      subst ex3
      subst ex2
      refine lv_iload_n hx hb dX2_othersOfAll_4 rfl (lv_at hl 0 rfl) ?_
      refine lv_aload_n hx hb dX2_othersOfAll_5 rfl (lv_at hl 2 rfl) ?_
      refine va_get (D := D) (ci := 2) (v := .int (nI n)) (C := RX2) (T := TX2) (N := 5) hx hb hts hinX2 hown hK hW 0 rfl rfl 0 (by decide) (hts _ (List.mem_of_getElem? (i := 1) rfl)) (fun _ h9 => h9) rfl dX2_othersOfAll_6 ?_
      refine lv_icmp_ge (tgt := 35) hx hb dX2_othersOfAll_9 (by decide) (fun c9 => ?_) (fun c9 => ?_)
      · have c9 := z_le (a := n) (b := k) c9 (by omega) (by omega)
        refine lv_iload_n hx hb dX2_othersOfAll_35 rfl (lv_at hl 1 rfl) ?_
        refine z_toi (y := (oa c e S n)) (by rw [show n = k by omega]) ?_
        exact z_iret hx hb hr hlocks dX2_othersOfAll_36
      · have c9 := z_nle (a := n) (b := k) c9 (by omega) (by omega)
        refine lv_iload_n hx hb dX2_othersOfAll_12 rfl (lv_at hl 3 rfl) ?_
        refine lv_iload_n hx hb dX2_othersOfAll_13 rfl (lv_at hl 0 rfl) ?_
        refine lv_ishr hx hb dX2_othersOfAll_14 ?_
        refine lv_iconst (v := 1) hx hb dX2_othersOfAll_15 (by decide) ?_
        refine lv_iand hx hb dX2_othersOfAll_16 ?_
        refine lv_iconst (v := 1) hx hb dX2_othersOfAll_17 (by decide) ?_
        refine lv_icmp_ne (tgt := 29) hx hb dX2_othersOfAll_18 (by decide) (fun c18 => ?_) (fun c18 => ?_)
        · refine lv_iinc (v := (nI (k + 1))) (lv' := [(3, .int (nI (k + 1))), (2, .int (oa c e S k)), (0, .ref b), (1, .int S)]) hx hb dX2_othersOfAll_29 hl (k := 0) rfl (nI_1 _) (by decide) rfl (fun ls hl => ?_)
          refine lv_goto (tgt := 4) hx hb dX2_othersOfAll_32 (by decide) ?_
          exact ih (k + 1) (by omega) (by omega) _ (rfl) _ (by simp only [oa]; first | rw [if_pos c18] | rw [if_neg c18]) _ (lv_sub hl [0, 1, 2, 3] rfl)
        · refine lv_iload_n hx hb dX2_othersOfAll_21 rfl (lv_at hl 1 rfl) ?_
          refine lv_aload_n hx hb dX2_othersOfAll_22 rfl (lv_at hl 2 rfl) ?_
          refine lv_iload_n hx hb dX2_othersOfAll_23 rfl (lv_at hl 0 rfl) ?_
          refine z_ki (va_runV (As := [.int (nI k)]) (rest := [.int (oa c e S k)]) hfix (zcX2_othersAsSet l D cI H b n me lo c e k hW hI (by omega)) (cwV 1 hts gX2_othersOfAll_X2_othersAsSet rfl rfl rfl (by decide +kernel) ⟨Nat.le_of_ble_eq_true rfl, Nat.le_of_ble_eq_true rfl⟩) (z_preV hK hK hW (ci := 2) (q0 := 0) rfl rfl rfl) rfl rfl hl.1 rfl (lv_room (Nat.le_of_ble_eq_true rfl)) dX2_othersOfAll_24 ⟨by omega, by omega⟩) ?_
          refine lv_ior hx hb dX2_othersOfAll_27 ?_
          refine lv_istore_n (lv' := [(2, .int ((oa c e S k) ||| (os e k (c k)))), (3, .int (nI k)), (0, .ref b), (1, .int S)]) hx hb dX2_othersOfAll_28 rfl hl (by decide) rfl (fun ls hl => ?_)
          refine lv_iinc (v := (nI (k + 1))) (lv' := [(3, .int (nI (k + 1))), (2, .int ((oa c e S k) ||| (os e k (c k)))), (0, .ref b), (1, .int S)]) hx hb dX2_othersOfAll_29 hl (k := 1) rfl (nI_1 _) (by decide) rfl (fun ls hl => ?_)
          refine lv_goto (tgt := 4) hx hb dX2_othersOfAll_32 (by decide) ?_
          exact ih (k + 1) (by omega) (by omega) _ (rfl) _ (by simp only [oa]; first | rw [if_pos c18] | rw [if_neg c18]) _ (lv_sub hl [0, 1, 2, 3] rfl)
  exact loop4 _ 0 (Nat.lt_succ_self _) (by omega) _ (rfl) _ (rfl) _ (lv_sub hl [0, 1, 2, 3] rfl)
set_option maxHeartbeats 4000000 in
set_option maxRecDepth 100000 in
/-- Seats.setLoud -/
theorem zcX2_setLoud (l : Launch) (D : va_G) (cI : ClassId) (H : Heap) (b : Nat) (n : Nat) (me : Nat → Int32) (lo : Nat → Int32) (c : Nat → Nat) (e : Nat → Nat) (p : Nat) (x : Int32) (hW : va_P D vwCl (zSeats cI b n me lo c e) H) (hp : p < 12) : Met l yX2_setLoud wsX2_setLoud ({ frames := 1, cells := 0, slots := 0, locals := 22 } : Room) (zPc D [(cI, .int)] H [.ref b, .int (nI p), .int x]) (zM (fun H1 => va_P D vwCl (zSeats cI b n me (upd lo p x) c e) H1 ∧ H1.size = H.size) none (zF b (b + 9))) 0 0 (zF b (b + 9)) := by
  refine z_enter (cc := cX2_setLoud) (maxL := 3) (ret := none) (by decide) rfl (Nat.le_of_ble_eq_true rfl) ?_
  intro pg ev s m args below meth cd hfix hr hlocks hname hK hHs ls hl
  obtain ⟨hx, hb, hml, hown, hts⟩ := id hfix
  have hl : lv_has ls 3 [(0, .ref b), (1, .int (nI p)), (2, .int x)] := hl
  have hS : va_S (zF b (b + 9)) s.heap H [] := by rw [hHs]; exact va_S.rf
  have hz : H.size = H.size := rfl
  have hinX2 : ∀ w ∈ wsX20, w ∈ wsX2_setLoud := by decide +kernel
  refine lv_aload_n hx hb dX2_setLoud_0 rfl (lv_at hl 0 rfl) ?_
  refine va_get (D := D) (ci := 2) (v := .ref (b + 3)) (C := RX2) (T := TX2) (N := 5) hx hb hts hinX2 hown hK hW 0 rfl rfl 2 (by decide) (hts _ (List.mem_of_getElem? (i := 1) rfl)) (fun _ h9 => h9) rfl dX2_setLoud_1 ?_
  refine lv_iload_n hx hb dX2_setLoud_4 rfl (lv_at hl 1 rfl) ?_
  refine lv_iload_n hx hb dX2_setLoud_5 rfl (lv_at hl 2 rfl) ?_
  refine z_mv (va_runV (As := [.int (nI p), .int x]) (rest := []) hfix (zcX1_put l D cI H (b + 3) 12 lo p x (va_P.sub (ws' := (zRow cI (b + 3) 12 lo)) hW [3, 4] rfl) (by omega) (by omega)) (cwV 2 hts gX2_setLoud_X1_put rfl rfl rfl (by decide +kernel) ⟨Nat.le_of_ble_eq_true rfl, Nat.le_of_ble_eq_true rfl⟩) (z_preV hK hK hW (ci := 1) (q0 := 3) rfl rfl rfl) rfl rfl hl.1 rfl (lv_room (Nat.le_of_ble_eq_true rfl)) dX2_setLoud_6 ⟨by omega, by omega⟩) hS (fun q _ h => by simp only [zF] at h ⊢; omega) (fun q h => by simp only [zF] at h ⊢; omega) (fun H1 lo2 hB hz1 hk1 hS => ?_)
  have hz : H1.size = H.size := (hB.2).trans hz
  have hW3 : va_P D vwCl (zSeats cI b n me (upd lo p x) c e) H1 := zS_sub 1 hW (by decide) rfl hB.1 (fun q h1 h2 => hk1 q h1 (fun h3 => h2 (by simp only [zF] at h3 ⊢; omega)))
  exact z_vretM (⟨hW3, hz⟩) hx hb hr hlocks hS dX2_setLoud_9
set_option maxHeartbeats 4000000 in
set_option maxRecDepth 100000 in
/-- Seats.seat -/
theorem zcX2_seat (l : Launch) (D : va_G) (cI : ClassId) (H : Heap) (b : Nat) (n : Nat) (me : Nat → Int32) (lo : Nat → Int32) (c : Nat → Nat) (e : Nat → Nat) (x : Int32) (y : Int32) (hW : va_P D vwCl (zSeats cI b n me lo c e) H) (hn : n < 12) : Met l yX2_seat wsX2_seat ({ frames := 1, cells := 0, slots := 0, locals := 22 } : Room) (zPc D [(cI, .int)] H [.ref b, .int x, .int y]) (zM (fun H1 => va_P D vwCl (zSeats cI b (n + 1) (upd me n x) (upd lo n y) c e) H1 ∧ H1.size = H.size) (some (.int (nI n))) (zF b (b + 9))) 0 0 (zF b (b + 9)) := by
  refine z_enter (cc := cX2_seat) (maxL := 4) (ret := (some .int)) (by decide) rfl (Nat.le_of_ble_eq_true rfl) ?_
  intro pg ev s m args below meth cd hfix hr hlocks hname hK hHs ls hl
  obtain ⟨hx, hb, hml, hown, hts⟩ := id hfix
  have hl : lv_has ls 4 [(0, .ref b), (1, .int x), (2, .int y)] := hl
  have hS : va_S (zF b (b + 9)) s.heap H [] := by rw [hHs]; exact va_S.rf
  have hz : H.size = H.size := rfl
  have hinX2 : ∀ w ∈ wsX20, w ∈ wsX2_seat := by decide +kernel
  refine lv_aload_n hx hb dX2_seat_0 rfl (lv_at hl 0 rfl) ?_
  refine va_get (D := D) (ci := 2) (v := .int (nI n)) (C := RX2) (T := TX2) (N := 5) hx hb hts hinX2 hown hK hW 0 rfl rfl 0 (by decide) (hts _ (List.mem_of_getElem? (i := 1) rfl)) (fun _ h9 => h9) rfl dX2_seat_1 ?_
  refine lv_istore_n (lv' := [(3, .int (nI n)), (0, .ref b), (1, .int x), (2, .int y)]) hx hb dX2_seat_4 rfl hl (by decide) rfl (fun ls hl => ?_)
  refine lv_aload_n hx hb dX2_seat_5 rfl (lv_at hl 1 rfl) ?_
  refine va_get (D := D) (ci := 2) (v := .ref (b + 1)) (C := RX2) (T := TX2) (N := 5) hx hb hts hinX2 hown hK hW 0 rfl rfl 1 (by decide) (hts _ (List.mem_of_getElem? (i := 2) rfl)) (fun _ h9 => h9) rfl dX2_seat_6 ?_
  refine lv_iload_n hx hb dX2_seat_9 rfl (lv_at hl 0 rfl) ?_
  refine lv_iload_n hx hb dX2_seat_10 rfl (lv_at hl 2 rfl) ?_
  refine z_mv (va_runV (As := [.int (nI n), .int x]) (rest := []) hfix (zcX1_put l D cI H (b + 1) 12 me n x (va_P.sub (ws' := (zRow cI (b + 1) 12 me)) hW [1, 2] rfl) (by omega) (by omega)) (cwV 2 hts gX2_seat_X1_put rfl rfl rfl (by decide +kernel) ⟨Nat.le_of_ble_eq_true rfl, Nat.le_of_ble_eq_true rfl⟩) (z_preV hK hK hW (ci := 1) (q0 := 1) rfl rfl rfl) rfl rfl hl.1 rfl (lv_room (Nat.le_of_ble_eq_true rfl)) dX2_seat_11 ⟨by omega, by omega⟩) hS (fun q _ h => by simp only [zF] at h ⊢; omega) (fun q h => by simp only [zF] at h ⊢; omega) (fun H1 lo2 hB hz1 hk1 hS => ?_)
  have hz : H1.size = H.size := (hB.2).trans hz
  have hW3 : va_P D vwCl (zSeats cI b n (upd me n x) lo c e) H1 := zS_sub 0 hW (by decide) rfl hB.1 (fun q h1 h2 => hk1 q h1 (fun h3 => h2 (by simp only [zF] at h3 ⊢; omega)))
  refine lv_aload_n hx hb dX2_seat_14 rfl (lv_at hl 1 rfl) ?_
  refine va_get (D := D) (ci := 2) (v := .ref (b + 3)) (C := RX2) (T := TX2) (N := 5) hx hb hts hinX2 hown hK hW3 0 rfl rfl 2 (by decide) (hts _ (List.mem_of_getElem? (i := 3) rfl)) (fun _ h9 => h9) rfl dX2_seat_15 ?_
  refine lv_iload_n hx hb dX2_seat_18 rfl (lv_at hl 0 rfl) ?_
  refine lv_iload_n hx hb dX2_seat_19 rfl (lv_at hl 3 rfl) ?_
  refine z_mv (va_runV (As := [.int (nI n), .int y]) (rest := []) hfix (zcX1_put l D cI H1 (b + 3) 12 lo n y (va_P.sub (ws' := (zRow cI (b + 3) 12 lo)) hW3 [3, 4] rfl) (by omega) (by omega)) (cwV 2 hts gX2_seat_X1_put rfl rfl rfl (by decide +kernel) ⟨Nat.le_of_ble_eq_true rfl, Nat.le_of_ble_eq_true rfl⟩) (z_preV hK hK hW3 (ci := 1) (q0 := 3) rfl rfl rfl) rfl rfl hl.1 rfl (lv_room (Nat.le_of_ble_eq_true rfl)) dX2_seat_20 ⟨by omega, by omega⟩) hS (fun q _ h => by simp only [zF] at h ⊢; omega) (fun q h => by simp only [zF] at h ⊢; omega) (fun H4 lo5 hB hz1 hk1 hS => ?_)
  have hz : H4.size = H.size := (hB.2).trans hz
  have hW6 : va_P D vwCl (zSeats cI b n (upd me n x) (upd lo n y) c e) H4 := zS_sub 1 hW3 (by decide) rfl hB.1 (fun q h1 h2 => hk1 q h1 (fun h3 => h2 (by simp only [zF] at h3 ⊢; omega)))
  refine lv_aload_n hx hb dX2_seat_23 rfl (lv_at hl 1 rfl) ?_
  refine lv_dup hx hb dX2_seat_24 rfl ?_
  refine va_get (D := D) (ci := 2) (v := .int (nI n)) (C := RX2) (T := TX2) (N := 5) hx hb hts hinX2 hown hK hW6 0 rfl rfl 0 (by decide) (hts _ (List.mem_of_getElem? (i := 1) rfl)) (fun _ h9 => h9) rfl dX2_seat_25 ?_
  refine lv_iconst (v := 1) hx hb dX2_seat_28 (by decide) ?_
  refine lv_iadd hx hb dX2_seat_29 ?_
  refine z_toi (y := nI (n + 1)) (nI_add n 1) ?_
  refine z_put (D := D) (ci := 2) (v := .int (nI (n + 1))) (ty := .int) (C := RX2) (T := TX2) (N := 5) hx hb hts hinX2 tyX2 tyX2_ok nmX2 hown hK hW6 (by simp only [zF]; omega) hS 0 rfl rfl 0 (by decide) (hts _ (List.mem_of_getElem? (i := 1) rfl)) (fun _ h9 => h9) rfl (by decide +kernel) rfl rfl (Nat.le_of_ble_eq_true rfl) dX2_seat_30 (fun H7 lo8 hP1 hz1 hk1 hS => ?_)
  have hz : H7.size = H.size := by omega
  have hW9 : va_P D vwCl (zSeats cI b (n + 1) (upd me n x) (upd lo n y) c e) H7 := z_set zS_c hW6 0 rfl hP1 (fun q _ h => hk1 q h)
  refine lv_iload_n hx hb dX2_seat_33 rfl (lv_at hl 0 rfl) ?_
  exact z_iretM (⟨hW9, hz⟩) hx hb hr hlocks hS dX2_seat_34
set_option maxHeartbeats 4000000 in
set_option maxRecDepth 100000 in
/-- Seats.addOther -/
theorem zcX2_addOther (l : Launch) (D : va_G) (cI : ClassId) (H : Heap) (b : Nat) (n : Nat) (me : Nat → Int32) (lo : Nat → Int32) (c : Nat → Nat) (e : Nat → Nat) (p : Nat) (o : Nat) (hW : va_P D vwCl (zSeats cI b n me lo c e) H) (hp : p < 12) (hc : c p < 4) : Met l yX2_addOther wsX2_addOther ({ frames := 1, cells := 0, slots := 0, locals := 22 } : Room) (zPc D [(cI, .int)] H [.ref b, .int (nI p), .int (nI o)]) (zM (fun H1 => va_P D vwCl (zSeats cI b n me lo (zu c p (c p + 1)) (zu e (p * 4 + c p) o)) H1 ∧ H1.size = H.size) none (zF b (b + 9))) 0 0 (zF b (b + 9)) := by
  refine z_enter (cc := cX2_addOther) (maxL := 4) (ret := none) (by decide) rfl (Nat.le_of_ble_eq_true rfl) ?_
  intro pg ev s m args below meth cd hfix hr hlocks hname hK hHs ls hl
  obtain ⟨hx, hb, hml, hown, hts⟩ := id hfix
  have hl : lv_has ls 4 [(0, .ref b), (1, .int (nI p)), (2, .int (nI o))] := hl
  have hS : va_S (zF b (b + 9)) s.heap H [] := by rw [hHs]; exact va_S.rf
  have hz : H.size = H.size := rfl
  have hinX2 : ∀ w ∈ wsX20, w ∈ wsX2_addOther := by decide +kernel
  refine lv_aload_n hx hb dX2_addOther_0 rfl (lv_at hl 0 rfl) ?_
  refine va_get (D := D) (ci := 2) (v := .ref (b + 5)) (C := RX2) (T := TX2) (N := 5) hx hb hts hinX2 hown hK hW 0 rfl rfl 3 (by decide) (hts _ (List.mem_of_getElem? (i := 1) rfl)) (fun _ h9 => h9) rfl dX2_addOther_1 ?_
  refine lv_iload_n hx hb dX2_addOther_4 rfl (lv_at hl 1 rfl) ?_
  refine z_ki (va_runV (As := [.int (nI p)]) (rest := []) hfix (zcX1_at l D cI H (b + 5) 12 (zn c) p (va_P.sub (ws' := (zRow cI (b + 5) 12 (zn c))) hW [5, 6] rfl) (by omega) (by omega)) (cwV 1 hts gX2_addOther_X1_at rfl rfl rfl (by decide +kernel) ⟨Nat.le_of_ble_eq_true rfl, Nat.le_of_ble_eq_true rfl⟩) (z_preV hK hK hW (ci := 1) (q0 := 5) rfl rfl rfl) rfl rfl hl.1 rfl (lv_room (Nat.le_of_ble_eq_true rfl)) dX2_addOther_5 ⟨by omega, by omega⟩) ?_
  refine lv_istore_n (lv' := [(3, .int (nI (c p))), (0, .ref b), (1, .int (nI p)), (2, .int (nI o))]) hx hb dX2_addOther_8 rfl hl (by decide) rfl (fun ls hl => ?_)
  refine lv_aload_n hx hb dX2_addOther_9 rfl (lv_at hl 1 rfl) ?_
  refine va_get (D := D) (ci := 2) (v := .ref (b + 7)) (C := RX2) (T := TX2) (N := 5) hx hb hts hinX2 hown hK hW 0 rfl rfl 4 (by decide) (hts _ (List.mem_of_getElem? (i := 2) rfl)) (fun _ h9 => h9) rfl dX2_addOther_10 ?_
  refine lv_iload_n hx hb dX2_addOther_13 rfl (lv_at hl 2 rfl) ?_
  refine lv_iconst (v := 4) hx hb dX2_addOther_14 (by decide) ?_
  refine lv_imul hx hb dX2_addOther_15 ?_
  refine z_toi (y := nI (p * 4)) (pk_mul p 4) ?_
  refine lv_iload_n hx hb dX2_addOther_16 rfl (lv_at hl 0 rfl) ?_
  refine lv_iadd hx hb dX2_addOther_17 ?_
  refine z_toi (y := nI (p * 4 + (c p))) (nI_add (p * 4) (c p)) ?_
  refine lv_iload_n hx hb dX2_addOther_18 rfl (lv_at hl 3 rfl) ?_
  refine z_mv (va_runV (As := [.int (nI (p * 4 + (c p))), .int (nI o)]) (rest := []) hfix (zcX1_put l D cI H (b + 7) 48 (zn e) (p * 4 + (c p)) (nI o) (va_P.sub (ws' := (zRow cI (b + 7) 48 (zn e))) hW [7, 8] rfl) (by omega) (by omega)) (cwV 2 hts gX2_addOther_X1_put rfl rfl rfl (by decide +kernel) ⟨Nat.le_of_ble_eq_true rfl, Nat.le_of_ble_eq_true rfl⟩) (z_preV hK hK hW (ci := 1) (q0 := 7) rfl rfl rfl) rfl rfl hl.1 rfl (lv_room (Nat.le_of_ble_eq_true rfl)) dX2_addOther_19 ⟨by omega, by omega⟩) hS (fun q _ h => by simp only [zF] at h ⊢; omega) (fun q h => by simp only [zF] at h ⊢; omega) (fun H1 lo2 hB hz1 hk1 hS => ?_)
  have hz : H1.size = H.size := (hB.2).trans hz
  have hW3 : va_P D vwCl (zSeats cI b n me lo c (zu e (p * 4 + (c p)) o)) H1 := zS_subE hW hB.1 (zn_u _ _ _) (fun q h1 h2 => hk1 q h1 (fun h3 => h2 (by simp only [zF] at h3 ⊢; omega)))
  refine lv_aload_n hx hb dX2_addOther_22 rfl (lv_at hl 1 rfl) ?_
  refine va_get (D := D) (ci := 2) (v := .ref (b + 5)) (C := RX2) (T := TX2) (N := 5) hx hb hts hinX2 hown hK hW3 0 rfl rfl 3 (by decide) (hts _ (List.mem_of_getElem? (i := 1) rfl)) (fun _ h9 => h9) rfl dX2_addOther_23 ?_
  refine lv_iload_n hx hb dX2_addOther_26 rfl (lv_at hl 2 rfl) ?_
  refine lv_iload_n hx hb dX2_addOther_27 rfl (lv_at hl 0 rfl) ?_
  refine lv_iconst (v := 1) hx hb dX2_addOther_28 (by decide) ?_
  refine lv_iadd hx hb dX2_addOther_29 ?_
  refine z_toi (y := nI (c p + 1)) (nI_add (c p) 1) ?_
  refine z_mv (va_runV (As := [.int (nI p), .int (nI (c p + 1))]) (rest := []) hfix (zcX1_put l D cI H1 (b + 5) 12 (zn c) p (nI (c p + 1)) (va_P.sub (ws' := (zRow cI (b + 5) 12 (zn c))) hW3 [5, 6] rfl) (by omega) (by omega)) (cwV 2 hts gX2_addOther_X1_put rfl rfl rfl (by decide +kernel) ⟨Nat.le_of_ble_eq_true rfl, Nat.le_of_ble_eq_true rfl⟩) (z_preV hK hK hW3 (ci := 1) (q0 := 5) rfl rfl rfl) rfl rfl hl.1 rfl (lv_room (Nat.le_of_ble_eq_true rfl)) dX2_addOther_30 ⟨by omega, by omega⟩) hS (fun q _ h => by simp only [zF] at h ⊢; omega) (fun q h => by simp only [zF] at h ⊢; omega) (fun H4 lo5 hB hz1 hk1 hS => ?_)
  have hz : H4.size = H.size := (hB.2).trans hz
  have hW6 : va_P D vwCl (zSeats cI b n me lo (zu c p (c p + 1)) (zu e (p * 4 + (c p)) o)) H4 := zS_subC hW3 hB.1 (zn_u _ _ _) (fun q h1 h2 => hk1 q h1 (fun h3 => h2 (by simp only [zF] at h3 ⊢; omega)))
  exact z_vretM (⟨hW6, hz⟩) hx hb hr hlocks hS dX2_addOther_33
set_option maxHeartbeats 4000000 in
set_option maxRecDepth 100000 in
/-- Seats.dropOther -/
theorem zcX2_dropOther (l : Launch) (D : va_G) (cI : ClassId) (H : Heap) (b : Nat) (n : Nat) (me : Nat → Int32) (lo : Nat → Int32) (c : Nat → Nat) (e : Nat → Nat) (p : Nat) (a : Nat) (hW : va_P D vwCl (zSeats cI b n me lo c e) H) (hp : p < 12) (hc : c p ≤ 4) (ha : a < c p) : Met l yX2_dropOther wsX2_dropOther ({ frames := 2, cells := 0, slots := 0, locals := 43 } : Room) (zPc D [(cI, .int)] H [.ref b, .int (nI p), .int (nI a)]) (zM (fun H1 => va_P D vwCl (zSeats cI b n me lo (zu c p (c p - 1)) (zdr e p a (c p - 1))) H1 ∧ H1.size = H.size) none (zF b (b + 9))) 0 0 (zF b (b + 9)) := by
  refine z_enter (cc := cX2_dropOther) (maxL := 5) (ret := none) (by decide) rfl (Nat.le_of_ble_eq_true rfl) ?_
  intro pg ev s m args below meth cd hfix hr hlocks hname hK hHs ls hl
  obtain ⟨hx, hb, hml, hown, hts⟩ := id hfix
  have hl : lv_has ls 5 [(0, .ref b), (1, .int (nI p)), (2, .int (nI a))] := hl
  have hS : va_S (zF b (b + 9)) s.heap H [] := by rw [hHs]; exact va_S.rf
  have hz : H.size = H.size := rfl
  have hinX2 : ∀ w ∈ wsX20, w ∈ wsX2_dropOther := by decide +kernel
  refine lv_aload_n hx hb dX2_dropOther_0 rfl (lv_at hl 0 rfl) ?_
  refine va_get (D := D) (ci := 2) (v := .ref (b + 5)) (C := RX2) (T := TX2) (N := 5) hx hb hts hinX2 hown hK hW 0 rfl rfl 3 (by decide) (hts _ (List.mem_of_getElem? (i := 1) rfl)) (fun _ h9 => h9) rfl dX2_dropOther_1 ?_
  refine lv_iload_n hx hb dX2_dropOther_4 rfl (lv_at hl 1 rfl) ?_
  refine z_ki (va_runV (As := [.int (nI p)]) (rest := []) hfix (zcX1_at l D cI H (b + 5) 12 (zn c) p (va_P.sub (ws' := (zRow cI (b + 5) 12 (zn c))) hW [5, 6] rfl) (by omega) (by omega)) (cwV 1 hts gX2_dropOther_X1_at rfl rfl rfl (by decide +kernel) ⟨Nat.le_of_ble_eq_true rfl, Nat.le_of_ble_eq_true rfl⟩) (z_preV hK hK hW (ci := 1) (q0 := 5) rfl rfl rfl) rfl rfl hl.1 rfl (lv_room (Nat.le_of_ble_eq_true rfl)) dX2_dropOther_5 ⟨by omega, by omega⟩) ?_
  refine lv_iconst (v := 1) hx hb dX2_dropOther_8 (by decide) ?_
  refine lv_isub hx hb dX2_dropOther_9 ?_
  refine z_toi (y := nI (c p - 1)) (pk_sub (a := c p) (b := 1) (by omega)) ?_
  refine lv_istore_n (lv' := [(3, .int (nI (c p - 1))), (0, .ref b), (1, .int (nI p)), (2, .int (nI a))]) hx hb dX2_dropOther_10 rfl hl (by decide) rfl (fun ls hl => ?_)
  refine lv_iload_n hx hb dX2_dropOther_11 rfl (lv_at hl 3 rfl) ?_
  refine lv_istore (lv' := [(4, .int (nI a)), (3, .int (nI (c p - 1))), (0, .ref b), (1, .int (nI p)), (2, .int (nI a))]) hx hb dX2_dropOther_12 hl (by decide) rfl (fun ls hl => ?_)
  have loop14 : ∀ (fu : Nat) (k : Nat), c p - k < fu → (a ≤ k) → (k ≤ c p - 1) → ∀ (x4 : Int32), x4 = (nI k) → ∀ (H1 : Heap) (lo2 : List Loc), va_P D vwCl (zSeats cI b n me lo c (zdr e p a k)) H1 → H1.size = H.size → va_S (zF b (b + 9)) s.heap H1 lo2 → ∀ ls : Array Slot, lv_has ls 5 [(4, .int x4), (3, .int (nI (c p - 1))), (0, .ref b), (1, .int (nI p)), (2, .int (nI a))] → W pg l ev ({ frames := 2, cells := 0, slots := 0, locals := 43 } : Room) s m args below meth cd H1 lo2 0 0 (MQ below (zM (fun H1 => va_P D vwCl (zSeats cI b n me lo (zu c p (c p - 1)) (zdr e p a (c p - 1))) H1 ∧ H1.size = H.size) none (zF b (b + 9))) args s 0 0 (zF b (b + 9))) (F0 m 14 ls []) := by
    intro fu
    induction fu with
    | zero => intro k hfu; exact absurd hfu (Nat.not_lt_zero _)
    | succ fu ih =>
      intro k hfu hi14_0 hi14_1 x4 ex4 H1 lo2 hW3 hz hS ls hl
      subst ex4
      refine lv_iload hx hb dX2_dropOther_14 (lv_at hl 0 rfl) ?_
      refine lv_iload_n hx hb dX2_dropOther_16 rfl (lv_at hl 1 rfl) ?_
      refine lv_icmp_ge (tgt := 48) hx hb dX2_dropOther_17 (by decide) (fun c17 => ?_) (fun c17 => ?_)
      · have c17 := z_le (a := c p - 1) (b := k) c17 (by omega) (by omega)
        refine lv_aload_n hx hb dX2_dropOther_48 rfl (lv_at hl 2 rfl) ?_
        refine va_get (D := D) (ci := 2) (v := .ref (b + 5)) (C := RX2) (T := TX2) (N := 5) hx hb hts hinX2 hown hK hW3 0 rfl rfl 3 (by decide) (hts _ (List.mem_of_getElem? (i := 1) rfl)) (fun _ h9 => h9) rfl dX2_dropOther_49 ?_
        refine lv_iload_n hx hb dX2_dropOther_52 rfl (lv_at hl 3 rfl) ?_
        refine lv_iload_n hx hb dX2_dropOther_53 rfl (lv_at hl 1 rfl) ?_
        refine z_mv (va_runV (As := [.int (nI p), .int (nI (c p - 1))]) (rest := []) hfix (zcX1_put l D cI H1 (b + 5) 12 (zn c) p (nI (c p - 1)) (va_P.sub (ws' := (zRow cI (b + 5) 12 (zn c))) hW3 [5, 6] rfl) (by omega) (by omega)) (cwV 2 hts gX2_dropOther_X1_put rfl rfl rfl (by decide +kernel) ⟨Nat.le_of_ble_eq_true rfl, Nat.le_of_ble_eq_true rfl⟩) (z_preV hK hK hW3 (ci := 1) (q0 := 5) rfl rfl rfl) rfl rfl hl.1 rfl (lv_room (Nat.le_of_ble_eq_true rfl)) dX2_dropOther_54 ⟨by omega, by omega⟩) hS (fun q _ h => by simp only [zF] at h ⊢; omega) (fun q h => by simp only [zF] at h ⊢; omega) (fun H4 lo5 hB hz1 hk1 hS => ?_)
        have hz : H4.size = H.size := (hB.2).trans hz
        have hW6 : va_P D vwCl (zSeats cI b n me lo (zu c p (c p - 1)) (zdr e p a k)) H4 := zS_subC hW3 hB.1 (zn_u _ _ _) (fun q h1 h2 => hk1 q h1 (fun h3 => h2 (by simp only [zF] at h3 ⊢; omega)))
        exact z_vretM (⟨by rw [show k = c p - 1 by omega] at hW6; exact hW6, hz⟩) hx hb hr hlocks hS dX2_dropOther_57
      · have c17 := z_nle (a := c p - 1) (b := k) c17 (by omega) (by omega)
        refine lv_aload_n hx hb dX2_dropOther_20 rfl (lv_at hl 2 rfl) ?_
        refine va_get (D := D) (ci := 2) (v := .ref (b + 7)) (C := RX2) (T := TX2) (N := 5) hx hb hts hinX2 hown hK hW3 0 rfl rfl 4 (by decide) (hts _ (List.mem_of_getElem? (i := 2) rfl)) (fun _ h9 => h9) rfl dX2_dropOther_21 ?_
        refine lv_iload_n hx hb dX2_dropOther_24 rfl (lv_at hl 3 rfl) ?_
        refine lv_iconst (v := 4) hx hb dX2_dropOther_25 (by decide) ?_
        refine lv_imul hx hb dX2_dropOther_26 ?_
        refine z_toi (y := nI (p * 4)) (pk_mul p 4) ?_
        refine lv_iload hx hb dX2_dropOther_27 (lv_at hl 0 rfl) ?_
        refine lv_iadd hx hb dX2_dropOther_29 ?_
        refine z_toi (y := nI (p * 4 + k)) (nI_add (p * 4) k) ?_
        refine lv_aload_n hx hb dX2_dropOther_30 rfl (lv_at hl 2 rfl) ?_
        refine lv_iload_n hx hb dX2_dropOther_31 rfl (lv_at hl 3 rfl) ?_
        refine lv_iload hx hb dX2_dropOther_32 (lv_at hl 0 rfl) ?_
        refine lv_iconst (v := 1) hx hb dX2_dropOther_34 (by decide) ?_
        refine lv_iadd hx hb dX2_dropOther_35 ?_
        refine z_toi (y := nI (k + 1)) (nI_add k 1) ?_
        refine z_ki (va_runV (As := [.int (nI p), .int (nI (k + 1))]) (rest := [.int (nI (p * 4 + k)), .ref (b + 7)]) hfix (zcX2_other l D cI H1 b n me lo c (zdr e p a k) p (k + 1) hW3 (by omega) (by omega)) (cwV 2 hts gX2_dropOther_X2_other rfl rfl rfl (by decide +kernel) ⟨Nat.le_of_ble_eq_true rfl, Nat.le_of_ble_eq_true rfl⟩) (z_preV hK hK hW3 (ci := 2) (q0 := 0) rfl rfl rfl) rfl rfl hl.1 rfl (lv_room (Nat.le_of_ble_eq_true rfl)) dX2_dropOther_36 ⟨by omega, by omega⟩) ?_
        refine z_mv (va_runV (As := [.int (nI (p * 4 + k)), .int (nI ((zdr e p a k) (p * 4 + (k + 1))))]) (rest := []) hfix (zcX1_put l D cI H1 (b + 7) 48 (zn (zdr e p a k)) (p * 4 + k) (nI ((zdr e p a k) (p * 4 + (k + 1)))) (va_P.sub (ws' := (zRow cI (b + 7) 48 (zn (zdr e p a k)))) hW3 [7, 8] rfl) (by omega) (by omega)) (cwV 2 hts gX2_dropOther_X1_put rfl rfl rfl (by decide +kernel) ⟨Nat.le_of_ble_eq_true rfl, Nat.le_of_ble_eq_true rfl⟩) (z_preV hK hK hW3 (ci := 1) (q0 := 7) rfl rfl rfl) rfl rfl hl.1 rfl (lv_room (Nat.le_of_ble_eq_true rfl)) dX2_dropOther_39 ⟨by omega, by omega⟩) hS (fun q _ h => by simp only [zF] at h ⊢; omega) (fun q h => by simp only [zF] at h ⊢; omega) (fun H7 lo8 hB hz1 hk1 hS => ?_)
        have hz : H7.size = H.size := (hB.2).trans hz
        have hW9 : va_P D vwCl (zSeats cI b n me lo c (zu (zdr e p a k) (p * 4 + k) ((zdr e p a k) (p * 4 + (k + 1))))) H7 := zS_subE hW3 hB.1 (zn_u _ _ _) (fun q h1 h2 => hk1 q h1 (fun h3 => h2 (by simp only [zF] at h3 ⊢; omega)))
        refine lv_iinc (v := (nI (k + 1))) (lv' := [(4, .int (nI (k + 1))), (3, .int (nI (c p - 1))), (0, .ref b), (1, .int (nI p)), (2, .int (nI a))]) hx hb dX2_dropOther_42 hl (k := 0) rfl (nI_1 _) (by decide) rfl (fun ls hl => ?_)
        refine lv_goto (tgt := 14) hx hb dX2_dropOther_45 (by decide) ?_
        exact ih (k + 1) (by omega) (by omega) (by omega) _ (rfl) _ _ ((by rw [← zdr_s hi14_0]; exact hW9)) hz hS _ (lv_sub hl [0, 1, 2, 3, 4] rfl)
  exact loop14 _ a (Nat.lt_succ_self _) (by omega) (by omega) _ (rfl) _ _ (by rw [zdr_0]; exact hW) hz hS _ (lv_sub hl [0, 1, 2, 3, 4] rfl)
