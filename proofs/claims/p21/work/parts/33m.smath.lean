/-! what the law's Sim says, in numbers -/
/-- the loudest, looked for from the last place down: d places from u on, the last looked at is u -/
def rh (lo : Nat → Int32) (e : Nat → Nat) (p : Nat) : Nat → Nat → Option Nat
  | _, 0 => none
  | u, d + 1 => match rh lo e p (u + 1) d with
    | none => some (e (p * 4 + u))
    | some b => if lo (e (p * 4 + u)) < lo b then some b else some (e (p * 4 + u))
section ZSM
variable {n : Nat} {me lo : Nat → Int32} {c e : Nat → Nat} {p : Nat}
theorem rh_n {w d : Nat} (h : rh lo e p (w + 1) d = none) : rh lo e p w (d + 1) = some (e (p * 4 + w)) := by simp only [rh, h]
theorem rh_lo {w d b : Nat} (h : rh lo e p (w + 1) d = some b) (h2 : lo (e (p * 4 + w)) < lo b) : rh lo e p w (d + 1) = some b := by simp only [rh, h]; rw [if_pos h2]
theorem rh_ge {w d b : Nat} (h : rh lo e p (w + 1) d = some b) (h2 : ¬ lo (e (p * 4 + w)) < lo b) : rh lo e p w (d + 1) = some (e (p * 4 + w)) := by simp only [rh, h]; rw [if_neg h2]
theorem rh_in {q : Nat} : ∀ {d u : Nat}, rh lo e p u d = some q → ∃ j, u ≤ j ∧ j < u + d ∧ e (p * 4 + j) = q
  | 0, u, h => by simp [rh] at h
  | d + 1, u, h => by
    cases hq : rh lo e p (u + 1) d with
    | none => rw [rh_n hq] at h; cases h; exact ⟨u, by omega, by omega, rfl⟩
    | some b =>
      by_cases h2 : lo (e (p * 4 + u)) < lo b
      · rw [rh_lo hq h2] at h; cases h
        obtain ⟨j, h1, h2, h3⟩ := rh_in hq
        exact ⟨j, by omega, by omega, h3⟩
      · rw [rh_ge hq h2] at h; cases h; exact ⟨u, by omega, by omega, rfl⟩
/-- of two finds the first, if it is as loud -/
def zcmb (lo : Nat → Int32) : Option Nat → Option Nat → Option Nat
  | none, r => r
  | some b, none => some b
  | some b, some r => if lo b < lo r then some r else some b
theorem zcmb_none {x : Option Nat} : zcmb lo x none = x := by cases x <;> rfl
theorem hd_s (k : Nat) : hd lo e p (k + 1) = zcmb lo (hd lo e p k) (some (e (p * 4 + k))) := by
  cases hq : hd lo e p k <;> simp only [hd, hq, zcmb]
theorem rh_s (u d : Nat) : rh lo e p u (d + 1) = zcmb lo (some (e (p * 4 + u))) (rh lo e p (u + 1) d) := by
  cases hq : rh lo e p (u + 1) d <;> simp only [rh, hq, zcmb]
theorem zcmb_assoc (x : Option Nat) (a : Nat) (y : Option Nat) : zcmb lo (zcmb lo x (some a)) y = zcmb lo x (zcmb lo (some a) y) := by
  cases x with
  | none => rfl
  | some b =>
    cases y with
    | none => rw [zcmb_none, zcmb_none]
    | some r =>
      simp only [zcmb]
      by_cases h1 : lo b < lo a
      · rw [if_pos h1]
        by_cases h2 : lo a < lo r
        · rw [if_pos h2]; simp only [zcmb]; rw [if_pos h2, if_pos (Int32.lt_trans h1 h2)]
        · rw [if_neg h2]; simp only [zcmb]; rw [if_neg h2, if_pos h1]
      · rw [if_neg h1]
        by_cases h2 : lo a < lo r
        · rw [if_pos h2]
        · rw [if_neg h2]; simp only [zcmb]; rw [if_neg h1, if_neg]
          exact fun h3 => h2 (Int32.lt_of_le_of_lt (Int32.not_lt.mp h1) h3)
theorem rh_hd0 : ∀ (d u : Nat), hd lo e p (u + d) = zcmb lo (hd lo e p u) (rh lo e p u d)
  | 0, u => by rw [show rh lo e p u 0 = none from rfl, zcmb_none]; rfl
  | d + 1, u => by
    rw [show u + (d + 1) = (u + 1) + d by omega, rh_hd0 d (u + 1), hd_s, rh_s, zcmb_assoc]
theorem rh_hd (k : Nat) : rh lo e p 0 k = hd lo e p k := by
  have h := rh_hd0 (lo := lo) (e := e) (p := p) k 0
  rw [Nat.zero_add] at h
  exact h.symm
theorem zpd_lt {u : Nat} (hu : u < 100) (h : nI u - 1 < 0) : u = 0 := by
  cases u with
  | zero => rfl
  | succ w => rw [nI_pred] at h; exact absurd h (nI_pos (by omega))
theorem zpd_ge {u : Nat} (h : ¬ nI u - 1 < 0) : ∃ w, u = w + 1 := by
  cases u with
  | zero => exact absurd (by decide) h
  | succ w => exact ⟨w, rfl⟩
theorem zo_neg {r : Option Nat} (hr : ∀ q, r = some q → q < 100000) : zo r < 0 ↔ r = none := by
  cases r with
  | none => exact ⟨fun _ => rfl, fun _ => by decide⟩
  | some q => exact ⟨fun h => absurd h (nI_pos (by have := hr q rfl; omega)), fun h => by cases h⟩
theorem zm1 {a : Nat} (h : 0 < a) : nI a + (-1) = nI (a - 1) := by
  obtain ⟨w, rfl⟩ : ∃ w, a = w + 1 := ⟨a - 1, by omega⟩
  rw [pk_m1]; rfl
theorem zrem2 : ∀ k, k < 12 → zrem (nI k) 2 = nI (k % 2) := by decide +kernel
end ZSM
/-! who is the last with its word -/
/-- none of the d behind k says k's word -/
def nl (g : zG) (k : Nat) : Nat → Bool
  | 0 => true
  | d + 1 => nl g k d && !decide (wd g (k + 1 + d) = wd g k)
/-- how many of the first k (of n) are the last with their word -/
def lw (g : zG) (n : Nat) : Nat → Nat
  | 0 => 0
  | k + 1 => if nl g k (n - 1 - k) = true then lw g n k + 1 else lw g n k
section ZLW
variable {g : zG} {n k d : Nat}
theorem nl_f (h : ¬ nl g k d = true) : ¬ nl g k (d + 1) = true := by simp [nl, h]
theorem nl_e (h : wd g (k + 1 + d) = wd g k) : ¬ nl g k (d + 1) = true := by simp [nl, h]
theorem nl_t (h : nl g k d = true) (h2 : ¬ wd g (k + 1 + d) = wd g k) : nl g k (d + 1) = true := by simp [nl, h, h2]
theorem lw_y (hd : d = n - 1 - k) (h : nl g k d = true) : lw g n (k + 1) = lw g n k + 1 := by subst hd; simp only [lw]; rw [if_pos h]
theorem lw_n (hd : d = n - 1 - k) (h : ¬ nl g k d = true) : lw g n (k + 1) = lw g n k := by subst hd; simp only [lw]; rw [if_neg h]
theorem nl_iff : ∀ d, nl g k d = true ↔ ∀ j, k < j → j < k + 1 + d → ¬ wd g j = wd g k
  | 0 => ⟨fun _ j h1 h2 => by omega, fun _ => rfl⟩
  | d + 1 => by
    have ih := nl_iff d
    constructor
    · intro h j h1 h2
      have h3 : nl g k d = true := by
        by_cases h4 : nl g k d = true
        · exact h4
        · exact absurd h (nl_f h4)
      by_cases hj : j = k + 1 + d
      · subst hj; exact fun h5 => nl_e h5 h
      · exact ih.mp h3 j h1 (by omega)
    · intro h
      exact nl_t (ih.mpr (fun j h1 h2 => h j h1 (by omega))) (h (k + 1 + d) (by omega) (by omega))
theorem nw_iff : ∀ m, nw g k m = true ↔ ∀ j, j < m → ¬ wd g j = wd g k
  | 0 => ⟨fun _ j h => absurd h (Nat.not_lt_zero _), fun _ => rfl⟩
  | m + 1 => by
    have ih := nw_iff m
    constructor
    · intro h j hj h2
      have h9 := nw_F h2 hj
      rw [h9] at h
      cases h
    · intro h
      exact nw_T (ih.mpr (fun j hj => h j (by omega))) (h m (by omega))
theorem z_last_of {P : Nat → Prop} : ∀ {N : Nat}, (∃ j, j < N ∧ P j) → ∃ j, j < N ∧ P j ∧ ∀ i, j < i → i < N → ¬ P i
  | 0, ⟨j, h, _⟩ => absurd h (Nat.not_lt_zero _)
  | N + 1, ⟨j, h, hp⟩ => by
    by_cases hN : P N
    · exact ⟨N, by omega, hN, fun i h1 h2 => by omega⟩
    · have hj : j ≠ N := fun h9 => hN (h9 ▸ hp)
      obtain ⟨j2, h1, h2, h3⟩ := z_last_of (N := N) ⟨j, by omega, hp⟩
      exact ⟨j2, by omega, h2, fun i h4 h5 => by
        by_cases hi : i = N
        · subst hi; exact hN
        · exact h3 i h4 (by omega)⟩
/-- k's word is the last of its kind among the first N + 1 just if it is among the first N, and N says another one -/
theorem nl_more {N k : Nat} (hk : k < N) : nl g k (N + 1 - 1 - k) = true ↔ nl g k (N - 1 - k) = true ∧ ¬ wd g N = wd g k := by
  rw [nl_iff, nl_iff]
  constructor
  · intro h
    exact ⟨fun j h1 h2 => h j h1 (by omega), h N (by omega) (by omega)⟩
  · rintro ⟨h1, h2⟩ j h3 h4
    by_cases hj : j = N
    · subst hj; exact h2
    · exact h1 j h3 (by omega)
theorem lw_a {N : Nat} (h : ∀ j, j < N → ¬ wd g j = wd g N) : ∀ k, k ≤ N → lw g (N + 1) k = lw g N k
  | 0, _ => rfl
  | k + 1, hk => by
    have ih := lw_a h k (by omega)
    by_cases h1 : nl g k (N - 1 - k) = true
    · rw [lw_y rfl h1, lw_y rfl ((nl_more (by omega)).mpr ⟨h1, fun h9 => h k (by omega) h9.symm⟩), ih]
    · rw [lw_n rfl h1, lw_n rfl (fun h9 => h1 ((nl_more (by omega)).mp h9).1), ih]
theorem lw_b {N j : Nat} (hj : j < N) (h : wd g j = wd g N) (hl : ∀ i, j < i → i < N → ¬ wd g i = wd g N) : ∀ k, k ≤ N → (k ≤ j → lw g (N + 1) k = lw g N k) ∧ (j < k → lw g (N + 1) k + 1 = lw g N k)
  | 0, _ => ⟨fun _ => rfl, fun h => absurd h (Nat.not_lt_zero _)⟩
  | k + 1, hk => by
    obtain ⟨i1, i2⟩ := lw_b hj h hl k (by omega)
    by_cases hw : wd g k = wd g N
    · by_cases hkj : k = j
      · subst hkj
        have h1 : nl g k (N - 1 - k) = true := (nl_iff _).mpr (fun i h1 h2 => by rw [hw]; exact hl i h1 (by omega))
        refine ⟨fun h9 => by omega, fun _ => ?_⟩
        rw [lw_y rfl h1, lw_n rfl (fun h9 => ((nl_more hj).mp h9).2 hw.symm), i1 (Nat.le_refl _)]
      · have hkj2 : k < j := by
          rcases Nat.lt_or_ge j k with h9 | h9
          · exact absurd hw (hl k h9 (by omega))
          · omega
        have h1 : ¬ nl g k (N - 1 - k) = true := fun h9 => (nl_iff _).mp h9 j hkj2 (by omega) (by rw [h, hw])
        refine ⟨fun _ => ?_, fun h9 => by omega⟩
        rw [lw_n rfl h1, lw_n rfl (fun h9 => h1 ((nl_more (by omega)).mp h9).1), i1 (by omega)]
    · have hkj : k ≠ j := fun h9 => hw (h9 ▸ h)
      by_cases h1 : nl g k (N - 1 - k) = true
      · have h2 := (nl_more (g := g) (N := N) (k := k) (by omega)).mpr ⟨h1, fun h9 => hw h9.symm⟩
        rw [lw_y rfl h1, lw_y rfl h2]
        exact ⟨fun h9 => by rw [i1 (by omega)], fun h9 => by rw [← i2 (by omega)]⟩
      · rw [lw_n rfl h1, lw_n rfl (fun h9 => h1 ((nl_more (by omega)).mp h9).1)]
        exact ⟨fun h9 => i1 (by omega), fun h9 => i2 (by omega)⟩
theorem lw_dw : ∀ N, lw g N N = dw g N
  | 0 => rfl
  | N + 1 => by
    have h0 : lw g (N + 1) (N + 1) = lw g (N + 1) N + 1 := lw_y (d := 0) (by omega) rfl
    have h1 := lw_dw N
    by_cases h : nw g N N = true
    · have h2 : dw g (N + 1) = dw g N + 1 := by simp only [dw]; rw [if_pos h]
      rw [h0, h2, lw_a ((nw_iff _).mp h) N (Nat.le_refl _), h1]
    · have h2 : dw g (N + 1) = dw g N := by simp only [dw]; rw [if_neg h]
      have h3 : ∃ j, j < N ∧ wd g j = wd g N := Classical.byContradiction fun h9 => h ((nw_iff _).mpr fun j hj h8 => h9 ⟨j, hj, h8⟩)
      obtain ⟨j, hj, h4, h5⟩ := z_last_of h3
      rw [h0, h2, (lw_b hj h4 h5 N (Nat.le_refl _)).2 hj, h1]
end ZLW
/-! the Sim's calls, as pictures -/
def zx (f : Nat → Nat) (k v : Nat) : Nat → Nat := fun j => if j = k then v else f j
theorem zx_s (f : Nat → Nat) (k v : Nat) : zx f k v k = v := if_pos rfl
theorem zx_n {f : Nat → Nat} {k v j : Nat} (h : j ≠ k) : zx f k v j = f j := if_neg h
theorem z2_at (g : zG) (w p : Nat) (x : Int32) : z2 g w p x w p = x := by rw [z2_same]; exact pk_us
theorem z2_col (g : zG) {w k p : Nat} {x : Int32} {j : Nat} (h : k ≠ w) : z2 g w p x k j = g k j := by rw [z2_ne g h]
theorem z2_row (g : zG) {w k p : Nat} {x : Int32} {j : Nat} (h : j ≠ p) : z2 g w p x k j = g k j := by
  by_cases hk : k = w
  · subst hk; rw [z2_same]; exact pk_un h
  · rw [z2_col g hk]
theorem wh_row (g : zG) {p : Nat} {w s : Int32} {k j : Nat} (h : j ≠ p) : wh g p w s k j = g k j := by
  unfold wh
  rw [z2_row _ h, z2_row _ h, z2_row _ h, z2_row _ h, z2_row _ h, z2_row _ h, z2_row _ h]
theorem wh_0 (g : zG) (p : Nat) (w s : Int32) : wh g p w s 0 p = w / 100 := by
  unfold wh
  rw [z2_col _ (by decide), z2_col _ (by decide), z2_col _ (by decide), z2_col _ (by decide), z2_col _ (by decide), z2_col _ (by decide), z2_at]
theorem wh_1 (g : zG) (p : Nat) (w s : Int32) : wh g p w s 1 p = zrem w 100 := by
  unfold wh
  rw [z2_col _ (by decide), z2_col _ (by decide), z2_col _ (by decide), z2_at]
theorem wh_2 (g : zG) (p : Nat) (w s : Int32) : wh g p w s 2 p = -1 := by
  unfold wh
  rw [z2_col _ (by decide), z2_col _ (by decide), z2_col _ (by decide), z2_col _ (by decide), z2_col _ (by decide), z2_at]
theorem wh_3 (g : zG) (p : Nat) (w s : Int32) : wh g p w s 3 p = -1 := by
  unfold wh
  rw [z2_col _ (by decide), z2_col _ (by decide), z2_at]
theorem wh_4 (g : zG) (p : Nat) (w s : Int32) : wh g p w s 4 p = 0 := by
  unfold wh
  rw [z2_col _ (by decide), z2_col _ (by decide), z2_col _ (by decide), z2_col _ (by decide), z2_at]
theorem wh_5 (g : zG) (p : Nat) (w s : Int32) : wh g p w s 5 p = 0 := by
  unfold wh
  rw [z2_col _ (by decide), z2_at]
theorem wh_6 (g : zG) (p : Nat) (w s : Int32) : wh g p w s 6 p = s := by
  unfold wh
  rw [z2_at]
theorem z_i2 {P : Nat → Prop} (h0 : P 0) (h1 : P 1) : ∀ i, i < 2 → P i := fun i hi => by
  rcases (show i = 0 ∨ i = 1 by omega) with rfl | rfl <;> assumption
/-- a bird that was told a word, as a bird of the jury's numbers -/
theorem zBw_wh {D : va_G} {cI : ClassId} {H : Heap} {a ea p : Nat} {g : zG} {w s m l : Int32} (h : va_P D vwCl (zBw cI a ea (zs1 w (zcb g 0 p) 2) (zs2 (-1) (zcb g 2 p) 2) (zs2 0 (zcb g 4 p) 2) s m l) H) : va_P D vwCl (zBw cI a ea (zcb (wh g p w s) 0 p) (zcb (wh g p w s) 2 p) (zcb (wh g p w s) 4 p) (wh g p w s 6 p) m l) H :=
  zBw_to h (z_i2 (wh_0 g p w s).symm (wh_1 g p w s).symm) (z_i2 (wh_2 g p w s).symm (wh_3 g p w s).symm) (z_i2 (wh_4 g p w s).symm (wh_5 g p w s).symm) (wh_6 g p w s).symm rfl rfl
section ZCM
variable {D : va_G} {cI cR : ClassId} {o t ar n : Nat} {B E : Nat → Nat} {me lo : Nat → Int32} {c e : Nat → Nat} {rd tk : Int32} {g : zG} {H H1 : Heap}
theorem zSp_come (hs : zSp o t n ar B E) : zSp o (t + 6) (n + 1) t (zx B n (t + 1)) (zx E n (t + 5)) := by
  obtain ⟨⟨a1, a2, a3⟩, h1, h2⟩ := hs
  refine ⟨⟨by omega, by omega, by omega⟩, fun j hj => ?_, fun i j hi hj => ?_⟩
  · by_cases h : j = n
    · subst h; rw [zx_s, zx_s]; omega
    · rw [zx_n h, zx_n h]
      have := h1 j (by omega)
      omega
  · by_cases h3 : j = n
    · subst h3
      rw [zx_s]
      by_cases h4 : i = j
      · subst h4; rw [zx_s, zx_s]; omega
      · rw [zx_n h4, zx_n h4]
        have := h1 i (by omega)
        omega
    · rw [zx_n h3]
      by_cases h4 : i = n
      · subst h4
        rw [zx_s, zx_s]
        have := h1 j (by omega)
        omega
      · rw [zx_n h4, zx_n h4]
        exact h2 i j (by omega) (by omega)
theorem zFm_come {m9 x : Int32} (hF : zFm D cI n B E me lo c e g H) (hb : va_P D vwCl (zBw cI (t + 1) (t + 5) (fun _ => 0) (fun _ => -1) (fun _ => 0) 0 m9 x) H) (he : va_P D vwCl (zAr cI (t + 5) 0 (fun _ => 0)) H) (hc : c n = 0) : zFm D cI (n + 1) (zx B n (t + 1)) (zx E n (t + 5)) (upd me n m9) (upd lo n x) c e (wh g n 0 0) H := fun j hj => by
  by_cases h : j = n
  · subst h
    unfold zBd
    rw [zx_s, zx_s, pk_us, pk_us]
    refine ⟨zBw_to hb (z_i2 (P := fun i => (0 : Int32) = zcb (wh g j 0 0) 0 j i) (by rw [zcb, wh_0]; decide) (by rw [zcb, wh_1]; decide)) (z_i2 (P := fun i => (-1 : Int32) = zcb (wh g j 0 0) 2 j i) (by rw [zcb, wh_2]) (by rw [zcb, wh_3])) (z_i2 (P := fun i => (0 : Int32) = zcb (wh g j 0 0) 4 j i) (by rw [zcb, wh_4]) (by rw [zcb, wh_5])) (wh_6 g j 0 0).symm rfl rfl, ?_⟩
    rw [hc]
    exact z_arr_ext he (fun i hi => absurd hi (Nat.not_lt_zero _))
  · unfold zBd
    rw [zx_n h, zx_n h, pk_un h, pk_un h]
    obtain ⟨k1, k2⟩ := hF j (by omega)
    exact ⟨zBw_to k1 (fun i _ => (wh_row g h).symm) (fun i _ => (wh_row g h).symm) (fun i _ => (wh_row g h).symm) (wh_row g h).symm rfl rfl, k2⟩
theorem zQ_come {k : Nat} (hQ : va_P D vwCl (zQr cR t (n + 1) (va_up (zbf k B) n (some (t + 1)))) H) (hk : n = k) : va_P D vwCl (zQr cR t (n + 1) (zbf (n + 1) (zx B n (t + 1)))) H :=
  zQ_ext hQ (fun j hj => by
    subst hk
    rw [zbf_in hj]
    by_cases h : j = n
    · subst h; rw [va_up_self, zx_s]
    · rw [va_up_ne _ _ h, zx_n h, zbf_in (by omega)])
/-- bird p has other ears -/
theorem zFm_ears {c1 e1 : Nat → Nat} {p : Nat} (hs : zSp o t n ar B E) (h : zFm D cI n B E me lo c e g H) (hp : p < n) (hb : va_P D vwCl (zBw cI (B p) t (zcb g 0 p) (zcb g 2 p) (zcb g 4 p) (g 6 p) (me p) (lo p)) H1) (he : va_P D vwCl (zAr cI t (c1 p) (zer e1 p)) H1) (hf : ∀ q, q < H.size → q ≠ B p → H1[q]? = H[q]?)
    (hc : ∀ j, j ≠ p → c1 j = c j ∧ ∀ k, k < c j → e1 (j * 4 + k) = e (j * 4 + k)) : zFm D cI n B (zx E p t) me lo c1 e1 g H1 := fun j hj => by
  obtain ⟨h5, h6⟩ := hs.2.2 j p hj hp
  by_cases hjp : j = p
  · subst hjp
    unfold zBd
    rw [zx_s]
    exact ⟨hb, he⟩
  · have h7 := h5 hjp
    obtain ⟨k1, k2⟩ := zBd_kept (H1 := H1) (h j hj) (fun q hq h9 => hf q hq (by omega))
    obtain ⟨x1, x2⟩ := hc j hjp
    unfold zBd
    rw [zx_n hjp, x1]
    exact ⟨k1, z_arr_ext k2 (fun k hk => by show nI _ = nI _; rw [x2 k hk])⟩
theorem zSp_ears {p : Nat} (hs : zSp o t n ar B E) (hp : p < n) : zSp o (t + 1) n ar B (zx E p t) := by
  obtain ⟨⟨a1, a2, a3⟩, h1, h2⟩ := hs
  refine ⟨⟨a1, by omega, by omega⟩, fun j hj => ?_, fun i j hi hj => ?_⟩
  · have := h1 j hj
    by_cases h : j = p
    · subst h; rw [zx_s]; omega
    · rw [zx_n h]; omega
  · have h3 := h2 i j hi hj
    have h4 := h1 j hj
    by_cases h : i = p
    · subst h; rw [zx_s]; exact ⟨h3.1, by omega⟩
    · rw [zx_n h]; exact h3
theorem zSp_mono {t1 : Nat} (hs : zSp o t n ar B E) (h : t ≤ t1) : zSp o t1 n ar B E := by
  obtain ⟨⟨a1, a2, a3⟩, h1, h2⟩ := hs
  refine ⟨⟨a1, by omega, by omega⟩, fun j hj => ?_, h2⟩
  have := h1 j hj
  omega
end ZCM
theorem zcp_v {h h0 : Nat → Int32} {i : Nat} {x : Int32} (hx : x = h i) (j : Nat) : upd (zcp h h0 i) i x j = zcp h h0 (i + 1) j := by subst hx; exact zcp_s j
theorem zcp_all {h h0 : Nat → Int32} {i j : Nat} (hj : j < i) : zcp h h0 i j = h j := if_pos hj
theorem zla_in {e : Nat → Nat} {p i k x : Nat} (h : i < k) : nI (e (p * 4 + i)) = zer (zu e (p * 4 + k) x) p i := by
  show nI _ = nI _
  simp only [zu]
  rw [if_neg (by omega)]
theorem zla_new {e : Nat → Nat} {p i k x : Nat} (h : i = k) : nI x = zer (zu e (p * 4 + k) x) p i := by
  subst h
  show nI _ = nI _
  simp [zu]
theorem zld_lo {e : Nat → Nat} {p i k m : Nat} (h : i < k) : nI (e (p * 4 + i)) = zer (zdr e p k m) p i := by
  show nI _ = nI _
  simp only [zdr]
  rw [if_neg (by omega)]
theorem zld_hi {e : Nat → Nat} {p i k m : Nat} (h : k ≤ i) (h2 : i < m) : nI (e (p * 4 + (i + 1))) = zer (zdr e p k m) p i := by
  show nI _ = nI _
  simp only [zdr]
  rw [if_pos (by omega)]
  rfl
