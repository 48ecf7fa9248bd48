/-! facts of numbers that the walks of Seats and Talk use -/
section ZL
variable {n : Nat} {me lo : Nat → Int32} {c e : Nat → Nat}
theorem zI_n (h : zI n me lo c e) : n ≤ 12 := h.1
theorem zI_c (h : zI n me lo c e) (p : Nat) : c p ≤ 4 := by
  by_cases hp : p < n
  · exact (h.2.1 p hp).1
  · rw [h.2.2 p (by omega)]; omega
theorem zI_p (h : zI n me lo c e) {p k : Nat} (hk : k < c p) : p < n := by
  by_cases hp : p < n
  · exact hp
  · rw [h.2.2 p (by omega)] at hk; omega
theorem zI_e (h : zI n me lo c e) {p k : Nat} (hk : k < c p) : e (p * 4 + k) < n := (h.2.1 p (zI_p h hk)).2.1 k hk
theorem zI_lo (h : zI n me lo c e) {p : Nat} (hp : p < n) : ¬ lo p ≤ 0 := by
  obtain ⟨j, h1, h2, h3⟩ := (h.2.1 p hp).2.2.2
  rw [h3]; exact nI_nle (by omega) (by omega)
theorem zI_span (h : zI n me lo c e) {p : Nat} (hp : p < n) : ¬ me p + 1 ≤ 0 := by
  obtain ⟨j, h1, h2, h3⟩ := (h.2.1 p hp).2.2.1
  rw [h3, nI_1]; exact nI_nle (by omega) (by omega)
theorem zI_span0 (h : zI n me lo c e) {p : Nat} (hp : p < n) : ¬ me p + 1 = 0 := by
  obtain ⟨j, h1, h2, h3⟩ := (h.2.1 p hp).2.2.1
  rw [h3, nI_1]; exact nI_ne0 (by omega) (by omega)
theorem hd_lt {q : Nat} : ∀ {k p : Nat}, hd lo e p k = some q → ∃ j, j < k ∧ e (p * 4 + j) = q
  | 0, p, h => by simp [hd] at h
  | k + 1, p, h => by
    cases hq : hd lo e p k with
    | none =>
      simp only [hd, hq] at h
      cases h
      exact ⟨k, by omega, rfl⟩
    | some b =>
      simp only [hd, hq] at h
      by_cases h2 : lo b < lo (e (p * 4 + k))
      · rw [if_pos h2] at h; cases h; exact ⟨k, by omega, rfl⟩
      · rw [if_neg h2] at h; cases h
        obtain ⟨j, hj, he⟩ := hd_lt hq
        exact ⟨j, by omega, he⟩
theorem zI_hd (h : zI n me lo c e) {p o : Nat} (ho : hd lo e p (c p) = some o) : o < n := by
  obtain ⟨j, hj, he⟩ := hd_lt ho
  rw [← he]; exact zI_e h hj
def zlo (lo : Nat → Int32) : Option Nat → Int32
  | none => 0
  | some b => lo b
theorem zhd_le {p k : Nat} (h : lo (e (p * 4 + k)) ≤ zlo lo (hd lo e p k)) (h0 : ¬ lo (e (p * 4 + k)) ≤ 0) : hd lo e p (k + 1) = hd lo e p k := by
  cases hq : hd lo e p k with
  | none => rw [hq] at h; exact absurd h h0
  | some b =>
    rw [hq] at h
    have h9 : lo (e (p * 4 + k)) ≤ lo b := h
    simp only [hd, hq]
    rw [if_neg (Int32.not_lt.mpr h9)]
theorem zhd_gt {p k : Nat} (h : ¬ lo (e (p * 4 + k)) ≤ zlo lo (hd lo e p k)) : hd lo e p (k + 1) = some (e (p * 4 + k)) := by
  cases hq : hd lo e p k with
  | none => simp only [hd, hq]
  | some b =>
    rw [hq] at h
    have h9 : ¬ lo (e (p * 4 + k)) ≤ lo b := h
    simp only [hd, hq]
    rw [if_pos (Int32.not_le.mp h9)]
theorem zhA_n {g0 : zG} {s : Int32 × zG} {k : Nat} (h : hd lo e k (c k) = none) : hA lo c e g0 s (k + 1) = hA lo c e g0 s k := by simp only [hA, stH, h]
theorem zhA_s {g0 : zG} {s : Int32 × zG} {k o : Nat} (h : hd lo e k (c k) = some o) : hA lo c e g0 s (k + 1) = stB g0 k o (hA lo c e g0 s k) := by simp only [hA, stH, h]
theorem zfA_n {rd : Int32} {g : zG} {k : Nat} (h : ¬ zrem rd (me k + 1) = 0) : fA rd me g (k + 1) = fA rd me g k := by simp only [fA, stF]; rw [if_neg h]
theorem zfA_y {rd : Int32} {g : zG} {k : Nat} (h : zrem rd (me k + 1) = 0) : fA rd me g (k + 1) = z2 (fA rd me g k) 6 k (zmax (fA rd me g k 6 k - 1) 0) := by simp only [fA, stF]; rw [if_pos h]
end ZL
/-- e with the places from a to m of p's ears moved up by one -/
def zdr (e : Nat → Nat) (p a m : Nat) : Nat → Nat := fun q => if p * 4 + a ≤ q ∧ q < p * 4 + m then e (q + 1) else e q
theorem zdr_0 (e : Nat → Nat) (p a : Nat) : zdr e p a a = e := by
  funext q
  simp only [zdr]
  rw [if_neg (by omega)]
theorem zdr_s {e : Nat → Nat} {p a k : Nat} (h : a ≤ k) : zu (zdr e p a k) (p * 4 + k) (zdr e p a k (p * 4 + (k + 1))) = zdr e p a (k + 1) := by
  funext q
  simp only [zu, zdr]
  by_cases h1 : q = p * 4 + k
  · subst h1
    rw [if_pos rfl, if_neg (by omega), if_pos (by omega)]
    rfl
  · rw [if_neg h1]
    by_cases h2 : p * 4 + a ≤ q ∧ q < p * 4 + k
    · rw [if_pos h2, if_pos (by omega)]
    · rw [if_neg h2, if_neg (by omega)]
theorem z_par : ∀ p : Nat, p < 12 → ((nI p &&& 1 = 1 ↔ p % 2 = 1)) := by decide +kernel
theorem z_par1 {p : Nat} (h : nI p &&& 1 = 1) (hp : p < 12) : p % 2 = 1 := (z_par p hp).mp h
theorem z_par0 {p : Nat} (h : ¬ nI p &&& 1 = 1) (hp : p < 12) : p % 2 = 0 := by
  have h3 : ¬ p % 2 = 1 := fun h2 => h ((z_par p hp).mpr h2)
  omega
