/-! the reference's rows of numbers, in the numbers of 12.math -/
/-- column w of parrot p: 7 its memory, 8 how loud, 9 to how many it listens -/
def jc (g : zG) (me lo : Nat → Int32) (c : Nat → Nat) (w p : Nat) : Int32 := if w = 7 then me p else if w = 8 then lo p else if w = 9 then nI (c p) else g w p
def jf (g : zG) (me lo : Nat → Int32) (c : Nat → Nat) : Nat → Int32 := fun q => jc g me lo c (q % 10) (q / 10)
def nm (rd tk : Int32) : Nat → Int32 := fun q => if q = 0 then rd else tk
section ZM
variable {g : zG} {me lo : Nat → Int32} {c e : Nat → Nat}
theorem jf_at {p w : Nat} (hw : w < 10) : jf g me lo c (p * 10 + w) = jc g me lo c w p := by
  simp only [jf]
  rw [show (p * 10 + w) % 10 = w by omega, show (p * 10 + w) / 10 = p by omega]
theorem jf_g {p w : Nat} (hw : w < 7) : jf g me lo c (p * 10 + w) = g w p := by
  rw [jf_at (by omega)]
  simp only [jc]
  rw [if_neg (by omega), if_neg (by omega), if_neg (by omega)]
theorem jf_7 {p : Nat} : jf g me lo c (p * 10 + 7) = me p := by rw [jf_at (by omega)]; rfl
theorem jf_8 {p : Nat} : jf g me lo c (p * 10 + 8) = lo p := by rw [jf_at (by omega)]; rfl
theorem jf_9 {p : Nat} : jf g me lo c (p * 10 + 9) = nI (c p) := by rw [jf_at (by omega)]; rfl
theorem jf_z2 {p w : Nat} {x : Int32} (hw : w < 7) : upd (jf g me lo c) (p * 10 + w) x = jf (z2 g w p x) me lo c := by
  funext q
  simp only [upd, jf, jc]
  by_cases h : q = p * 10 + w
  · subst h
    rw [if_pos rfl, show (p * 10 + w) % 10 = w by omega, show (p * 10 + w) / 10 = p by omega, if_neg (by omega), if_neg (by omega), if_neg (by omega)]
    simp [z2, upd]
  · rw [if_neg h]
    by_cases h7 : q % 10 = 7
    · rw [if_pos h7, if_pos h7]
    · rw [if_neg h7, if_neg h7]
      by_cases h8 : q % 10 = 8
      · rw [if_pos h8, if_pos h8]
      · rw [if_neg h8, if_neg h8]
        by_cases h9 : q % 10 = 9
        · rw [if_pos h9, if_pos h9]
        · rw [if_neg h9, if_neg h9]
          by_cases hww : q % 10 = w
          · rw [hww]
            have hp : ¬ q / 10 = p := by omega
            simp [z2, upd, hp]
          · rw [z2_ne g hww]
theorem jf_lo {p : Nat} {x : Int32} : upd (jf g me lo c) (p * 10 + 8) x = jf g me (upd lo p x) c := by
  funext q
  simp only [upd, jf, jc]
  by_cases h : q = p * 10 + 8
  · subst h
    rw [if_pos rfl, show (p * 10 + 8) % 10 = 8 by omega, show (p * 10 + 8) / 10 = p by omega]
    simp
  · rw [if_neg h]
    by_cases h8 : q % 10 = 8
    · have hp : ¬ q / 10 = p := by omega
      simp [h8, hp]
    · simp [h8]
theorem jf_c {p k : Nat} : upd (jf g me lo c) (p * 10 + 9) (nI k) = jf g me lo (zu c p k) := by
  funext q
  simp only [upd, jf, jc, zu]
  by_cases h : q = p * 10 + 9
  · subst h
    rw [if_pos rfl, show (p * 10 + 9) % 10 = 9 by omega, show (p * 10 + 9) / 10 = p by omega]
    simp
  · rw [if_neg h]
    by_cases h9 : q % 10 = 9
    · have hp : ¬ q / 10 = p := by omega
      simp [h9, hp]
    · simp [h9]
theorem nm_0 {rd tk x : Int32} : upd (nm rd tk) 0 x = nm x tk := by
  funext q
  by_cases h : q = 0
  · simp [upd, nm, h]
  · simp [upd, nm, h]
theorem nm_1 {rd tk x : Int32} : ∀ j, j < 2 → upd (nm rd tk) 1 x j = nm rd x j := fun j hj => by
  rcases (show j = 0 ∨ j = 1 by omega) with rfl | rfl
  · simp [upd, nm]
  · simp [upd, nm]
/-- what 'say' copies into the row of p -/
theorem jf_say {p : Nat} {w s : Int32} {f : Nat → Int32} (h0 : f 0 = w / 100) (h1 : f 1 = zrem w 100) (h2 : f 2 = -1) (h3 : f 3 = -1) (h4 : f 4 = 0) (h5 : f 5 = 0) (h6 : f 6 = s) :
    va_cpy f (jf g me lo c) 0 (p * 10) 7 = jf (wh g p w s) me lo c := by
  funext q
  by_cases h : p * 10 ≤ q ∧ q < p * 10 + 7
  · rw [pk_cpy_in h.1 h.2, show 0 + (q - p * 10) = q - p * 10 by omega]
    obtain ⟨r, hr, rfl⟩ : ∃ r, r < 7 ∧ q = p * 10 + r := ⟨q - p * 10, by omega, by omega⟩
    rw [show p * 10 + r - p * 10 = r by omega, jf_g (by omega)]
    rcases (show r = 0 ∨ r = 1 ∨ r = 2 ∨ r = 3 ∨ r = 4 ∨ r = 5 ∨ r = 6 by omega) with rfl | rfl | rfl | rfl | rfl | rfl | rfl
    · rw [h0]; simp [wh, z2, upd]
    · rw [h1]; simp [wh, z2, upd]
    · rw [h2]; simp [wh, z2, upd]
    · rw [h3]; simp [wh, z2, upd]
    · rw [h4]; simp [wh, z2, upd]
    · rw [h5]; simp [wh, z2, upd]
    · rw [h6]; simp [wh, z2, upd]
  · rw [pk_cpy_out (by omega)]
    simp only [jf, jc]
    by_cases h7 : q % 10 = 7
    · rw [if_pos h7, if_pos h7]
    · rw [if_neg h7, if_neg h7]
      by_cases h8 : q % 10 = 8
      · rw [if_pos h8, if_pos h8]
      · rw [if_neg h8, if_neg h8]
        by_cases h9 : q % 10 = 9
        · rw [if_pos h9, if_pos h9]
        · rw [if_neg h9, if_neg h9]
          have hp : ¬ q / 10 = p := by omega
          obtain ⟨r, hr⟩ : ∃ r, r = q % 10 := ⟨_, rfl⟩
          rw [← hr]
          rcases (show r = 0 ∨ r = 1 ∨ r = 2 ∨ r = 3 ∨ r = 4 ∨ r = 5 ∨ r = 6 by omega) with h | h | h | h | h | h | h <;> (subst h; simp [wh, z2, upd, hp])
/-- what 'come' copies into the row of n -/
theorem jf_come {n : Nat} {m x : Int32} {f : Nat → Int32} (hc : c n = 0) (h0 : f 0 = 0) (h1 : f 1 = 0) (h2 : f 2 = -1) (h3 : f 3 = -1) (h4 : f 4 = 0) (h5 : f 5 = 0) (h6 : f 6 = 0) (h7 : f 7 = m) (h8 : f 8 = x) (h9 : f 9 = 0) :
    va_cpy f (jf g me lo c) 0 (n * 10) 10 = jf (wh g n 0 0) (upd me n m) (upd lo n x) c := by
  funext q
  by_cases h : n * 10 ≤ q ∧ q < n * 10 + 10
  · rw [pk_cpy_in h.1 h.2, show 0 + (q - n * 10) = q - n * 10 by omega]
    obtain ⟨r, hr, rfl⟩ : ∃ r, r < 10 ∧ q = n * 10 + r := ⟨q - n * 10, by omega, by omega⟩
    rw [show n * 10 + r - n * 10 = r by omega, jf_at hr]
    have e0 : (0 : Int32) / 100 = 0 := by decide
    have e1 : zrem (0 : Int32) 100 = 0 := by decide
    rcases (show r = 0 ∨ r = 1 ∨ r = 2 ∨ r = 3 ∨ r = 4 ∨ r = 5 ∨ r = 6 ∨ r = 7 ∨ r = 8 ∨ r = 9 by omega) with rfl | rfl | rfl | rfl | rfl | rfl | rfl | rfl | rfl | rfl
    · rw [h0]; simp [jc, wh, z2, upd, e0]
    · rw [h1]; simp [jc, wh, z2, upd, e1]
    · rw [h2]; simp [jc, wh, z2, upd]
    · rw [h3]; simp [jc, wh, z2, upd]
    · rw [h4]; simp [jc, wh, z2, upd]
    · rw [h5]; simp [jc, wh, z2, upd]
    · rw [h6]; simp [jc, wh, z2, upd]
    · rw [h7]; simp [jc, upd]
    · rw [h8]; simp [jc, upd]
    · rw [h9]; simp [jc, hc]; rfl
  · rw [pk_cpy_out (by omega)]
    have hp : ¬ q / 10 = n := by omega
    simp only [jf, jc]
    by_cases h7 : q % 10 = 7
    · rw [if_pos h7, if_pos h7]; simp [upd, hp]
    · rw [if_neg h7, if_neg h7]
      by_cases h8 : q % 10 = 8
      · rw [if_pos h8, if_pos h8]; simp [upd, hp]
      · rw [if_neg h8, if_neg h8]
        by_cases h9 : q % 10 = 9
        · rw [if_pos h9, if_pos h9]
        · rw [if_neg h9, if_neg h9]
          obtain ⟨r, hr⟩ : ∃ r, r = q % 10 := ⟨_, rfl⟩
          rw [← hr]
          rcases (show r = 0 ∨ r = 1 ∨ r = 2 ∨ r = 3 ∨ r = 4 ∨ r = 5 ∨ r = 6 by omega) with h | h | h | h | h | h | h <;> (subst h; simp [wh, z2, upd, hp])
theorem zn_cpy {p a m : Nat} (h1 : a < m) : va_cpy (zn e) (zn e) (p * 4 + a + 1) (p * 4 + a) (m - a - 1) = zn (zdr e p a (m - 1)) := by
  funext q
  simp only [zn, zdr]
  by_cases h : p * 4 + a ≤ q ∧ q < p * 4 + (m - 1)
  · rw [pk_cpy_in h.1 (by omega), if_pos h, show p * 4 + a + 1 + (q - (p * 4 + a)) = q + 1 by omega]; rfl
  · rw [pk_cpy_out (by omega), if_neg h]; rfl
end ZM
theorem zmin_comm (a b : Int32) : zmin a b = zmin b a := by
  simp only [zmin]
  by_cases h : b < a
  · rw [if_pos h, if_neg (fun h2 => Int32.lt_irrefl (Int32.lt_trans h h2))]
  · rw [if_neg h]
    by_cases h2 : a < b
    · rw [if_pos h2]
    · rw [if_neg h2]; exact Int32.le_antisymm (Int32.not_lt.mp h) (Int32.not_lt.mp h2)
theorem zmax_comm (a b : Int32) : zmax a b = zmax b a := by
  simp only [zmax]
  by_cases h : a < b
  · rw [if_pos h, if_neg (fun h2 => Int32.lt_irrefl (Int32.lt_trans h h2))]
  · rw [if_neg h]
    by_cases h2 : b < a
    · rw [if_pos h2]
    · rw [if_neg h2]; exact Int32.le_antisymm (Int32.not_lt.mp h2) (Int32.not_lt.mp h)
theorem z_isP {x : Int32} {n : Nat} (hn : n ≤ 12) : (0 ≤ x ∧ x ≤ nI n - 1) ↔ ∃ j, j < n ∧ x = nI j := by
  constructor
  · intro ⟨h1, h2⟩
    obtain ⟨j, hj, rfl⟩ := nI_of (Int32.not_lt.mpr h1)
    refine ⟨j, ?_, rfl⟩
    cases n with
    | zero =>
      have h3 : nI j ≤ nI 0 - 1 := h2
      have e1 : (nI 0 - 1 : Int32) = -1 := by decide
      rw [e1] at h3
      have h4 : nI j < 0 := Int32.lt_of_le_of_lt h3 (by decide)
      exact absurd h4 (nI_pos hj)
    | succ k =>
      rw [nI_pred] at h2
      have := (nI_leI hj (by omega)).mp h2
      omega
  · rintro ⟨j, hj, rfl⟩
    obtain ⟨k, rfl⟩ : ∃ k, n = k + 1 := ⟨n - 1, by omega⟩
    rw [nI_pred]
    exact ⟨nI_pos' (by omega), nI_le (by omega) (by omega)⟩
theorem z_in {q a b : Nat} (h1 : a ≤ q) (h2 : q ≤ b) (hb : b < 2147483648) : nI a ≤ nI q ∧ nI q ≤ nI b := ⟨nI_le h1 (by omega), nI_le h2 hb⟩
theorem z_isIn {x a b : Int32} : ¬ (a ≤ x ∧ x ≤ b) ↔ (x < a ∨ ¬ x ≤ b) := by
  constructor
  · intro h
    by_cases h1 : x < a
    · exact Or.inl h1
    · exact Or.inr (fun h2 => h ⟨Int32.not_lt.mp h1, h2⟩)
  · rintro (h | h) ⟨h1, h2⟩
    · exact absurd h (Int32.not_lt.mpr h1)
    · exact h h2
theorem hd_n {lo : Nat → Int32} {e : Nat → Nat} {p k : Nat} (h : hd lo e p k = none) : hd lo e p (k + 1) = some (e (p * 4 + k)) := by simp only [hd, h]
theorem hd_le {lo : Nat → Int32} {e : Nat → Nat} {p k o : Nat} (h : hd lo e p k = some o) (h2 : lo (e (p * 4 + k)) ≤ lo o) : hd lo e p (k + 1) = hd lo e p k := by simp only [hd, h]; rw [if_neg (Int32.not_lt.mpr h2)]
theorem hd_gt {lo : Nat → Int32} {e : Nat → Nat} {p k o : Nat} (h : hd lo e p k = some o) (h2 : ¬ lo (e (p * 4 + k)) ≤ lo o) : hd lo e p (k + 1) = some (e (p * 4 + k)) := by simp only [hd, h]; rw [if_pos (Int32.not_le.mp h2)]
