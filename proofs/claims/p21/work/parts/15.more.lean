/-! more of worlds -/
def zu (f : Nat → Nat) (k x : Nat) : Nat → Nat := fun j => if j = k then x else f j
theorem zn_u (f : Nat → Nat) (k x : Nat) : upd (zn f) k (nI x) = zn (zu f k x) := zn_upd f k x
theorem z7 {P : Nat → Prop} (h0 : P 0) (h1 : P 1) (h2 : P 2) (h3 : P 3) (h4 : P 4) (h5 : P 5) (h6 : P 6) : ∀ k, k < 7 → P k := fun k hk => by
  rcases (show k = 0 ∨ k = 1 ∨ k = 2 ∨ k = 3 ∨ k = 4 ∨ k = 5 ∨ k = 6 by omega) with rfl | rfl | rfl | rfl | rfl | rfl | rfl <;> assumption
section ZV
variable {D : va_G} {cI : ClassId} {H H1 : Heap}
theorem zT_hF {b p : Nat} {rd tk x y z : Int32} {g : zG} (h : va_P D vwCl (zTalk cI b rd tk g) H) (hr : va_P D vwCl (zHalves cI (b + 3) (upd (g 0) p x) (upd (g 2) p y) (upd (g 4) p z)) H1) (hf : ∀ q, q < H.size → ¬ zF (b + 3) (b + 10) q → H1[q]? = H[q]?) : va_P D vwCl (zTalk cI b rd tk (z2 (z2 (z2 g 0 p x) 2 p y) 4 p z)) H1 :=
  zT_to (zT_subF h hr hf) rfl rfl (z7 rfl rfl rfl rfl rfl rfl rfl)
theorem zT_hL {b p : Nat} {rd tk x y z : Int32} {g : zG} (h : va_P D vwCl (zTalk cI b rd tk g) H) (hr : va_P D vwCl (zHalves cI (b + 10) (upd (g 1) p x) (upd (g 3) p y) (upd (g 5) p z)) H1) (hf : ∀ q, q < H.size → ¬ zF (b + 10) (b + 17) q → H1[q]? = H[q]?) : va_P D vwCl (zTalk cI b rd tk (z2 (z2 (z2 g 1 p x) 3 p y) 5 p z)) H1 :=
  zT_to (zT_subL h hr hf) rfl rfl (z7 rfl rfl rfl rfl rfl rfl rfl)
end ZV
theorem zd_po {e : Nat → Nat} {p o : Nat} {j : Nat} : ∀ {k m : Nat}, po e p o k = some j → k ≤ m → po e p o m = some j
  | k, 0, h, hm => by
    have : k = 0 := by omega
    subst this; exact h
  | k, m + 1, h, hm => by
    by_cases hk : k = m + 1
    · subst hk; exact h
    · have := zd_po (k := k) (m := m) h (by omega)
      simp only [po, this]
theorem zd_poS {e : Nat → Nat} {p o k : Nat} (h : po e p o k = none) (h2 : e (p * 4 + k) = o) : po e p o (k + 1) = some k := by simp only [po, h]; rw [if_pos h2]
theorem zd_poN {e : Nat → Nat} {p o k : Nat} (h : po e p o k = none) (h2 : ¬ e (p * 4 + k) = o) : po e p o (k + 1) = none := by simp only [po, h]; rw [if_neg h2]
theorem zd_po_lt {e : Nat → Nat} {p o j : Nat} : ∀ {k : Nat}, po e p o k = some j → j < k ∧ e (p * 4 + j) = o
  | 0, h => by simp [po] at h
  | k + 1, h => by
    cases hq : po e p o k with
    | some i =>
      simp only [po, hq] at h
      cases h
      have := zd_po_lt hq
      exact ⟨by omega, this.2⟩
    | none =>
      simp only [po, hq] at h
      by_cases h2 : e (p * 4 + k) = o
      · rw [if_pos h2] at h; cases h; exact ⟨by omega, h2⟩
      · rw [if_neg h2] at h; cases h
theorem zo_m1 {r : Option Nat} (hr : ∀ q, r = some q → q < 100000) : zo r = -1 ↔ r = none := by
  cases r with
  | none => simp [zo]
  | some q =>
    have hq := hr q rfl
    constructor
    · intro h
      have h2 : nI q = -1 := h
      exact absurd (by rw [h2]; decide : nI q < 0) (nI_pos (by omega))
    · intro h; cases h
theorem zmin_id (x : Int32) : zmin x x = x := by simp [zmin]
