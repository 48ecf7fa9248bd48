/-! jury and Sim as one, with the parrots from k on that were told nothing yet -/
def zLw (D : va_G) (cI cR : ClassId) (b o n k : Nat) (H : Heap) : Prop :=
  ∃ (ar : Nat) (B E : Nat → Nat) (me lo : Nat → Int32) (c e : Nat → Nat) (rd tk : Int32) (g : zG), zSm D cI cR o H.size ar n B E me lo c e rd tk g H ∧ zCW D cI b n me lo c e rd tk g H ∧ zI n me lo c e ∧ zJ n g ∧ zV n g ∧ zNs c e ∧ ∀ j, k ≤ j → j < n → g 0 j = 0 ∧ g 1 j = 0
theorem zLw_s {D : va_G} {cI cR : ClassId} {b o n k : Nat} {H : Heap} (h : zLw D cI cR b o n k H) : zLs D cI cR b o n H := by
  obtain ⟨ar, B, E, me, lo, c, e, rd, tk, g, h1, h2, h3, h4, h5, h6, -⟩ := h
  exact ⟨ar, B, E, me, lo, c, e, rd, tk, g, h1, h2, h3, h4, h5, h6⟩
theorem zLw_0 {D : va_G} {cI cR : ClassId} {b o : Nat} {H : Heap} (hO : va_P D vwCl [(o, .inr (6, [.ref (o + 1), .int 0, .int 0]))] H) (hQ : va_P D vwCl (zQr cR (o + 1) 0 (fun _ => none)) H) (hC : zCW D cI b 0 (fun _ => 0) (fun _ => 0) (fun _ => 0) (fun _ => 0) 0 0 (fun _ _ => 0) H) (hsz : H.size = o + 2) : zLw D cI cR b o 0 0 H :=
  ⟨o + 1, fun _ => 0, fun _ => 0, fun _ => 0, fun _ => 0, fun _ => 0, fun _ => 0, 0, 0, fun _ _ => 0,
    ⟨hO, by rw [zbf_0]; exact hQ, fun j hj => absurd hj (Nat.not_lt_zero _), ⟨by omega, by omega, by omega⟩, fun j hj => absurd hj (Nat.not_lt_zero _), fun i j hi => absurd hi (Nat.not_lt_zero _)⟩, hC,
    ⟨by omega, fun p hp => absurd hp (Nat.not_lt_zero _), fun _ _ => rfl⟩, fun p hp => absurd hp (Nat.not_lt_zero _), fun p hp => absurd hp (Nat.not_lt_zero _), fun p k hk => absurd hk (Nat.not_lt_zero _), fun j _ hj => absurd hj (Nat.not_lt_zero _)⟩
section ZLW2
variable {n k : Nat} {g : zG}
theorem zw_come (h : ∀ j, 0 ≤ j → j < n → g 0 j = 0 ∧ g 1 j = 0) : ∀ j, 0 ≤ j → j < n + 1 → wh g n 0 0 0 j = 0 ∧ wh g n 0 0 1 j = 0 := fun j h0 hj => by
  by_cases hjn : j = n
  · subst hjn; rw [wh_0, wh_1]; decide
  · rw [wh_row g hjn, wh_row g hjn]; exact h j h0 (by omega)
theorem zw_next (h : ∀ j, k ≤ j → j < n → g 0 j = 0 ∧ g 1 j = 0) : ∀ j, k + 1 ≤ j → j < n → g 0 j = 0 ∧ g 1 j = 0 := fun j h0 hj => h j (by omega) hj
theorem zw_wh {x y : Int32} (h : ∀ j, k ≤ j → j < n → g 0 j = 0 ∧ g 1 j = 0) : ∀ j, k + 1 ≤ j → j < n → wh g k x y 0 j = 0 ∧ wh g k x y 1 j = 0 := fun j h0 hj => by
  rw [wh_row g (by omega), wh_row g (by omega)]; exact h j (by omega) hj
theorem zw_0 (h : ∀ j, k ≤ j → j < n → g 0 j = 0 ∧ g 1 j = 0) (hk : k < n) : wd g k = 0 := by
  obtain ⟨h1, h2⟩ := h k (Nat.le_refl _) hk
  unfold wd; rw [h1, h2]; decide
end ZLW2
theorem zq_ne {p r n1 : Nat} (hp : p < 1 + n1) (hr : r < n1) : ¬ p = (p + 1 + r) % (1 + n1) := by
  rcases Nat.lt_or_ge (p + 1 + r) (1 + n1) with h | h
  · rw [Nat.mod_eq_of_lt h]; omega
  · rw [Nat.mod_eq_sub_mod h, Nat.mod_eq_of_lt (by omega)]; omega
