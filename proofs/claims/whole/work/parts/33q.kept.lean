/-! an array of arrays alone, and three cells together -/
theorem zQ1_kept {D : va_G} {cR : ClassId} {H H1 : Heap} {a n : Nat} {f : Nat → Option Nat} (h : va_P D vwCl [(a, zQa cR n f)] H) (hf : ∀ q, q < H.size → a ≤ q → q < a + 1 → H1[q]? = H[q]?) : va_P D vwCl [(a, zQa cR n f)] H1 := z_kept (zC_cons zC_nil) h hf
theorem zKp_of {D : va_G} {cI cR : ClassId} {H : Heap} {a : Nat} {J Nm : Nat → Int32} (hQ : va_P D vwCl [(a, zQa cR 2 (va_up (va_up (fun _ => none) 0 (some (a + 1))) 1 (some (a + 2))))] H) (h1 : va_P D vwCl (zAr cI (a + 1) 120 J) H) (h2 : va_P D vwCl (zAr cI (a + 2) 2 Nm) H) : va_P D vwCl (zKp cI cR a J Nm) H := by
  intro j q hj
  match j, hj with
  | 0, h => cases h; exact hQ 0 _ rfl
  | 1, h => cases h; exact h1 0 _ rfl
  | 2, h => cases h; exact h2 0 _ rfl
  | k + 3, h => simp at h
