/-! what a new object holds -/
theorem zOb_c {a : Nat} {x : va_E} : zC a [(a, x)] := zC_cons zC_nil
theorem zOb_kept {D : va_G} {H H1 : Heap} {a : Nat} {x : va_E} (h : va_P D vwCl [(a, x)] H) (hf : ∀ q, q < H.size → a ≤ q → q < a + 1 → H1[q]? = H[q]?) : va_P D vwCl [(a, x)] H1 := z_kept zOb_c h hf
theorem jf_0 : jf (fun _ _ => 0) (fun _ => 0) (fun _ => 0) (fun _ => 0) = fun _ => 0 := by
  funext q
  simp only [jf, jc]
  by_cases h7 : q % 10 = 7
  · rw [if_pos h7]
  · rw [if_neg h7]
    by_cases h8 : q % 10 = 8
    · rw [if_pos h8]
    · rw [if_neg h8]
      by_cases h9 : q % 10 = 9
      · rw [if_pos h9]; rfl
      · rw [if_neg h9]
theorem nm_00 : ∀ j, j < 2 → upd (upd (fun _ => 0) 0 0) 1 0 j = nm 0 0 j := fun j hj => by
  rcases (show j = 0 ∨ j = 1 by omega) with rfl | rfl
  · simp [upd, nm]
  · simp [upd, nm]
