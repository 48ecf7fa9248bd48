/-! the reference's closure, one parrot's step; its two halves mixed -/
section ZC
variable {c e : Nat → Nat} {Y : Int32} {q j : Nat}
theorem fp_in {X : Int32} (hj : j = 0 ∨ bt X q = true) (h : bt (X ||| os e q j) q = true) : bt X q = true := by
  rcases hj with rfl | h2
  · rw [os_0] at h; exact h
  · exact h2
theorem fp_A (hq : q < 12) (hj : j = 0 ∨ bt (fp c e Y q) q = true) (hc : c q = j) : fp c e Y q ||| os e q j = fp c e Y (q + 1) := by
  by_cases h : bt (fp c e Y q) q = true
  · rw [fp_y hq h, hc]
  · rcases hj with h0 | h2
    · rw [fp_n hq h, h0, os_0]
    · exact absurd h2 h
theorem fp_B (hq : q < 12) (hj : j = 0 ∨ bt (fp c e Y q) q = true) (h : ¬ ((fp c e Y q ||| os e q j) >>> (nI q &&& 31)) &&& 1 = 1) : fp c e Y q ||| os e q j = fp c e Y (q + 1) := by
  have h1 : ¬ bt (fp c e Y q) q = true := fun h2 => h ((bt_at hq).mpr (by rw [bt_or, h2, Bool.true_or]))
  rcases hj with h0 | h2
  · rw [fp_n hq h1, h0, os_0]
  · exact absurd h2 h1
end ZC
def zdh (g : zG) (p : Nat) (d : Int64) : Nat → Int64
  | 0 => d
  | k + 1 => mx (th g p k) (zdh g p d k) 3
