/-! what the law's birds say, in numbers -/
theorem zb_wd (g : zG) (p : Nat) : 100 * zcb g 0 p 0 + zcb g 0 p 1 = wd g p := by
  show 100 * g 0 p + g 1 p = g 0 p * 100 + g 1 p
  rw [Int32.mul_comm]
/-- the halves that are whispered, the first i -/
def zs1 (x : Int32) (h : Nat → Int32) (i : Nat) : Nat → Int32 := fun j => if j < i then (if j = 0 then x / 100 else zrem x 100) else h j
def zs2 (x : Int32) (h : Nat → Int32) (i : Nat) : Nat → Int32 := fun j => if j < i then x else h j
theorem zs1_0 {x : Int32} {h : Nat → Int32} {i : Nat} (hi : i = 0) (j : Nat) : upd (zs1 x h i) i (x / 100) j = zs1 x h (i + 1) j := by
  subst hi
  by_cases hj : j = 0
  · subst hj; simp [upd, zs1]
  · simp [upd, zs1, hj]
theorem zs1_1 {x : Int32} {h : Nat → Int32} {i : Nat} (hi : ¬ i = 0) (j : Nat) : upd (zs1 x h i) i (zrem x 100) j = zs1 x h (i + 1) j := by
  by_cases hj : j = i
  · subst hj; simp [upd, zs1, hi]
  · simp only [upd, zs1, hj, if_false]
    by_cases h2 : j < i
    · rw [if_pos h2, if_pos (show j < i + 1 by omega)]
    · rw [if_neg h2, if_neg (show ¬ j < i + 1 by omega)]
theorem zs2_s {x : Int32} {h : Nat → Int32} {i : Nat} (j : Nat) : upd (zs2 x h i) i x j = zs2 x h (i + 1) j := by
  by_cases hj : j = i
  · subst hj; simp [upd, zs2]
  · simp only [upd, zs2, hj, if_false]
    by_cases h2 : j < i
    · rw [if_pos h2, if_pos (show j < i + 1 by omega)]
    · rw [if_neg h2, if_neg (show ¬ j < i + 1 by omega)]
/-- h's first i, the others h0's -/
def zcp (h h0 : Nat → Int32) (i : Nat) : Nat → Int32 := fun j => if j < i then h j else h0 j
theorem zcp_s {h h0 : Nat → Int32} {i : Nat} (j : Nat) : upd (zcp h h0 i) i (h i) j = zcp h h0 (i + 1) j := by
  by_cases hj : j = i
  · subst hj; simp [upd, zcp]
  · simp only [upd, zcp, hj, if_false]
    by_cases h2 : j < i
    · rw [if_pos h2, if_pos (show j < i + 1 by omega)]
    · rw [if_neg h2, if_neg (show ¬ j < i + 1 by omega)]
theorem zcp_2 {h h0 : Nat → Int32} {j : Nat} (hj : j < 2) : zcp h h0 2 j = h j := if_pos hj
