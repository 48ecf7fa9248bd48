/-! more numbers of the law's checks -/
theorem lf_le (g : zG) (w : Int32) : ∀ m, lf g w m ≤ 2 * m
  | 0 => Nat.le_refl _
  | m + 1 => by
    have ih := lf_le g w m
    simp only [lf]
    by_cases h1 : g 0 m = w / 100
    · rw [if_pos h1]
      by_cases h2 : g 1 m = zrem w 100
      · rw [if_pos h2]; omega
      · rw [if_neg h2]; omega
    · rw [if_neg h1]
      by_cases h2 : g 1 m = zrem w 100
      · rw [if_pos h2]; omega
      · rw [if_neg h2]; omega
section ZLD
variable {n : Nat} {me lo : Nat → Int32} {c e : Nat → Nat} {rd tk : Int32} {g : zG} {k o : Nat}
theorem hA_T (h : hd lo e k (c k) = some o) (hw : ¬ wd g o = wd g k) (h9 : ¬ g 6 o < g 6 k) : (hA lo c e g (0, g) k).1 + 1 = (hA lo c e g (0, g) (k + 1)).1 := by
  rw [hA_cnt, stH_T h hw h9]
  show _ = _ + ((0 : Int32) + 1)
  rw [Int32.zero_add]
theorem hA_kp {x : Int32} (h : zkp lo c e g k x) : (hA lo c e g (0, g) k).1 + 0 = (hA lo c e g (0, g) (k + 1)).1 := by
  rw [hA_cnt, h.2.2]
theorem hd_none {p : Nat} (h : c p = 0) : hd lo e p (c p) = none := by rw [h]; rfl
theorem hd_some {p : Nat} (h : ¬ c p = 0) : ¬ hd lo e p (c p) = none := by
  obtain ⟨m, hm⟩ : ∃ m, c p = m + 1 := ⟨c p - 1, by omega⟩
  rw [hm]
  cases hq : hd lo e p m with
  | none => simp only [hd, hq]; exact fun h => by cases h
  | some b =>
    simp only [hd, hq]
    by_cases h2 : lo b < lo (e (p * 4 + m))
    · rw [if_pos h2]; exact fun h => by cases h
    · rw [if_neg h2]; exact fun h => by cases h
end ZLD
