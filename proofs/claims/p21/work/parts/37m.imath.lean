/-! numbers of the last look: is the Sim as the jury is -/
section ZIM
variable {n : Nat} {me lo : Nat → Int32} {c e : Nat → Nat} {rd tk : Int32} {g : zG} {p i k : Nat}
theorem ln_y (h : ¬ po e i p (c i) = none) : ln c e p (i + 1) = ln c e p i + 1 := by simp only [ln]; rw [if_neg h]
theorem ln_n (h : po e i p (c i) = none) : ln c e p (i + 1) = ln c e p i := by simp only [ln]; rw [if_pos h]
theorem zo_nn {r : Option Nat} (hr : ∀ q, r = some q → q < 100000) : (0 : Int32) ≤ zo r ↔ ¬ r = none := by
  rw [← zo_neg hr]
  exact ⟨fun h h2 => Int32.not_lt.mpr h h2, fun h => Int32.not_lt.mp h⟩
/-- halves from the court, the first w of k's behind those of all ahead of k -/
def cth (g : zG) (k : Nat) : Nat → Nat
  | 0 => ct g k
  | w + 1 => cth g k w + (if g (2 + w) k = -1 then 1 else 0)
theorem cth_2 : cth g k 2 = ct g (k + 1) := rfl
theorem cth_y {w : Nat} (h : g (2 + w) k = -1) : cth g k w + 1 = cth g k (w + 1) := by simp only [cth]; rw [if_pos h]
theorem cth_n {w : Nat} (h : ¬ g (2 + w) k = -1) : cth g k w + 0 = cth g k (w + 1) := by simp only [cth]; rw [if_neg h]
theorem zV_neg {w : Nat} (hV : zV n g) (hk : k < n) (hw : w < 2) (hn : n ≤ 12) : (0 : Int32) ≤ g (2 + w) k ↔ ¬ g (2 + w) k = -1 := by
  rcases hV k hk w hw with ⟨h1, -⟩ | ⟨q, j, hq, -, -, -, h1, -⟩
  · rw [h1]; exact ⟨fun h => absurd h (by decide), fun h => absurd rfl h⟩
  · rw [h1]
    exact ⟨fun _ h2 => absurd (by rw [h2]; decide : nI q < 0) (nI_pos (by omega)), fun _ => nI_pos' (by omega)⟩
theorem zV_lt {w : Nat} (hV : zV n g) (hk : k < n) (hw : w < 2) (hn : n ≤ 12) : g (2 + w) k < (0 : Int32) ↔ g (2 + w) k = -1 := by
  have h := zV_neg hV hk hw hn
  constructor
  · intro h1
    exact Classical.byContradiction fun h2 => Int32.not_lt.mpr (h.mpr h2) h1
  · intro h1; rw [h1]; decide
theorem zmean_d : ∀ n, n < 13 → 0 < n → ∀ j, j < 109 → Op.cmpValue (FP.dcmp (FP.ddiv (FP.i2d (nI j)) (FP.i2d (nI n))) (FP.ddiv (FP.i2d (nI j)) (FP.i2d (nI n)))) .l = 0 := by decide +kernel
theorem zmean_0 : Op.cmpValue (FP.dcmp FP.dconst0 FP.dconst0) .l = 0 := by decide +kernel
theorem zmean_n {n : Nat} {g : zG} (hn : n ≤ 12) (h0 : 0 < n) (hJ : zJ n g) : Op.cmpValue (FP.dcmp (zmean n g) (FP.ddiv (FP.i2d (su g n)) (FP.i2d (nI n)))) .l = 0 := by
  obtain ⟨j, hj, ej⟩ := zd_su (g := g) n (fun p hp => (hJ p hp).2.2)
  unfold zmean
  rw [if_neg (by omega), ej]
  exact zmean_d n (by omega) h0 j (by omega)
theorem zmean_z {n : Nat} {g : zG} (h0 : n = 0) : Op.cmpValue (FP.dcmp (zmean n g) FP.dconst0) .l = 0 := by
  unfold zmean
  rw [if_pos h0]; exact zmean_0
/-- what Sim tells of a parrot, in a row of seven -/
theorem ztold_p {f : Nat → Int32} (hi : i = n) {q : Nat} (hq : q < 7) : upd (upd (upd (upd (upd (upd (upd f 0 (wd g k)) 1 (g 6 k)) 2 (me k)) 3 (lo k)) 4 (nI (c k))) 5 (nI (ln c e k i))) 6 (zo (hd lo e k (c k))) q = tp n g me lo c e k q := by
  subst hi
  rcases (show q = 0 ∨ q = 1 ∨ q = 2 ∨ q = 3 ∨ q = 4 ∨ q = 5 ∨ q = 6 by omega) with rfl | rfl | rfl | rfl | rfl | rfl | rfl <;> simp [upd, tp]
theorem ztold_j {f : Nat → Int32} (hk : k = n) {q : Nat} (hq : q < 6) : upd (upd (upd (upd (upd (upd f 0 rd) 1 (nI n)) 2 (nI (dw g n))) 3 (nI (ct g k))) 4 (su g n)) 5 tk q = tj n (rd, tk, g) q := by
  subst hk
  rcases (show q = 0 ∨ q = 1 ∨ q = 2 ∨ q = 3 ∨ q = 4 ∨ q = 5 by omega) with rfl | rfl | rfl | rfl | rfl | rfl <;> simp [upd, tj]
end ZIM
