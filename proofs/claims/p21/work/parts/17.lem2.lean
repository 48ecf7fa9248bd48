/-! facts of numbers that the walks of ParrotJury use -/
theorem vt_le (g : zG) (w : Int32) : ∀ k, vt g w k ≤ k
  | 0 => Nat.le_refl 0
  | k + 1 => by
    have := vt_le g w k
    simp only [vt]
    by_cases h : wd g k = w
    · rw [if_pos h]; omega
    · rw [if_neg h]; omega
theorem vt_mono {g : zG} {w : Int32} : ∀ {k m : Nat}, k ≤ m → vt g w k ≤ vt g w m
  | k, 0, h => by
    have : k = 0 := by omega
    subst this; exact Nat.le_refl _
  | k, m + 1, h => by
    by_cases hk : k = m + 1
    · subst hk; exact Nat.le_refl _
    · have := vt_mono (g := g) (w := w) (k := k) (m := m) (by omega)
      simp only [vt]
      by_cases h2 : wd g m = w
      · rw [if_pos h2]; omega
      · rw [if_neg h2]; omega
theorem vt_pos {g : zG} {k n : Nat} (h : k < n) : 1 ≤ vt g (wd g k) n := by
  have h1 : vt g (wd g k) (k + 1) = vt g (wd g k) k + 1 := by simp [vt]
  have h2 := vt_mono (g := g) (w := wd g k) (k := k + 1) (m := n) h
  omega
def zvm (g : zG) (n : Nat) : Option Int32 → Nat
  | none => 0
  | some b => vt g b n
theorem zvm_le (g : zG) (n : Nat) (r : Option Int32) : zvm g n r ≤ n := by
  cases r with
  | none => exact Nat.zero_le _
  | some b => exact vt_le g b n
theorem vd_le {g : zG} {n k : Nat} (h : vt g (wd g k) n ≤ zvm g n (vd g n k)) (hk : k < n) : vd g n (k + 1) = vd g n k := by
  have h1 := vt_pos (g := g) hk
  cases hq : vd g n k with
  | none => rw [hq] at h; have h9 : vt g (wd g k) n ≤ 0 := h; omega
  | some b =>
    rw [hq] at h
    have h9 : vt g (wd g k) n ≤ vt g b n := h
    simp only [vd, hq]
    rw [if_neg (by omega)]
theorem vd_gt {g : zG} {n k : Nat} (h : ¬ vt g (wd g k) n ≤ zvm g n (vd g n k)) : vd g n (k + 1) = some (wd g k) := by
  cases hq : vd g n k with
  | none => simp only [vd, hq]
  | some b =>
    rw [hq] at h
    have h9 : ¬ vt g (wd g k) n ≤ vt g b n := h
    simp only [vd, hq]
    rw [if_pos (by omega)]
theorem nw_T {g : zG} {p k : Nat} (h : nw g p k = true) (h2 : ¬ wd g k = wd g p) : nw g p (k + 1) = true := by simp [nw, h, h2]
theorem nw_F {g : zG} {p k : Nat} (h2 : wd g k = wd g p) : ∀ {m : Nat}, k < m → nw g p m = false
  | 0, h => absurd h (Nat.not_lt_zero _)
  | m + 1, h => by
    by_cases hk : k = m
    · subst hk; simp [nw, h2]
    · have := nw_F h2 (m := m) (by omega)
      simp [nw, this]
theorem ct_00 {g : zG} {k : Nat} (h : ¬ g 2 k = -1) (h2 : ¬ g 3 k = -1) : ct g (k + 1) = ct g k := by simp [ct, h, h2]
theorem ct_01 {g : zG} {k : Nat} (h : ¬ g 2 k = -1) (h2 : g 3 k = -1) : ct g (k + 1) = ct g k + 1 := by simp [ct, h, h2]
theorem ct_10 {g : zG} {k : Nat} (h : g 2 k = -1) (h2 : ¬ g 3 k = -1) : ct g (k + 1) = ct g k + 1 := by simp [ct, h, h2]
theorem ct_11 {g : zG} {k : Nat} (h : g 2 k = -1) (h2 : g 3 k = -1) : ct g (k + 1) = ct g k + 1 + 1 := by simp [ct, h, h2]
theorem lf_00 {g : zG} {w : Int32} {k : Nat} (h : ¬ g 0 k = w / 100) (h2 : ¬ g 1 k = zrem w 100) : lf g w (k + 1) = lf g w k := by simp [lf, h, h2]
theorem lf_01 {g : zG} {w : Int32} {k : Nat} (h : ¬ g 0 k = w / 100) (h2 : g 1 k = zrem w 100) : lf g w (k + 1) = lf g w k + 1 := by simp [lf, h, h2]
theorem lf_10 {g : zG} {w : Int32} {k : Nat} (h : g 0 k = w / 100) (h2 : ¬ g 1 k = zrem w 100) : lf g w (k + 1) = lf g w k + 1 := by simp [lf, h, h2]
theorem lf_11 {g : zG} {w : Int32} {k : Nat} (h : g 0 k = w / 100) (h2 : g 1 k = zrem w 100) : lf g w (k + 1) = lf g w k + 1 + 1 := by simp [lf, h, h2]
theorem zd_su {g : zG} : ∀ k, (∀ p, p < k → ∃ j, j ≤ 9 ∧ g 6 p = nI j) → ∃ j, j ≤ 9 * k ∧ su g k = nI j
  | 0, _ => ⟨0, Nat.le_refl _, rfl⟩
  | k + 1, h => by
    obtain ⟨a, ha, ea⟩ := zd_su (g := g) k (fun p hp => h p (by omega))
    obtain ⟨b, hb, eb⟩ := h k (by omega)
    exact ⟨a + b, by omega, by simp only [su]; rw [ea, eb, nI_add]⟩
/-- the mean is a number -/
def zmean (n : Nat) (g : zG) : UInt64 := if n = 0 then FP.dconst0 else FP.ddiv (FP.i2d (su g n)) (FP.i2d (nI n))
theorem zd_nan : ∀ n, n < 13 → 0 < n → ∀ j, j < 109 → vf_n64 (FP.ddiv (FP.i2d (nI j)) (FP.i2d (nI n))) := by
  unfold vf_n64
  decide +kernel
theorem zd_nan2 {n : Nat} {g : zG} (hn : n ≤ 12) (h0 : 0 < n) (hJ : zJ n g) : vf_n64 (FP.ddiv (FP.i2d (su g n)) (FP.i2d (nI n))) := by
  obtain ⟨j, hj, ej⟩ := zd_su (g := g) n (fun p hp => (hJ p hp).2.2)
  rw [ej]
  exact zd_nan n (by omega) h0 j (by omega)
theorem z_tod {p : Program} {l : Launch} {e : Env} {R : Room} {s : State} {m : MethodId} {args : Array Value} {below : List Frame} {meth : Method} {c : Code} {H : Heap} {locs : List Loc} {cells slots : Nat} {Q : State → Prop} {pc : Nat} {ls : Array Slot} {rest : List Value} {x y : UInt64} (h : x = y) (k : W p l e R s m args below meth c H locs cells slots Q (F0 m pc ls (.double y :: rest))) : W p l e R s m args below meth c H locs cells slots Q (F0 m pc ls (.double x :: rest)) := h ▸ k
