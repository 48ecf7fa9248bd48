/-! a round, one parrot at a time -/
def zN (t : Nat) : Nat → Nat := fun j => t + 1 + 5 * j
abbrev zgP (n : Nat) (me lo : Nat → Int32) (c e : Nat → Nat) (rd tk : Int32) (g : zG) : zG := (rN n me lo c e (rd, tk, g) 1).2.2
/-- where halves came from, and over how many: from the court, or from another one -/
def zV (n : Nat) (g : zG) : Prop := ∀ p, p < n → ∀ w, w < 2 → (g (2 + w) p = -1 ∧ g (4 + w) p = 0) ∨ (∃ q j, q < n ∧ q ≠ p ∧ 1 ≤ j ∧ j ≤ 99 ∧ g (2 + w) p = nI q ∧ g (4 + w) p = nI j)
section ZPM
variable {n : Nat} {me lo : Nat → Int32} {c e : Nat → Nat} {rd tk : Int32} {g g0 : zG}
theorem stB_row {p o q k : Nat} {s : Int32 × zG} (h : q ≠ p) : (stB g0 p o s).2 k q = s.2 k q := by
  unfold stB
  by_cases h1 : wd g0 p = wd g0 o
  · rw [if_pos h1]; exact z2_row _ h
  · rw [if_neg h1]
    by_cases h2 : g0 6 p ≤ g0 6 o
    · rw [if_pos h2]
      show z2 (z2 (z2 (z2 _ _ _ _) _ _ _) _ _ _) _ _ _ k q = _
      rw [z2_row _ h, z2_row _ h, z2_row _ h, z2_row _ h]
    · rw [if_neg h2]; exact z2_row _ h
theorem stH_row {p q k : Nat} {s : Int32 × zG} (h : q ≠ p) : (stH lo c e g0 p s).2 k q = s.2 k q := by
  unfold stH
  cases hd lo e p (c p) with
  | none => rfl
  | some o => exact stB_row h
theorem z2_cong {g g' : zG} {w p : Nat} {x : Int32} (h : ∀ k, g k p = g' k p) (k : Nat) : z2 g w p x k p = z2 g' w p x k p := by
  by_cases hk : k = w
  · subst hk; rw [z2_at, z2_at]
  · rw [z2_col _ hk, z2_col _ hk]; exact h k
theorem stB_cong {p o : Nat} {s s' : Int32 × zG} (h : ∀ k, s.2 k p = s'.2 k p) (k : Nat) : (stB g0 p o s).2 k p = (stB g0 p o s').2 k p := by
  unfold stB
  by_cases h1 : wd g0 p = wd g0 o
  · rw [if_pos h1, if_pos h1]; exact z2_cong h k
  · rw [if_neg h1, if_neg h1]
    by_cases h2 : g0 6 p ≤ g0 6 o
    · rw [if_pos h2, if_pos h2]
      exact z2_cong (z2_cong (z2_cong (z2_cong h))) k
    · rw [if_neg h2, if_neg h2]; exact z2_cong h k
theorem stH_cong {p : Nat} {s s' : Int32 × zG} (h : ∀ k, s.2 k p = s'.2 k p) (k : Nat) : (stH lo c e g0 p s).2 k p = (stH lo c e g0 p s').2 k p := by
  unfold stH
  cases hd lo e p (c p) with
  | none => exact h k
  | some o => exact stB_cong h k
theorem hA_row {s : Int32 × zG} {j : Nat} : ∀ {k q : Nat}, k ≤ q → (hA lo c e g0 s k).2 j q = s.2 j q
  | 0, q, _ => rfl
  | k + 1, q, h => by
    show (stH lo c e g0 k (hA lo c e g0 s k)).2 j q = _
    rw [stH_row (by omega), hA_row (by omega)]
theorem hA_col {s : Int32 × zG} {j : Nat} : ∀ {k q : Nat}, q < k → (hA lo c e g0 s k).2 j q = (stH lo c e g0 q s).2 j q
  | 0, q, h => absurd h (Nat.not_lt_zero _)
  | k + 1, q, h => by
    show (stH lo c e g0 k (hA lo c e g0 s k)).2 j q = _
    by_cases hq : q = k
    · subst hq; exact stH_cong (fun i => hA_row (Nat.le_refl _)) j
    · rw [stH_row hq, hA_col (by omega)]
theorem stF_row {p q j : Nat} (h : q ≠ p) : stF rd me p g j q = g j q := by
  unfold stF
  by_cases h1 : zrem rd (me p + 1) = 0
  · rw [if_pos h1]; exact z2_row _ h
  · rw [if_neg h1]
theorem stF_cong {p : Nat} {g g' : zG} (h : ∀ k, g k p = g' k p) (k : Nat) : stF rd me p g k p = stF rd me p g' k p := by
  unfold stF
  by_cases h1 : zrem rd (me p + 1) = 0
  · rw [if_pos h1, if_pos h1, h 6]; exact z2_cong h k
  · rw [if_neg h1, if_neg h1]; exact h k
theorem fA_row {j : Nat} : ∀ {k q : Nat}, k ≤ q → fA rd me g k j q = g j q
  | 0, q, _ => rfl
  | k + 1, q, h => by
    show stF rd me k (fA rd me g k) j q = _
    rw [stF_row (by omega), fA_row (by omega)]
theorem fA_col {j : Nat} : ∀ {k q : Nat}, q < k → fA rd me g k j q = stF rd me q g j q
  | 0, q, h => absurd h (Nat.not_lt_zero _)
  | k + 1, q, h => by
    show stF rd me k (fA rd me g k) j q = _
    by_cases hq : q = k
    · subst hq; exact stF_cong (fun i => fA_row (Nat.le_refl _)) j
    · rw [stF_row hq, fA_col (by omega)]
theorem zgP_col {k j : Nat} (hk : k < n) : zgP n me lo c e rd tk g j k = stF rd me k (stH lo c e g k (0, g)).2 j k := by
  show fA rd me (hA lo c e g (tk, g) n).2 n j k = _
  rw [fA_col hk]
  exact stF_cong (fun i => by rw [hA_col hk]; exact stH_cong (s := (tk, g)) (s' := (0, g)) (fun _ => rfl) i) j
/-- one less sure, in a round that its memory and 1 divide -/
def zfs (rd : Int32) (me : Nat → Int32) (k : Nat) (s : Int32) : Int32 := if zrem rd (me k + 1) = 0 then zmax (s - 1) 0 else s
theorem stF_6 {k : Nat} {G : zG} : stF rd me k G 6 k = zfs rd me k (G 6 k) := by
  unfold stF zfs
  by_cases h1 : zrem rd (me k + 1) = 0
  · rw [if_pos h1, if_pos h1, z2_at]
  · rw [if_neg h1, if_neg h1]
theorem stF_o {k j : Nat} {G : zG} (h : j ≠ 6) : stF rd me k G j k = G j k := by
  unfold stF
  by_cases h1 : zrem rd (me k + 1) = 0
  · rw [if_pos h1]; exact z2_col _ h
  · rw [if_neg h1]
theorem zfs_ne {k : Nat} {s : Int32} (h : ¬ zrem rd (me k + 1) = 0) : s = zfs rd me k s := by unfold zfs; rw [if_neg h]
theorem zmx_0 : zmax (nI 0 - 1) 0 = nI 0 := by decide +kernel
theorem zfs_le {k : Nat} {s : Int32} (h : zrem rd (me k + 1) = 0) (h2 : s ≤ 0) (hj : ∃ j, j ≤ 10 ∧ s = nI j) : s = zfs rd me k s := by
  obtain ⟨j, h3, rfl⟩ := hj
  have h4 : j = 0 := by
    rcases Nat.eq_zero_or_pos j with h5 | h5
    · exact h5
    · exact absurd h2 (nI_nle h5 (by omega))
  subst h4
  unfold zfs; rw [if_pos h]; exact zmx_0.symm
theorem zfs_gt {k : Nat} {s : Int32} (h : zrem rd (me k + 1) = 0) (h2 : ¬ s ≤ 0) (hj : ∃ j, j ≤ 10 ∧ s = nI j) : s - 1 = zfs rd me k s := by
  obtain ⟨j, h3, rfl⟩ := hj
  cases j with
  | zero => exact absurd (by decide) h2
  | succ w =>
    unfold zfs; rw [if_pos h, nI_pred]
    unfold zmax
    rw [if_neg (nI_pos (by omega))]
/-- a bird's data are row k of G -/
def zcol (G : zG) (k : Nat) (hv fv ov : Nat → Int32) (s1 : Int32) : Prop := (∀ i, i < 2 → hv i = G (0 + i) k) ∧ (∀ i, i < 2 → fv i = G (2 + i) k) ∧ (∀ i, i < 2 → ov i = G (4 + i) k) ∧ s1 = G 6 k
def zMid (lo : Nat → Int32) (c e : Nat → Nat) (g : zG) (k : Nat) (hv fv ov : Nat → Int32) (s1 cnt : Int32) : Prop :=
  zcol (stH lo c e g k (0, g)).2 k hv fv ov s1 ∧ cnt = (stH lo c e g k (0, g)).1 ∧ ∃ j, j ≤ 10 ∧ s1 = nI j
theorem zcol_id (k : Nat) : zcol g k (zcb g 0 k) (zcb g 2 k) (zcb g 4 k) (g 6 k) := ⟨fun _ _ => rfl, fun _ _ => rfl, fun _ _ => rfl, rfl⟩
theorem zcol_6 {k : Nat} {x : Int32} : zcol (z2 g 6 k x) k (zcb g 0 k) (zcb g 2 k) (zcb g 4 k) x :=
  ⟨fun i hi => (z2_col g (by omega)).symm, fun i hi => (z2_col g (by omega)).symm, fun i hi => (z2_col g (by omega)).symm, (z2_at g 6 k x).symm⟩
theorem zmid_N {k : Nat} (h : hd lo e k (c k) = none) (hz : ∃ j, j ≤ 9 ∧ g 6 k = nI j) : zMid lo c e g k (zcb g 0 k) (zcb g 2 k) (zcb g 4 k) (g 6 k) 0 := by
  obtain ⟨j, h1, h2⟩ := hz
  have h3 : stH lo c e g k (0, g) = (0, g) := by unfold stH; rw [h]
  unfold zMid
  rw [h3]
  exact ⟨zcol_id k, rfl, j, by omega, h2⟩
theorem stH_o {k o : Nat} (h : hd lo e k (c k) = some o) : stH lo c e g k (0, g) = stB g k o (0, g) := by unfold stH; rw [h]
theorem zmid_A {k o : Nat} (h : hd lo e k (c k) = some o) (hw : wd g k = wd g o) (h9 : ¬ 9 ≤ g 6 k) (hz : ∃ j, j ≤ 9 ∧ g 6 k = nI j) : zMid lo c e g k (zcb g 0 k) (zcb g 2 k) (zcb g 4 k) (g 6 k + 1) 0 := by
  obtain ⟨j, h1, h2⟩ := hz
  have h3 : stB g k o (0, g) = (0, z2 g 6 k (zmin (g 6 k + 1) 9)) := by unfold stB; rw [if_pos hw]
  have hj : j < 9 := by
    rcases Nat.lt_or_ge j 9 with h5 | h5
    · exact h5
    · exact absurd (by rw [h2, show j = 9 by omega]; decide) h9
  have h4 : zmin (g 6 k + 1) 9 = g 6 k + 1 := by
    rw [h2, nI_1]
    unfold zmin
    rw [if_neg (nI_nlt (b := 9) (a := j + 1) |> fun f => fun h8 => by exact absurd h8 (fun h7 => by have := (nI_ltI (a := 9) (b := j + 1) (by omega) (by omega)).mp h7; omega))]
  unfold zMid
  rw [stH_o h, h3, h4]
  exact ⟨zcol_6, rfl, j + 1, by omega, by rw [h2, nI_1]⟩
theorem zmid_9 {k o : Nat} (h : hd lo e k (c k) = some o) (hw : wd g k = wd g o) (h9 : 9 ≤ g 6 k) (hz : ∃ j, j ≤ 9 ∧ g 6 k = nI j) : zMid lo c e g k (zcb g 0 k) (zcb g 2 k) (zcb g 4 k) (g 6 k) 0 := by
  obtain ⟨j, h1, h2⟩ := hz
  have h3 : stB g k o (0, g) = (0, z2 g 6 k (zmin (g 6 k + 1) 9)) := by unfold stB; rw [if_pos hw]
  have hj : j = 9 := by
    rw [h2] at h9
    have := (nI_leI (a := 9) (b := j) (by omega) (by omega)).mp h9
    omega
  have h4 : zmin (g 6 k + 1) 9 = g 6 k := by rw [h2, hj]; decide +kernel
  unfold zMid
  rw [stH_o h, h3, h4]
  exact ⟨zcol_6, rfl, j, by omega, h2⟩
theorem zmid_K {k o : Nat} (h : hd lo e k (c k) = some o) (hw : ¬ wd g k = wd g o) (h9 : ¬ g 6 k ≤ g 6 o) (hz : ∃ j, j ≤ 9 ∧ g 6 k = nI j) (hzo : ∃ j, j ≤ 9 ∧ g 6 o = nI j) : zMid lo c e g k (zcb g 0 k) (zcb g 2 k) (zcb g 4 k) (g 6 k - 1) 0 := by
  obtain ⟨j, h1, h2⟩ := hz
  obtain ⟨j2, h1o, h2o⟩ := hzo
  have h3 : stB g k o (0, g) = (0, z2 g 6 k (g 6 k - 1)) := by unfold stB; rw [if_neg hw, if_neg h9]
  unfold zMid
  rw [stH_o h, h3]
  refine ⟨zcol_6, rfl, ?_⟩
  cases j with
  | zero => exact absurd (by rw [h2, h2o]; exact nI_le (Nat.zero_le _) (by omega)) h9
  | succ w => exact ⟨w, by omega, by rw [h2, nI_pred]⟩
theorem zcol_T {k o : Nat} {y : Int32} (hk : k % 2 < 2) : zcol (z2 (z2 (z2 (z2 g (k % 2) k (g (k % 2) o)) (2 + k % 2) k (nI o)) (4 + k % 2) k y) 6 k 1) k (upd (zcb g 0 k) (k % 2) (zcb g 0 o (k % 2))) (upd (zcb g 2 k) (k % 2) (nI o)) (upd (zcb g 4 k) (k % 2) y) 1 := by
  refine ⟨fun i hi => ?_, fun i hi => ?_, fun i hi => ?_, (z2_at _ 6 k 1).symm⟩
  · rw [z2_col _ (by omega), z2_col _ (by omega), z2_col _ (by omega)]
    by_cases h : i = k % 2
    · subst h; rw [pk_us, Nat.zero_add, z2_at]; show g (0 + k % 2) o = _; rw [Nat.zero_add]
    · rw [pk_un h, z2_col _ (by omega)]; rfl
  · rw [z2_col _ (by omega), z2_col _ (by omega)]
    by_cases h : i = k % 2
    · subst h; rw [pk_us, z2_at]
    · rw [pk_un h, z2_col _ (by omega), z2_col _ (by omega)]; rfl
  · rw [z2_col _ (by omega)]
    by_cases h : i = k % 2
    · subst h; rw [pk_us, z2_at]
    · rw [pk_un h, z2_col _ (by omega), z2_col _ (by omega), z2_col _ (by omega)]; rfl
theorem zmid_T {k o : Nat} {y : Int32} (h : hd lo e k (c k) = some o) (hw : ¬ wd g k = wd g o) (h9 : g 6 k ≤ g 6 o) (hy : y = zmin (g (4 + k % 2) o + 1) 99) : zMid lo c e g k (upd (zcb g 0 k) (k % 2) (zcb g 0 o (k % 2))) (upd (zcb g 2 k) (k % 2) (nI o)) (upd (zcb g 4 k) (k % 2) y) 1 1 := by
  subst hy
  have h3 : stB g k o (0, g) = (0 + 1, z2 (z2 (z2 (z2 g (k % 2) k (g (k % 2) o)) (2 + k % 2) k (nI o)) (4 + k % 2) k (zmin (g (4 + k % 2) o + 1) 99)) 6 k 1) := by unfold stB; rw [if_neg hw, if_pos h9]
  unfold zMid
  rw [stH_o h, h3]
  exact ⟨zcol_T (by omega), show (1 : Int32) = 0 + 1 from by decide, 1, by omega, by decide⟩
theorem zov_y {o w : Nat} (hV : zV n g) (ho : o < n) (hw : w < 2) (h : 99 ≤ zcb g 4 o w) : (99 : Int32) = zmin (g (4 + w) o + 1) 99 := by
  have h8 : (99 : Int32) ≤ g (4 + w) o := h
  rcases hV o ho w hw with ⟨-, h2⟩ | ⟨q, j, -, -, h3, h4, -, h5⟩
  · rw [h2] at h8; exact absurd h8 (by decide)
  · rw [h5] at h8 ⊢
    have h6 := (nI_leI (a := 99) (b := j) (by omega) (by omega)).mp h8
    rw [show j = 99 by omega]; decide +kernel
theorem zov_n {o w : Nat} (hV : zV n g) (ho : o < n) (hw : w < 2) (h : ¬ 99 ≤ zcb g 4 o w) : zcb g 4 o w + 1 = zmin (g (4 + w) o + 1) 99 := by
  have h8 : ¬ (99 : Int32) ≤ g (4 + w) o := h
  show g (4 + w) o + 1 = _
  rcases hV o ho w hw with ⟨-, h2⟩ | ⟨q, j, -, -, h3, h4, -, h5⟩
  · rw [h2]; decide +kernel
  · rw [h5] at h8 ⊢
    have h6 : ¬ 99 ≤ j := fun h9 => h8 ((nI_leI (a := 99) (b := j) (by omega) (by omega)).mpr h9)
    rw [nI_1]
    unfold zmin
    rw [if_neg (fun h7 => by have := (nI_ltI (a := 99) (b := j + 1) (by omega) (by omega)).mp h7; omega)]
theorem zcol_fin {k : Nat} {hv fv ov : Nat → Int32} {s1 s2 cnt : Int32} (hk : k < n) (h : zMid lo c e g k hv fv ov s1 cnt) (h2 : s2 = zfs rd me k s1) : zcol (zgP n me lo c e rd tk g) k hv fv ov s2 := by
  obtain ⟨⟨a1, a2, a3, a4⟩, -, -⟩ := h
  refine ⟨fun i hi => ?_, fun i hi => ?_, fun i hi => ?_, ?_⟩
  · rw [zgP_col hk, stF_o (by omega)]; exact a1 i hi
  · rw [zgP_col hk, stF_o (by omega)]; exact a2 i hi
  · rw [zgP_col hk, stF_o (by omega)]; exact a3 i hi
  · rw [zgP_col hk, stF_6, h2, ← a4]
theorem stB_cnt {p o : Nat} {s : Int32 × zG} : (stB g0 p o s).1 = s.1 + (stB g0 p o (0, g)).1 := by
  unfold stB
  by_cases h1 : wd g0 p = wd g0 o
  · rw [if_pos h1, if_pos h1]; exact (Int32.add_zero _).symm
  · rw [if_neg h1, if_neg h1]
    by_cases h2 : g0 6 p ≤ g0 6 o
    · rw [if_pos h2, if_pos h2]; show s.1 + 1 = s.1 + (0 + 1); rw [Int32.zero_add]
    · rw [if_neg h2, if_neg h2]; exact (Int32.add_zero _).symm
theorem stH_cnt {p : Nat} {s : Int32 × zG} : (stH lo c e g0 p s).1 = s.1 + (stH lo c e g0 p (0, g)).1 := by
  unfold stH
  cases hd lo e p (c p) with
  | none => exact (Int32.add_zero _).symm
  | some o => exact stB_cnt
theorem hA_cnt {s : Int32 × zG} {k : Nat} : (hA lo c e g s (k + 1)).1 = (hA lo c e g s k).1 + (stH lo c e g k (0, g)).1 := stH_cnt
theorem hA_cnt0 : ∀ k, (hA lo c e g (tk, g) k).1 = tk + (hA lo c e g (0, g) k).1
  | 0 => (Int32.add_zero _).symm
  | k + 1 => by rw [hA_cnt, hA_cnt, hA_cnt0 k, Int32.add_assoc]
end ZPM
section ZPF
variable {D : va_G} {cI cR : ClassId} {o t ar n k : Nat} {B E : Nat → Nat} {me lo : Nat → Int32} {c e : Nat → Nat} {rd tk : Int32} {g : zG} {H H1 : Heap}
theorem zFmN_kept (hs : zSp o t n ar B E) (hk : k ≤ n) (h : zFm D cI k (zN t) E me lo c e g H) (hf : ∀ q, q < H.size → (o < q ∧ q ≠ t) → q < t + 1 + 5 * k → H1[q]? = H[q]?) : zFm D cI k (zN t) E me lo c e g H1 := fun j hj => by
  obtain ⟨-, ⟨h3, h4⟩, -⟩ := hs.2.1 j (by omega)
  obtain ⟨⟨a1, a2, a3⟩, -, -⟩ := hs
  refine zBd_kept (h j hj) (fun q hq h9 => ?_)
  have h8 : zN t j = t + 1 + 5 * j := rfl
  rw [h8] at h9
  exact hf q hq (by omega) (by omega)
theorem zFmN_push {hv fv ov : Nat → Int32} {s2 : Int32} (h : zFm D cI k (zN t) E me lo c e g H) (hb : va_P D vwCl (zBw cI (t + 1 + 5 * k) (E k) hv fv ov s2 (me k) (lo k)) H) (he : va_P D vwCl (zAr cI (E k) (c k) (zer e k)) H) (hc : zcol g k hv fv ov s2) : zFm D cI (k + 1) (zN t) E me lo c e g H := fun j hj => by
  by_cases hjk : j = k
  · subst hjk
    obtain ⟨a1, a2, a3, a4⟩ := hc
    exact ⟨zBw_to hb a1 a2 a3 a4 rfl rfl, he⟩
  · exact h j (by omega)
theorem zFmN_0 : zFm D cI 0 (zN t) E me lo c e g H := fun j hj => absurd hj (Nat.not_lt_zero _)
theorem zSp_pass (hs : zSp o t n ar B E) : zSp o (t + 1 + 5 * n) n t (zN t) E := by
  obtain ⟨⟨a1, a2, a3⟩, h1, h2⟩ := hs
  refine ⟨⟨a3, by omega, by omega⟩, fun j hj => ?_, fun i j hi hj => ?_⟩
  · have := h1 j hj
    have h8 : zN t j = t + 1 + 5 * j := rfl
    rw [h8]
    omega
  · have := h1 i hi
    have h8 : zN t j = t + 1 + 5 * j := rfl
    have h9 : zN t i = t + 1 + 5 * i := rfl
    rw [h8, h9]
    omega
theorem zO_to {a : Nat} {x y x' y' : Int32} (h : va_P D vwCl [(o, .inr (6, [.ref a, .int x, .int y]))] H) (e1 : x = x') (e2 : y = y') : va_P D vwCl [(o, .inr (6, [.ref a, .int x', .int y']))] H := by
  subst e1; subst e2; exact h
theorem zQ_pass {m : Nat} (h : va_P D vwCl (zQr cR t n (zbf m (zN t))) H) (hm : m = n) : va_P D vwCl (zQr cR t n (zbf n (zN t))) H := by subst hm; exact h
theorem zbf_upN : va_up (zbf k (zN t)) k (some (t + 1 + 5 * k)) = zbf (k + 1) (zN t) := zbf_up
end ZPF
