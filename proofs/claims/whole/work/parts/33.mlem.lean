/-! facts of numbers that the walks of the reference's rounds use -/
theorem nw_f1 {g : zG} {p k : Nat} (h : ¬ nw g p k = true) : ¬ nw g p (k + 1) = true := by simp [nw, h]
def tkn (lo : Nat → Int32) (c e : Nat → Nat) (g0 : zG) (p : Nat) : Bool :=
  match hd lo e p (c p) with
  | none => false
  | some o => !decide (wd g0 p = wd g0 o) && decide (g0 6 p ≤ g0 6 o)
def stG (lo : Nat → Int32) (c e : Nat → Nat) (g0 : zG) (p : Nat) (g : zG) : zG := (stH lo c e g0 p (0, g)).2
section ZMT
variable {n : Nat} {me lo : Nat → Int32} {c e : Nat → Nat} {g0 g : zG} {p o k : Nat} {t : Int32}
theorem stB_2 {s : Int32} : (stB g0 p o (s, g)).2 = (stB g0 p o (0, g)).2 := by
  simp only [stB]
  by_cases h : wd g0 p = wd g0 o
  · rw [if_pos h, if_pos h]
  · rw [if_neg h, if_neg h]
    by_cases h2 : g0 6 p ≤ g0 6 o
    · rw [if_pos h2, if_pos h2]
    · rw [if_neg h2, if_neg h2]
theorem stH_2 {s : Int32 × zG} : (stH lo c e g0 p s).2 = stG lo c e g0 p s.2 := by
  obtain ⟨a, b⟩ := s
  simp only [stG, stH]
  cases hd lo e p (c p) with
  | none => rfl
  | some o => exact stB_2
theorem stH_y {s : Int32 × zG} (h : tkn lo c e g0 p = true) : (stH lo c e g0 p s).1 = s.1 + 1 := by
  simp only [tkn] at h
  simp only [stH]
  cases hq : hd lo e p (c p) with
  | none => rw [hq] at h; cases h
  | some o =>
    rw [hq] at h
    simp at h
    simp only [stB]
    rw [if_neg h.1, if_pos h.2]
theorem stH_n {s : Int32 × zG} (h : ¬ tkn lo c e g0 p = true) : (stH lo c e g0 p s).1 = s.1 := by
  simp only [tkn] at h
  simp only [stH]
  cases hq : hd lo e p (c p) with
  | none => rfl
  | some o =>
    rw [hq] at h
    simp only [stB]
    by_cases h1 : wd g0 p = wd g0 o
    · rw [if_pos h1]
    · rw [if_neg h1]
      by_cases h2 : g0 6 p ≤ g0 6 o
      · exact absurd (by simp [h1, h2]) h
      · rw [if_neg h2]
theorem hA_g {s : Int32 × zG} : (hA lo c e g0 s (k + 1)).2 = stG lo c e g0 k (hA lo c e g0 s k).2 := stH_2
theorem hA_y {s : Int32 × zG} (h : tkn lo c e g0 k = true) : (hA lo c e g0 s (k + 1)).1 = (hA lo c e g0 s k).1 + 1 := stH_y h
theorem hA_n {s : Int32 × zG} (h : ¬ tkn lo c e g0 k = true) : (hA lo c e g0 s (k + 1)).1 = (hA lo c e g0 s k).1 := stH_n h
theorem stG_n (h : hd lo e p (c p) = none) : stG lo c e g0 p g = g := by simp only [stG, stH, h]
theorem stG_e (h : hd lo e p (c p) = some o) (hw : wd g0 p = wd g0 o) : stG lo c e g0 p g = z2 g 6 p (zmin (g0 6 p + 1) 9) := by simp only [stG, stH, h, stB]; rw [if_pos hw]
theorem stG_k (h : hd lo e p (c p) = some o) (hw : ¬ wd g0 p = wd g0 o) (h2 : ¬ g0 6 p ≤ g0 6 o) : stG lo c e g0 p g = z2 g 6 p (g0 6 p - 1) := by simp only [stG, stH, h, stB]; rw [if_neg hw, if_neg h2]
theorem stG_t (h : hd lo e p (c p) = some o) (hw : ¬ wd g0 p = wd g0 o) (h2 : g0 6 p ≤ g0 6 o) : stG lo c e g0 p g = z2 (z2 (z2 (z2 g (p % 2) p (g0 (p % 2) o)) (2 + p % 2) p (nI o)) (4 + p % 2) p (zmin (g0 (4 + p % 2) o + 1) 99)) 6 p 1 := by simp only [stG, stH, h, stB]; rw [if_neg hw, if_pos h2]
theorem tkn_n (h : hd lo e p (c p) = none) : ¬ tkn lo c e g0 p = true := by simp [tkn, h]
theorem tkn_e (h : hd lo e p (c p) = some o) (hw : wd g0 p = wd g0 o) : ¬ tkn lo c e g0 p = true := by simp [tkn, h, hw]
theorem tkn_k (h : hd lo e p (c p) = some o) (h2 : ¬ g0 6 p ≤ g0 6 o) : ¬ tkn lo c e g0 p = true := by simp [tkn, h, h2]
theorem tkn_t (h : hd lo e p (c p) = some o) (hw : ¬ wd g0 p = wd g0 o) (h2 : g0 6 p ≤ g0 6 o) : tkn lo c e g0 p = true := by simp [tkn, h, hw, h2]
/-- two words are one just if their halves are -/
theorem wd_nat (hZ : zJ n g) (hp : p < n) : ∃ a b, a < 100 ∧ b < 100 ∧ g 0 p = nI a ∧ g 1 p = nI b ∧ wd g p = nI (a * 100 + b) := by
  obtain ⟨⟨a, ha, ea⟩, ⟨b, hb, eb⟩, -⟩ := hZ p hp
  refine ⟨a, b, ha, hb, ea, eb, ?_⟩
  simp only [wd]
  rw [ea, eb, ← nI_add, ← pk_mul]
  rfl
theorem wd_eq (hZ : zJ n g) (hp : p < n) (ho : o < n) : wd g p = wd g o ↔ g 0 p = g 0 o ∧ g 1 p = g 1 o := by
  obtain ⟨a, b, ha, hb, ea, eb, ew⟩ := wd_nat hZ hp
  obtain ⟨a2, b2, ha2, hb2, ea2, eb2, ew2⟩ := wd_nat hZ ho
  rw [ea, eb, ea2, eb2, ew, ew2, nI_eq (by omega) (by omega), nI_eq (by omega) (by omega), nI_eq (by omega) (by omega)]
  omega
theorem z2_at {w w2 q : Nat} {x : Int32} : z2 g w p x w2 q = if w2 = w ∧ q = p then x else g w2 q := by
  by_cases h : w2 = w
  · subst h
    simp [z2, upd]
  · simp [z2, h]
def zS (n : Nat) (g : zG) (q : Nat) : Prop := (∃ j, j < 100 ∧ g 0 q = nI j) ∧ (∃ j, j < 100 ∧ g 1 q = nI j) ∧ (∃ j, j ≤ 9 ∧ g 6 q = nI j)
theorem zmin9 {x : Int32} {j : Nat} (h : x = nI j) (hj : j ≤ 9) : ∃ i, i ≤ 9 ∧ zmin (x + 1) 9 = nI i := by
  subst h
  rw [nI_1]
  simp only [zmin]
  by_cases h2 : (9 : Int32) < nI (j + 1)
  · exact ⟨9, Nat.le_refl _, by rw [if_pos h2]; rfl⟩
  · refine ⟨j + 1, ?_, by rw [if_neg h2]⟩
    have h3 : ¬ nI 9 < nI (j + 1) := h2
    rw [nI_ltI (by omega) (by omega)] at h3
    omega
theorem zmax0 {x : Int32} {j : Nat} (h : x = nI j) (hj : j ≤ 9) : ∃ i, i ≤ 9 ∧ zmax (x - 1) 0 = nI i := by
  subst h
  cases j with
  | zero => exact ⟨0, by omega, by decide⟩
  | succ k =>
    rw [nI_pred]
    simp only [zmax]
    rw [if_neg (nI_pos (by omega))]
    exact ⟨k, by omega, rfl⟩
theorem zJ_stG (hI : zI n me lo c e) (hZ : zJ n g0) (hG : zJ n g) (hp : p < n) : zJ n (stG lo c e g0 p g) := by
  cases hq : hd lo e p (c p) with
  | none => rw [stG_n hq]; exact hG
  | some o =>
    have ho := zI_hd hI hq
    obtain ⟨z0, z1, j, hj, ej⟩ := hZ p hp
    by_cases hw : wd g0 p = wd g0 o
    · rw [stG_e hq hw]
      intro q hqn
      obtain ⟨y0, y1, y6⟩ := hG q hqn
      refine ⟨by rw [z2_at, if_neg (by omega)]; exact y0, by rw [z2_at, if_neg (by omega)]; exact y1, ?_⟩
      rw [z2_at]
      by_cases h : q = p
      · rw [if_pos ⟨rfl, h⟩]; exact zmin9 ej hj
      · rw [if_neg (fun h2 => h h2.2)]; exact y6
    · by_cases h2 : g0 6 p ≤ g0 6 o
      · rw [stG_t hq hw h2]
        intro q hqn
        obtain ⟨y0, y1, y6⟩ := hG q hqn
        obtain ⟨w0, w1, w6⟩ := hZ o ho
        refine ⟨?_, ?_, ?_⟩
        · rw [z2_at, if_neg (by omega), z2_at, if_neg (by omega), z2_at, if_neg (by omega), z2_at]
          by_cases h : 0 = p % 2 ∧ q = p
          · rw [if_pos h, ← h.1]; exact w0
          · rw [if_neg h]; exact y0
        · rw [z2_at, if_neg (by omega), z2_at, if_neg (by omega), z2_at, if_neg (by omega), z2_at]
          by_cases h : 1 = p % 2 ∧ q = p
          · rw [if_pos h, ← h.1]; exact w1
          · rw [if_neg h]; exact y1
        · rw [z2_at]
          by_cases h : q = p
          · rw [if_pos ⟨rfl, h⟩]; exact ⟨1, by omega, rfl⟩
          · rw [if_neg (fun h3 => h h3.2), z2_at, if_neg (by omega), z2_at, if_neg (by omega), z2_at, if_neg (by omega)]
            exact y6
      · rw [stG_k hq hw h2]
        intro q hqn
        obtain ⟨y0, y1, y6⟩ := hG q hqn
        refine ⟨by rw [z2_at, if_neg (by omega)]; exact y0, by rw [z2_at, if_neg (by omega)]; exact y1, ?_⟩
        rw [z2_at]
        by_cases h : q = p
        · rw [if_pos ⟨rfl, h⟩]
          obtain ⟨w0, w1, i, hi, ei⟩ := hZ o ho
          have h3 : ¬ nI j ≤ nI i := by rw [← ej, ← ei]; exact h2
          rw [nI_leI (by omega) (by omega)] at h3
          obtain ⟨m, rfl⟩ : ∃ m, j = m + 1 := ⟨j - 1, by omega⟩
          rw [ej, nI_pred]
          exact ⟨m, by omega, rfl⟩
        · rw [if_neg (fun h3 => h h3.2)]; exact y6
theorem zJ_hA (hI : zI n me lo c e) (hZ : zJ n g0) {s : Int32 × zG} (hG : zJ n s.2) : ∀ k, k ≤ n → zJ n (hA lo c e g0 s k).2
  | 0, _ => hG
  | k + 1, h => by rw [hA_g]; exact zJ_stG hI hZ (zJ_hA hI hZ hG k (by omega)) (by omega)
theorem zJ_fA {rd : Int32} (hG : zJ n g) : ∀ k, zJ n (fA rd me g k)
  | 0 => hG
  | k + 1 => by
    have h0 := zJ_fA (rd := rd) hG k
    by_cases h : zrem rd (me k + 1) = 0
    · rw [zfA_y h]
      intro q hqn
      obtain ⟨y0, y1, y6⟩ := h0 q hqn
      refine ⟨by rw [z2_at, if_neg (by omega)]; exact y0, by rw [z2_at, if_neg (by omega)]; exact y1, ?_⟩
      rw [z2_at]
      by_cases hk : q = k
      · rw [if_pos ⟨rfl, hk⟩]
        subst hk
        obtain ⟨j, hj, ej⟩ := y6
        exact zmax0 ej hj
      · rw [if_neg (fun h3 => hk h3.2)]; exact y6
    · rw [zfA_n h]; exact h0
theorem zJ_rN (hI : zI n me lo c e) {t : zT} (hZ : zJ n t.2.2) : ∀ k, zJ n (rN n me lo c e t k).2.2
  | 0 => hZ
  | k + 1 => zJ_fA (zJ_hA hI (zJ_rN hI hZ k) (zJ_rN hI hZ k) n (Nat.le_refl _)) n
end ZMT
/-- one cell that is an array; three that are kept -/
abbrev zAr (cI : ClassId) (a n : Nat) (f : Nat → Int32) : va_W := [(a, .inl (cI, n, .inl f))]
theorem zAr_c {cI : ClassId} {a n : Nat} {f : Nat → Int32} : zC a (zAr cI a n f) := zC_cons zC_nil
theorem zAr_kept {D : va_G} {cI : ClassId} {H H1 : Heap} {a n : Nat} {f : Nat → Int32} (h : va_P D vwCl (zAr cI a n f) H) (hf : ∀ q, q < H.size → a ≤ q → q < a + 1 → H1[q]? = H[q]?) : va_P D vwCl (zAr cI a n f) H1 := z_kept zAr_c h hf
def zkf (a : Nat) : Nat → Option Nat := va_up (va_up (fun _ => none) 0 (some (a + 1))) 1 (some (a + 2))
abbrev zKp (cI cR : ClassId) (a : Nat) (J Nm : Nat → Int32) : va_W := [(a, zQa cR 2 (zkf a)), (a + 1, .inl (cI, 120, .inl J)), (a + 2, .inl (cI, 2, .inl Nm))]
theorem zKp_c {cI cR : ClassId} {a : Nat} {J Nm : Nat → Int32} : zC a (zKp cI cR a J Nm) := zC_cons (zC_cons (zC_cons zC_nil))
theorem zKp_kept {D : va_G} {cI cR : ClassId} {H H1 : Heap} {a : Nat} {J Nm : Nat → Int32} (h : va_P D vwCl (zKp cI cR a J Nm) H) (hf : ∀ q, q < H.size → a ≤ q → q < a + 3 → H1[q]? = H[q]?) : va_P D vwCl (zKp cI cR a J Nm) H1 := z_kept zKp_c h hf
