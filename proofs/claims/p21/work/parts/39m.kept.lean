/-! what the calls keep (rows of whole, and more) -/
def tkn (lo : Nat → Int32) (c e : Nat → Nat) (g0 : zG) (p : Nat) : Bool :=
  match hd lo e p (c p) with
  | none => false
  | some o => !decide (wd g0 p = wd g0 o) && decide (g0 6 p ≤ g0 6 o)
def stG (lo : Nat → Int32) (c e : Nat → Nat) (g0 : zG) (p : Nat) (g : zG) : zG := (stH lo c e g0 p (0, g)).2
section ZMT
variable {n : Nat} {me lo : Nat → Int32} {c e : Nat → Nat} {g0 g : zG} {p o k : Nat} {t : Int32}
theorem stB_2 {s : Int32} : (stB g0 p o (s, g)).2 = (stB g0 p o (0, g)).2 := by
  simp only [stB]
  by_cases h : wd g0 p = wd g0 o
  · rw [if_pos h, if_pos h]
  · rw [if_neg h, if_neg h]
    by_cases h2 : g0 6 p ≤ g0 6 o
    · rw [if_pos h2, if_pos h2]
    · rw [if_neg h2, if_neg h2]
theorem stH_2 {s : Int32 × zG} : (stH lo c e g0 p s).2 = stG lo c e g0 p s.2 := by
  obtain ⟨a, b⟩ := s
  simp only [stG, stH]
  cases hd lo e p (c p) with
  | none => rfl
  | some o => exact stB_2
theorem stH_y {s : Int32 × zG} (h : tkn lo c e g0 p = true) : (stH lo c e g0 p s).1 = s.1 + 1 := by
  simp only [tkn] at h
  simp only [stH]
  cases hq : hd lo e p (c p) with
  | none => rw [hq] at h; cases h
  | some o =>
    rw [hq] at h
    simp at h
    simp only [stB]
    rw [if_neg h.1, if_pos h.2]
theorem stH_n {s : Int32 × zG} (h : ¬ tkn lo c e g0 p = true) : (stH lo c e g0 p s).1 = s.1 := by
  simp only [tkn] at h
  simp only [stH]
  cases hq : hd lo e p (c p) with
  | none => rfl
  | some o =>
    rw [hq] at h
    simp only [stB]
    by_cases h1 : wd g0 p = wd g0 o
    · rw [if_pos h1]
    · rw [if_neg h1]
      by_cases h2 : g0 6 p ≤ g0 6 o
      · exact absurd (by simp [h1, h2]) h
      · rw [if_neg h2]
theorem hA_g {s : Int32 × zG} : (hA lo c e g0 s (k + 1)).2 = stG lo c e g0 k (hA lo c e g0 s k).2 := stH_2
theorem hA_y {s : Int32 × zG} (h : tkn lo c e g0 k = true) : (hA lo c e g0 s (k + 1)).1 = (hA lo c e g0 s k).1 + 1 := stH_y h
theorem hA_n {s : Int32 × zG} (h : ¬ tkn lo c e g0 k = true) : (hA lo c e g0 s (k + 1)).1 = (hA lo c e g0 s k).1 := stH_n h
theorem stG_n (h : hd lo e p (c p) = none) : stG lo c e g0 p g = g := by simp only [stG, stH, h]
theorem stG_e (h : hd lo e p (c p) = some o) (hw : wd g0 p = wd g0 o) : stG lo c e g0 p g = z2 g 6 p (zmin (g0 6 p + 1) 9) := by simp only [stG, stH, h, stB]; rw [if_pos hw]
theorem stG_k (h : hd lo e p (c p) = some o) (hw : ¬ wd g0 p = wd g0 o) (h2 : ¬ g0 6 p ≤ g0 6 o) : stG lo c e g0 p g = z2 g 6 p (g0 6 p - 1) := by simp only [stG, stH, h, stB]; rw [if_neg hw, if_neg h2]
theorem stG_t (h : hd lo e p (c p) = some o) (hw : ¬ wd g0 p = wd g0 o) (h2 : g0 6 p ≤ g0 6 o) : stG lo c e g0 p g = z2 (z2 (z2 (z2 g (p % 2) p (g0 (p % 2) o)) (2 + p % 2) p (nI o)) (4 + p % 2) p (zmin (g0 (4 + p % 2) o + 1) 99)) 6 p 1 := by simp only [stG, stH, h, stB]; rw [if_neg hw, if_pos h2]
theorem tkn_n (h : hd lo e p (c p) = none) : ¬ tkn lo c e g0 p = true := by simp [tkn, h]
theorem tkn_e (h : hd lo e p (c p) = some o) (hw : wd g0 p = wd g0 o) : ¬ tkn lo c e g0 p = true := by simp [tkn, h, hw]
theorem tkn_k (h : hd lo e p (c p) = some o) (h2 : ¬ g0 6 p ≤ g0 6 o) : ¬ tkn lo c e g0 p = true := by simp [tkn, h, h2]
theorem tkn_t (h : hd lo e p (c p) = some o) (hw : ¬ wd g0 p = wd g0 o) (h2 : g0 6 p ≤ g0 6 o) : tkn lo c e g0 p = true := by simp [tkn, h, hw, h2]
/-- two words are one just if their halves are -/
theorem wd_nat (hZ : zJ n g) (hp : p < n) : ∃ a b, a < 100 ∧ b < 100 ∧ g 0 p = nI a ∧ g 1 p = nI b ∧ wd g p = nI (a * 100 + b) := by
  obtain ⟨⟨a, ha, ea⟩, ⟨b, hb, eb⟩, -⟩ := hZ p hp
  refine ⟨a, b, ha, hb, ea, eb, ?_⟩
  simp only [wd]
  rw [ea, eb, ← nI_add, ← pk_mul]
  rfl
theorem wd_eq (hZ : zJ n g) (hp : p < n) (ho : o < n) : wd g p = wd g o ↔ g 0 p = g 0 o ∧ g 1 p = g 1 o := by
  obtain ⟨a, b, ha, hb, ea, eb, ew⟩ := wd_nat hZ hp
  obtain ⟨a2, b2, ha2, hb2, ea2, eb2, ew2⟩ := wd_nat hZ ho
  rw [ea, eb, ea2, eb2, ew, ew2, nI_eq (by omega) (by omega), nI_eq (by omega) (by omega), nI_eq (by omega) (by omega)]
  omega
theorem z2_if {w w2 q : Nat} {x : Int32} : z2 g w p x w2 q = if w2 = w ∧ q = p then x else g w2 q := by
  by_cases h : w2 = w
  · subst h
    simp [z2, upd]
  · simp [z2, h]
def zS (n : Nat) (g : zG) (q : Nat) : Prop := (∃ j, j < 100 ∧ g 0 q = nI j) ∧ (∃ j, j < 100 ∧ g 1 q = nI j) ∧ (∃ j, j ≤ 9 ∧ g 6 q = nI j)
theorem zmin9 {x : Int32} {j : Nat} (h : x = nI j) (hj : j ≤ 9) : ∃ i, i ≤ 9 ∧ zmin (x + 1) 9 = nI i := by
  subst h
  rw [nI_1]
  simp only [zmin]
  by_cases h2 : (9 : Int32) < nI (j + 1)
  · exact ⟨9, Nat.le_refl _, by rw [if_pos h2]; rfl⟩
  · refine ⟨j + 1, ?_, by rw [if_neg h2]⟩
    have h3 : ¬ nI 9 < nI (j + 1) := h2
    rw [nI_ltI (by omega) (by omega)] at h3
    omega
theorem zmax0 {x : Int32} {j : Nat} (h : x = nI j) (hj : j ≤ 9) : ∃ i, i ≤ 9 ∧ zmax (x - 1) 0 = nI i := by
  subst h
  cases j with
  | zero => exact ⟨0, by omega, by decide⟩
  | succ k =>
    rw [nI_pred]
    simp only [zmax]
    rw [if_neg (nI_pos (by omega))]
    exact ⟨k, by omega, rfl⟩
theorem zJ_stG (hI : zI n me lo c e) (hZ : zJ n g0) (hG : zJ n g) (hp : p < n) : zJ n (stG lo c e g0 p g) := by
  cases hq : hd lo e p (c p) with
  | none => rw [stG_n hq]; exact hG
  | some o =>
    have ho := zI_hd hI hq
    obtain ⟨z0, z1, j, hj, ej⟩ := hZ p hp
    by_cases hw : wd g0 p = wd g0 o
    · rw [stG_e hq hw]
      intro q hqn
      obtain ⟨y0, y1, y6⟩ := hG q hqn
      refine ⟨by rw [z2_if, if_neg (by omega)]; exact y0, by rw [z2_if, if_neg (by omega)]; exact y1, ?_⟩
      rw [z2_if]
      by_cases h : q = p
      · rw [if_pos ⟨rfl, h⟩]; exact zmin9 ej hj
      · rw [if_neg (fun h2 => h h2.2)]; exact y6
    · by_cases h2 : g0 6 p ≤ g0 6 o
      · rw [stG_t hq hw h2]
        intro q hqn
        obtain ⟨y0, y1, y6⟩ := hG q hqn
        obtain ⟨w0, w1, w6⟩ := hZ o ho
        refine ⟨?_, ?_, ?_⟩
        · rw [z2_if, if_neg (by omega), z2_if, if_neg (by omega), z2_if, if_neg (by omega), z2_if]
          by_cases h : 0 = p % 2 ∧ q = p
          · rw [if_pos h, ← h.1]; exact w0
          · rw [if_neg h]; exact y0
        · rw [z2_if, if_neg (by omega), z2_if, if_neg (by omega), z2_if, if_neg (by omega), z2_if]
          by_cases h : 1 = p % 2 ∧ q = p
          · rw [if_pos h, ← h.1]; exact w1
          · rw [if_neg h]; exact y1
        · rw [z2_if]
          by_cases h : q = p
          · rw [if_pos ⟨rfl, h⟩]; exact ⟨1, by omega, rfl⟩
          · rw [if_neg (fun h3 => h h3.2), z2_if, if_neg (by omega), z2_if, if_neg (by omega), z2_if, if_neg (by omega)]
            exact y6
      · rw [stG_k hq hw h2]
        intro q hqn
        obtain ⟨y0, y1, y6⟩ := hG q hqn
        refine ⟨by rw [z2_if, if_neg (by omega)]; exact y0, by rw [z2_if, if_neg (by omega)]; exact y1, ?_⟩
        rw [z2_if]
        by_cases h : q = p
        · rw [if_pos ⟨rfl, h⟩]
          obtain ⟨w0, w1, i, hi, ei⟩ := hZ o ho
          have h3 : ¬ nI j ≤ nI i := by rw [← ej, ← ei]; exact h2
          rw [nI_leI (by omega) (by omega)] at h3
          obtain ⟨m, rfl⟩ : ∃ m, j = m + 1 := ⟨j - 1, by omega⟩
          rw [ej, nI_pred]
          exact ⟨m, by omega, rfl⟩
        · rw [if_neg (fun h3 => h h3.2)]; exact y6
theorem zJ_hA (hI : zI n me lo c e) (hZ : zJ n g0) {s : Int32 × zG} (hG : zJ n s.2) : ∀ k, k ≤ n → zJ n (hA lo c e g0 s k).2
  | 0, _ => hG
  | k + 1, h => by rw [hA_g]; exact zJ_stG hI hZ (zJ_hA hI hZ hG k (by omega)) (by omega)
theorem zJ_fA {rd : Int32} (hG : zJ n g) : ∀ k, zJ n (fA rd me g k)
  | 0 => hG
  | k + 1 => by
    have h0 := zJ_fA (rd := rd) hG k
    by_cases h : zrem rd (me k + 1) = 0
    · rw [zfA_y h]
      intro q hqn
      obtain ⟨y0, y1, y6⟩ := h0 q hqn
      refine ⟨by rw [z2_if, if_neg (by omega)]; exact y0, by rw [z2_if, if_neg (by omega)]; exact y1, ?_⟩
      rw [z2_if]
      by_cases hk : q = k
      · rw [if_pos ⟨rfl, hk⟩]
        subst hk
        obtain ⟨j, hj, ej⟩ := y6
        exact zmax0 ej hj
      · rw [if_neg (fun h3 => hk h3.2)]; exact y6
    · rw [zfA_n h]; exact h0
theorem zJ_rN (hI : zI n me lo c e) {t : zT} (hZ : zJ n t.2.2) : ∀ k, zJ n (rN n me lo c e t k).2.2
  | 0 => hZ
  | k + 1 => zJ_fA (zJ_hA hI (zJ_rN hI hZ k) (zJ_rN hI hZ k) n (Nat.le_refl _)) n
end ZMT
theorem vd_some {g : zG} {n : Nat} {b : Int32} : ∀ {k : Nat}, vd g n k = some b → ∃ j, j < k ∧ b = wd g j
  | 0, h => by simp [vd] at h
  | k + 1, h => by
    cases hq : vd g n k with
    | none => simp only [vd, hq] at h; cases h; exact ⟨k, by omega, rfl⟩
    | some a =>
      simp only [vd, hq] at h
      by_cases h2 : vt g a n < vt g (wd g k) n
      · rw [if_pos h2] at h; cases h; exact ⟨k, by omega, rfl⟩
      · rw [if_neg h2] at h; cases h
        obtain ⟨j, hj, e⟩ := vd_some hq
        exact ⟨j, by omega, e⟩
theorem zw_m1 {n k : Nat} {g : zG} (hZ : zJ n g) (hk : k ≤ n) : zw (vd g n k) = -1 ↔ vd g n k = none := by
  cases hq : vd g n k with
  | none => exact ⟨fun _ => rfl, fun _ => rfl⟩
  | some b =>
    constructor
    · intro h
      obtain ⟨j, hj, rfl⟩ := vd_some hq
      obtain ⟨a, b, ha, hb, -, -, e⟩ := wd_nat hZ (p := j) (by omega)
      have h2 : zo (some (a * 100 + b)) = -1 := by
        show nI (a * 100 + b) = -1
        rw [← e]; exact h
      have h3 := (zo_m1 (r := some (a * 100 + b)) (fun q hq => by cases hq; omega)).mp h2
      cases h3
    · intro h; cases h
theorem upd_s {f : Nat → Int32} {k : Nat} {x : Int32} : upd f k x k = x := by simp [upd]
theorem upd_n {f : Nat → Int32} {k q : Nat} {x : Int32} (h : ¬ q = k) : upd f k x q = f q := by simp [upd, h]
section ZP
variable {n : Nat} {me lo : Nat → Int32} {c e : Nat → Nat} {g : zG} {p o k q : Nat}
theorem zI_come (hI : zI n me lo c e) (hn : n < 12) {m x : Nat} (hm1 : 1 ≤ m) (hm2 : m ≤ 9) (hx1 : 1 ≤ x) (hx2 : x ≤ 5) : zI (n + 1) (upd me n (nI m)) (upd lo n (nI x)) c e := by
  obtain ⟨h1, h2, h3⟩ := hI
  refine ⟨by omega, fun p hp => ?_, fun p hp => h3 p (by omega)⟩
  by_cases hpn : p = n
  · subst hpn
    have h0 := h3 p (Nat.le_refl _)
    exact ⟨by omega, fun k hk => by omega, ⟨m, hm1, hm2, upd_s⟩, ⟨x, hx1, hx2, upd_s⟩⟩
  · obtain ⟨a, b, c1, d⟩ := h2 p (by omega)
    refine ⟨a, fun k hk => Nat.lt_succ_of_lt (b k hk), ?_, ?_⟩
    · rw [upd_n hpn]; exact c1
    · rw [upd_n hpn]; exact d
theorem zI_raise (hI : zI n me lo c e) {x : Nat} (hx1 : 1 ≤ x) (hx2 : x ≤ 5) : zI n me (upd lo p (nI x)) c e := by
  obtain ⟨h1, h2, h3⟩ := hI
  refine ⟨h1, fun q hq => ?_, h3⟩
  obtain ⟨a, b, c1, d⟩ := h2 q hq
  refine ⟨a, b, c1, ?_⟩
  by_cases hpn : q = p
  · subst hpn; rw [upd_s]; exact ⟨x, hx1, hx2, rfl⟩
  · rw [upd_n hpn]; exact d
theorem zI_add (hI : zI n me lo c e) (hp : p < n) (ho : o < n) (hc : c p < 4) : zI n me lo (zu c p (c p + 1)) (zu e (p * 4 + c p) o) := by
  obtain ⟨h1, h2, h3⟩ := hI
  refine ⟨h1, fun q hq => ?_, fun q hq => ?_⟩
  · obtain ⟨a, b, c1, d⟩ := h2 q hq
    refine ⟨?_, fun k hk => ?_, c1, d⟩
    · simp only [zu]
      by_cases h : q = p
      · rw [if_pos h]; omega
      · rw [if_neg h]; exact a
    · simp only [zu] at hk ⊢
      by_cases h : q = p
      · subst h
        rw [if_pos rfl] at hk
        by_cases hkc : k = c q
        · rw [if_pos (by omega)]; exact ho
        · rw [if_neg (by omega)]; exact b k (by omega)
      · rw [if_neg h] at hk
        rw [if_neg (by omega)]; exact b k hk
  · simp only [zu]
    rw [if_neg (by omega)]; exact h3 q hq
theorem zI_drop (hI : zI n me lo c e) (hp : p < n) (hk : k < c p) : zI n me lo (zu c p (c p - 1)) (zdr e p k (c p - 1)) := by
  obtain ⟨h1, h2, h3⟩ := hI
  have h4 := (h2 p hp).1
  refine ⟨h1, fun q hq => ?_, fun q hq => ?_⟩
  · obtain ⟨a, b, c1, d⟩ := h2 q hq
    refine ⟨?_, fun j hj => ?_, c1, d⟩
    · simp only [zu]
      by_cases h : q = p
      · rw [if_pos h]; omega
      · rw [if_neg h]; exact a
    · simp only [zu, zdr] at hj ⊢
      by_cases h : q = p
      · subst h
        rw [if_pos rfl] at hj
        by_cases hkc : k ≤ j
        · rw [if_pos (by omega)]; exact b (j + 1) (by omega)
        · rw [if_neg (by omega)]; exact b j (by omega)
      · rw [if_neg h] at hj
        rw [if_neg (by omega)]; exact b j hj
  · simp only [zu]
    rw [if_neg (by omega)]; exact h3 q hq
theorem wh_n {w s : Int32} (h : ¬ q = p) : wh g p w s k q = g k q := by simp [wh, z2_if, h]
theorem wh_s {w s : Nat} (hw : w ≤ 9999) (hs : s ≤ 9) : (∃ j, j < 100 ∧ wh g p (nI w) (nI s) 0 p = nI j) ∧ (∃ j, j < 100 ∧ wh g p (nI w) (nI s) 1 p = nI j) ∧ (∃ j, j ≤ 9 ∧ wh g p (nI w) (nI s) 6 p = nI j) := by
  refine ⟨⟨w / 100, by omega, ?_⟩, ⟨w % 100, by omega, ?_⟩, ⟨s, hs, ?_⟩⟩
  · have h1 : wh g p (nI w) (nI s) 0 p = nI w / 100 := by simp [wh, z2_if]
    rw [h1]; exact pk_div (d := 100) (by omega) (by decide) (by decide)
  · have h1 : wh g p (nI w) (nI s) 1 p = zrem (nI w) 100 := by simp [wh, z2_if]
    rw [h1]; exact pk_rem (d := 100) (by omega) (by decide) (by decide)
  · simp [wh, z2_if]
theorem zJ_wh (hZ : zJ n g) {w s : Nat} (hw : w ≤ 9999) (hs : s ≤ 9) : zJ n (wh g p (nI w) (nI s)) := by
  intro q hq
  by_cases h : q = p
  · subst h; exact wh_s hw hs
  · rw [wh_n h, wh_n h, wh_n h]; exact hZ q hq
theorem zJ_come (hZ : zJ n g) : zJ (n + 1) (wh g n 0 0) := by
  intro q hq
  by_cases h : q = n
  · subst h; exact wh_s (w := 0) (s := 0) (by omega) (by omega)
  · rw [wh_n h, wh_n h, wh_n h]; exact hZ q (by omega)
end ZP
/-! nobody listens to itself; where halves come from -/
def zNs (c e : Nat → Nat) : Prop := ∀ p k, k < c p → e (p * 4 + k) ≠ p
section ZNV
variable {n : Nat} {me lo : Nat → Int32} {c e : Nat → Nat} {rd tk : Int32} {g : zG} {p o k : Nat}
theorem zNs_add (h : zNs c e) (ho : ¬ p = o) (hc : c p < 4) (h4 : ∀ q, c q ≤ 4) : zNs (zu c p (c p + 1)) (zu e (p * 4 + c p) o) := fun q j hj => by
  have h5 := h4 q
  simp only [zu] at hj ⊢
  by_cases hq : q = p
  · subst hq
    rw [if_pos rfl] at hj
    by_cases hjc : j = c q
    · rw [if_pos (by omega)]; exact fun h9 => ho h9.symm
    · rw [if_neg (by omega)]; exact h q j (by omega)
  · rw [if_neg hq] at hj
    rw [if_neg (by omega)]; exact h q j hj
theorem zNs_drop (h : zNs c e) (hk : k < c p) (h4 : ∀ q, c q ≤ 4) : zNs (zu c p (c p - 1)) (zdr e p k (c p - 1)) := fun q j hj => by
  have h5 := h4 q
  have h6 := h4 p
  simp only [zu, zdr] at hj ⊢
  by_cases hq : q = p
  · subst hq
    rw [if_pos rfl] at hj
    by_cases hjc : k ≤ j
    · rw [if_pos (by omega)]; exact h q (j + 1) (by omega)
    · rw [if_neg (by omega)]; exact h q j (by omega)
  · rw [if_neg hq] at hj
    rw [if_neg (by omega)]; exact h q j hj
theorem zNs_hd (h : zNs c e) (ho : hd lo e p (c p) = some o) : o ≠ p := by
  obtain ⟨j, hj, he⟩ := hd_lt ho
  rw [← he]; exact h p j hj
theorem zV_wh (hV : zV n g) {w s : Int32} : zV n (wh g p w s) := fun q hq v hv => by
  by_cases h : q = p
  · subst h
    left
    rcases (show v = 0 ∨ v = 1 by omega) with rfl | rfl
    · exact ⟨wh_2 g q w s, wh_4 g q w s⟩
    · exact ⟨wh_3 g q w s, wh_5 g q w s⟩
  · rw [wh_row g h, wh_row g h]; exact hV q hq v hv
theorem zV_come (hV : zV n g) : zV (n + 1) (wh g n 0 0) := fun q hq v hv => by
  by_cases h : q = n
  · subst h
    left
    rcases (show v = 0 ∨ v = 1 by omega) with rfl | rfl
    · exact ⟨wh_2 g q 0 0, wh_4 g q 0 0⟩
    · exact ⟨wh_3 g q 0 0, wh_5 g q 0 0⟩
  · rw [wh_row g h, wh_row g h]
    rcases hV q (by omega) v hv with h1 | ⟨a, j, h1, h2⟩
    · exact Or.inl h1
    · exact Or.inr ⟨a, j, by omega, h2⟩
theorem zov_s {w : Nat} (hV : zV n g) (ho : o < n) (hw : w < 2) : ∃ j, 1 ≤ j ∧ j ≤ 99 ∧ zmin (g (4 + w) o + 1) 99 = nI j := by
  rcases hV o ho w hw with ⟨-, h2⟩ | ⟨q, j, -, -, h3, h4, -, h5⟩
  · exact ⟨1, by omega, by omega, by rw [h2]; decide +kernel⟩
  · rw [h5, nI_1]
    unfold zmin
    by_cases h : (99 : Int32) < nI (j + 1)
    · rw [if_pos h]; exact ⟨99, by omega, by omega, rfl⟩
    · rw [if_neg h]
      have h6 : ¬ 99 < j + 1 := fun h7 => h ((nI_ltI (a := 99) (b := j + 1) (by omega) (by omega)).mpr h7)
      exact ⟨j + 1, by omega, by omega, rfl⟩
/-- row k of a round, but for how sure -/
theorem zgP_o {j : Nat} (hk : k < n) (hj : j ≠ 6) : zgP n me lo c e rd tk g j k = (stH lo c e g k (0, g)).2 j k := by rw [zgP_col hk, stF_o hj]
theorem zV_P (hI : zI n me lo c e) (hN : zNs c e) (hV : zV n g) : zV n (zgP n me lo c e rd tk g) := fun q hq v hv => by
  rw [zgP_o hq (by omega), zgP_o hq (by omega)]
  have h0 := hV q hq v hv
  cases hh : hd lo e q (c q) with
  | none =>
    have h3 : stH lo c e g q (0, g) = (0, g) := by unfold stH; rw [hh]
    rw [h3]; exact h0
  | some o =>
    rw [stH_o hh]
    by_cases h1 : wd g q = wd g o
    · have e9 : ∀ j, j ≠ 6 → (stB g q o (0, g)).2 j q = g j q := fun j hj => by unfold stB; rw [if_pos h1]; exact z2_col g hj
      rw [e9 (2 + v) (by omega), e9 (4 + v) (by omega)]; exact h0
    · by_cases h2 : g 6 q ≤ g 6 o
      · have e9 : (stB g q o (0, g)).2 = z2 (z2 (z2 (z2 g (q % 2) q (g (q % 2) o)) (2 + q % 2) q (nI o)) (4 + q % 2) q (zmin (g (4 + q % 2) o + 1) 99)) 6 q 1 := by unfold stB; rw [if_neg h1, if_pos h2]
        rw [e9, z2_col _ (show 2 + v ≠ 6 by omega), z2_col _ (show 4 + v ≠ 6 by omega), z2_col _ (show 2 + v ≠ 4 + q % 2 by omega)]
        by_cases hvq : v = q % 2
        · subst hvq
          obtain ⟨j, j1, j2, j3⟩ := zov_s hV (zI_hd hI hh) (show q % 2 < 2 by omega)
          right
          rw [z2_at, z2_at]
          exact ⟨o, j, zI_hd hI hh, zNs_hd hN hh, j1, j2, rfl, j3⟩
        · rw [z2_col _ (show 2 + v ≠ 2 + q % 2 by omega), z2_col _ (show 2 + v ≠ q % 2 by omega), z2_col _ (show 4 + v ≠ 4 + q % 2 by omega), z2_col _ (show 4 + v ≠ 2 + q % 2 by omega), z2_col _ (show 4 + v ≠ q % 2 by omega)]
          exact h0
      · have e9 : ∀ j, j ≠ 6 → (stB g q o (0, g)).2 j q = g j q := fun j hj => by unfold stB; rw [if_neg h1, if_neg h2]; exact z2_col g hj
        rw [e9 (2 + v) (by omega), e9 (4 + v) (by omega)]; exact h0
end ZNV
/-! the law's own numbers -/
/-- below(v, N) -/
def blN (v : Int32) (N : Nat) : Nat := v.toBitVec.toNat % 2 ^ 31 % N
theorem blN_lt {v : Int32} {N : Nat} (h : 0 < N) : blN v N < N := Nat.mod_lt _ h
theorem blN_eq {v : Int32} {N : Nat} (h : 0 < N) (h2 : N < 100000) : zrem (v &&& 2147483647) (nI N) = nI (blN v N) := by
  rw [pk_and v 31 (by decide)]
  exact pk_rem (Nat.mod_lt _ (by decide)) h (by omega)
/-- cell(s, k) -/
def zce (L : Nat) (xs : Nat → Int32) (k : Nat) : Int32 := if k < L then xs k else 790386105 * (nI k + 3)
