/-! more numbers: how many words, the closure, what the calls keep -/
theorem vt_all {g : zG} {w : Int32} : ∀ {n : Nat}, vt g w n = n → ∀ j, j < n → wd g j = w
  | 0, _, j, h => absurd h (Nat.not_lt_zero _)
  | n + 1, h, j, hj => by
    have h1 := vt_le g w n
    simp only [vt] at h
    by_cases hw : wd g n = w
    · rw [if_pos hw] at h
      by_cases hjn : j = n
      · subst hjn; exact hw
      · exact vt_all (n := n) (by omega) j (by omega)
    · rw [if_neg hw] at h; omega
theorem nw_all {g : zG} {p : Nat} : ∀ {m : Nat}, (∀ j, j < m → ¬ wd g j = wd g p) → nw g p m = true
  | 0, _ => rfl
  | m + 1, h => nw_T (nw_all (fun j hj => h j (by omega))) (h m (by omega))
theorem dw_st (g : zG) : ∀ n, (vt g (wd g 0) n = n ∧ dw g n ≤ 1 ∧ (0 < n → dw g n = 1)) ∨ (vt g (wd g 0) n < n ∧ 2 ≤ dw g n)
  | 0 => Or.inl ⟨rfl, Nat.zero_le _, fun h => absurd h (Nat.lt_irrefl _)⟩
  | n + 1 => by
    rcases dw_st g n with ⟨h1, h2, h3⟩ | ⟨h1, h2⟩
    · by_cases hw : wd g n = wd g 0
      · left
        have e1 : vt g (wd g 0) (n + 1) = vt g (wd g 0) n + 1 := by
          show (if wd g n = wd g 0 then _ else _) = _
          rw [if_pos hw]
        cases n with
        | zero => exact ⟨by rw [e1, h1], by simp [dw, nw], fun _ => by simp [dw, nw]⟩
        | succ m =>
          have e2 : nw g (m + 1) (m + 1) = false := nw_F (k := 0) hw.symm (by omega)
          have e3 : dw g (m + 1 + 1) = dw g (m + 1) := by
            show (if nw g (m + 1) (m + 1) = true then _ else _) = _
            rw [if_neg (by rw [e2]; decide)]
          exact ⟨by rw [e1, h1], by rw [e3]; exact h2, fun _ => by rw [e3]; exact h3 (by omega)⟩
      · right
        have hn : 0 < n := Nat.pos_of_ne_zero (fun h => hw (by rw [h]))
        have e1 : vt g (wd g 0) (n + 1) = vt g (wd g 0) n := by
          show (if wd g n = wd g 0 then _ else _) = _
          rw [if_neg hw]
        have e2 : nw g n n = true := nw_all (fun j hj h => hw (h.symm.trans (vt_all h1 j hj)))
        have e3 : dw g (n + 1) = dw g n + 1 := by
          show (if nw g n n = true then _ else _) = _
          rw [if_pos e2]
        have := h3 hn
        exact ⟨by omega, by omega⟩
    · right
      have e1 : vt g (wd g 0) (n + 1) ≤ vt g (wd g 0) n + 1 := by
        show (if wd g n = wd g 0 then _ else _) ≤ _
        by_cases hw : wd g n = wd g 0
        · rw [if_pos hw]; exact Nat.le_refl _
        · rw [if_neg hw]; omega
      have e3 : dw g n ≤ dw g (n + 1) := by
        show _ ≤ (if nw g n n = true then _ else _)
        by_cases hw : nw g n n = true
        · rw [if_pos hw]; omega
        · rw [if_neg hw]; exact Nat.le_refl _
      exact ⟨by omega, by omega⟩
theorem dw_same (g : zG) (n : Nat) : dw g n ≤ 1 ↔ vt g (wd g 0) n = n := by
  rcases dw_st g n with ⟨h1, h2, h3⟩ | ⟨h1, h2⟩
  · exact ⟨fun _ => h1, fun _ => h2⟩
  · exact ⟨fun h => by omega, fun h => by omega⟩
theorem dw_le (g : zG) : ∀ n, dw g n ≤ n
  | 0 => Nat.le_refl _
  | n + 1 => by
    have := dw_le g n
    show (if nw g n n = true then _ else _) ≤ _
    by_cases hw : nw g n n = true
    · rw [if_pos hw]; omega
    · rw [if_neg hw]; omega
theorem vd_some {g : zG} {n : Nat} {b : Int32} : ∀ {k : Nat}, vd g n k = some b → ∃ j, j < k ∧ b = wd g j
  | 0, h => by simp [vd] at h
  | k + 1, h => by
    cases hq : vd g n k with
    | none => simp only [vd, hq] at h; cases h; exact ⟨k, by omega, rfl⟩
    | some a =>
      simp only [vd, hq] at h
      by_cases h2 : vt g a n < vt g (wd g k) n
      · rw [if_pos h2] at h; cases h; exact ⟨k, by omega, rfl⟩
      · rw [if_neg h2] at h; cases h
        obtain ⟨j, hj, e⟩ := vd_some hq
        exact ⟨j, by omega, e⟩
theorem vdr_n {g : zG} {n k : Nat} (h : vd g n k = none) : vd g n (k + 1) = some (wd g k) := by simp only [vd, h]
theorem vdr_le {g : zG} {n k : Nat} {b : Int32} (h : vd g n k = some b) (h2 : vt g (wd g k) n ≤ vt g b n) : vd g n (k + 1) = vd g n k := by simp only [vd, h]; rw [if_neg (by omega)]
theorem vdr_gt {g : zG} {n k : Nat} {b : Int32} (h : vd g n k = some b) (h2 : ¬ vt g (wd g k) n ≤ vt g b n) : vd g n (k + 1) = some (wd g k) := by simp only [vd, h]; rw [if_pos (by omega)]
/-! bits -/
def bt (S : Int32) (q : Nat) : Bool := S.toBitVec.getLsbD q
theorem bt_ge {S : Int32} {q : Nat} (h : 32 ≤ q) : bt S q = false := BitVec.getLsbD_of_ge _ _ h
theorem bt_ext {S T : Int32} (h : ∀ q, bt S q = bt T q) : S = T := Int32.toBitVec_inj.mp (BitVec.eq_of_getLsbD_eq (fun i _ => h i))
theorem bt_or {S T : Int32} {q : Nat} : bt (S ||| T) q = (bt S q || bt T q) := by
  simp only [bt, Int32.toBitVec_or, BitVec.getLsbD_or]
theorem bt_0 {q : Nat} : bt 0 q = false := by
  show (0#32).getLsbD q = false
  exact BitVec.getLsbD_zero
theorem bt_sh0 : ∀ a, a < 12 → ∀ q, q < 32 → bt ((1 : Int32) <<< (nI a &&& 31)) q = decide (q = a) := by decide +kernel
theorem bt_sh {a q : Nat} (ha : a < 12) : bt ((1 : Int32) <<< (nI a &&& 31)) q = true ↔ q = a := by
  by_cases hq : q < 32
  · rw [bt_sh0 a ha q hq]; simp
  · rw [bt_ge (by omega)]
    constructor
    · intro h; cases h
    · intro h; omega
theorem bt_one {v : Int32} : v &&& 1 = 1 ↔ bt v 0 = true := by
  constructor
  · intro h
    have := congrArg (fun x => bt x 0) h
    simp only [bt, Int32.toBitVec_and, BitVec.getLsbD_and] at this
    have e1 : (1 : Int32).toBitVec.getLsbD 0 = true := by decide
    rw [e1, Bool.and_true] at this
    exact this
  · intro h
    apply bt_ext
    intro q
    simp only [bt, Int32.toBitVec_and, BitVec.getLsbD_and]
    by_cases hq : q = 0
    · subst hq
      have h' : v.toBitVec.getLsbD 0 = true := h
      rw [h', Bool.true_and]
    · have e1 : (1 : Int32).toBitVec.getLsbD q = false := by
        show (1#32).getLsbD q = false
        rw [BitVec.getLsbD_one]
        simp [hq]
      rw [e1, Bool.and_false]
theorem bt_sm : ∀ p, p < 12 → ((nI p &&& 31).toBitVec.smod 32).toNat = p := by decide +kernel
theorem bt_at {S : Int32} {p : Nat} (hp : p < 12) : (S >>> (nI p &&& 31)) &&& 1 = 1 ↔ bt S p = true := by
  rw [bt_one]
  simp only [bt, Int32.toBitVec_shiftRight, BitVec.sshiftRight']
  rw [bt_sm p hp, BitVec.getLsbD_sshiftRight]
  simp [show p < 32 by omega]
/-! a growing set of at most n numbers is closed behind n steps -/
def cn (f : Nat → Bool) : Nat → Nat
  | 0 => 0
  | k + 1 => if f k = true then cn f k + 1 else cn f k
theorem cn_le (f : Nat → Bool) : ∀ k, cn f k ≤ k
  | 0 => Nat.le_refl _
  | k + 1 => by
    have := cn_le f k
    simp only [cn]
    by_cases h : f k = true
    · rw [if_pos h]; omega
    · rw [if_neg h]; omega
theorem cn_full {f : Nat → Bool} : ∀ {n : Nat}, cn f n = n → ∀ j, j < n → f j = true
  | 0, _, j, h => absurd h (Nat.not_lt_zero _)
  | n + 1, h, j, hj => by
    have h1 := cn_le f n
    simp only [cn] at h
    by_cases hw : f n = true
    · rw [if_pos hw] at h
      by_cases hjn : j = n
      · subst hjn; exact hw
      · exact cn_full (n := n) (by omega) j (by omega)
    · rw [if_neg hw] at h; omega
theorem cn_mono {f g : Nat → Bool} (h : ∀ j, f j = true → g j = true) : ∀ k, cn f k ≤ cn g k
  | 0 => Nat.le_refl _
  | k + 1 => by
    have := cn_mono h k
    simp only [cn]
    by_cases h1 : f k = true
    · rw [if_pos h1, if_pos (h k h1)]; omega
    · rw [if_neg h1]
      by_cases h2 : g k = true
      · rw [if_pos h2]; omega
      · rw [if_neg h2]; exact this
theorem cn_lt {f g : Nat → Bool} (h : ∀ j, f j = true → g j = true) {q : Nat} (h1 : ¬ f q = true) (h2 : g q = true) : ∀ {n : Nat}, q < n → cn f n < cn g n
  | 0, hq => absurd hq (Nat.not_lt_zero _)
  | n + 1, hq => by
    simp only [cn]
    by_cases hqn : q = n
    · subst hqn
      rw [if_neg h1, if_pos h2]
      have := cn_mono h q
      omega
    · have h3 := cn_lt h h1 h2 (n := n) (by omega)
      by_cases h4 : f n = true
      · rw [if_pos h4, if_pos (h n h4)]; omega
      · rw [if_neg h4]
        by_cases h5 : g n = true
        · rw [if_pos h5]; omega
        · rw [if_neg h5]; exact h3
def zCl (E : Nat → Nat → Prop) (f : Nat → Bool) : Prop := ∀ p q, f p = true → E p q → f q = true
theorem zchain {b : Nat → Nat → Bool} {E : Nat → Nat → Prop} {n N : Nat} (hN : n ≤ N) (hE : ∀ p q, E p q → q < n) (hm : ∀ k q, b k q = true → b (k + 1) q = true) (hp : ∀ k p q, b k p = true → E p q → b (k + 1) q = true) (hs : ∀ k, zCl E (b k) → ∀ q, b (k + 1) q = true → b k q = true) : zCl E (b N) := by
  have h : ∀ k, zCl E (b k) ∨ k ≤ cn (b k) n := by
    intro k
    induction k with
    | zero => right; exact Nat.zero_le _
    | succ k ih =>
      by_cases hc : zCl E (b k)
      · left
        intro p q h1 h2
        exact hm k q (hc p q (hs k hc p h1) h2)
      · right
        rcases ih with ih | ih
        · exact absurd ih hc
        · have h9 : ∃ p q, b k p = true ∧ E p q ∧ ¬ b k q = true := Classical.byContradiction fun hn => hc (fun p q h1 h2 => Classical.byContradiction fun h3 => hn ⟨p, q, h1, h2, h3⟩)
          obtain ⟨p, q, h1, h2, h3⟩ := h9
          have := cn_lt (hm k) h3 (hp k p q h1 h2) (hE p q h2)
          omega
  rcases h N with h | h
  · exact h
  · have h1 := cn_le (b N) n
    have h2 := cn_full (f := b N) (n := n) (by omega)
    intro p q _ h3
    exact h2 q (hE p q h3)
theorem zch_0 {b : Nat → Nat → Bool} (hm : ∀ k q, b k q = true → b (k + 1) q = true) : ∀ k q, b 0 q = true → b k q = true
  | 0, q, h => h
  | k + 1, q, h => hm k q (zch_0 hm k q h)
theorem zch_T {b : Nat → Nat → Bool} {E : Nat → Nat → Prop} (hs : ∀ k (T : Nat → Bool), zCl E T → (∀ q, b k q = true → T q = true) → ∀ q, b (k + 1) q = true → T q = true) {T : Nat → Bool} (hT : zCl E T) (h0 : ∀ q, b 0 q = true → T q = true) : ∀ k q, b k q = true → T q = true
  | 0, q, h => h0 q h
  | k + 1, q, h => hs k T hT (zch_T hs hT h0 k) q h
/-- the reference's way: within one set, parrot by parrot -/
noncomputable def fp (c e : Nat → Nat) (S : Int32) : Nat → Int32
  | 0 => S
  | k + 1 => if (fp c e S k >>> (nI k &&& 31)) &&& 1 = 1 then fp c e S k ||| os e k (c k) else fp c e S k
noncomputable def fm (n : Nat) (c e : Nat → Nat) (S : Int32) : Nat → Int32
  | 0 => S
  | k + 1 => fp c e (fm n c e S k) n
section ZC
variable {n : Nat} {me lo : Nat → Int32} {c e : Nat → Nat}
theorem os_lt (hI : zI n me lo c e) {p q : Nat} : ∀ {k : Nat}, k ≤ c p → bt (os e p k) q = true → q < n
  | 0, _, h => by rw [show os e p 0 = 0 from rfl, bt_0] at h; cases h
  | k + 1, hk, h => by
    have h1 := zI_e hI (p := p) (k := k) (by omega)
    have h2 := zI_n hI
    rw [show os e p (k + 1) = os e p k ||| ((1 : Int32) <<< (nI (e (p * 4 + k)) &&& 31)) from rfl, bt_or, Bool.or_eq_true] at h
    rcases h with h | h
    · exact os_lt hI (by omega) h
    · rw [(bt_sh (by omega)).mp h]; exact h1
def zEd (n : Nat) (c e : Nat → Nat) (p q : Nat) : Prop := p < n ∧ bt (os e p (c p)) q = true
theorem zEd_lt (hI : zI n me lo c e) (p q : Nat) (h : zEd n c e p q) : q < n := os_lt hI (Nat.le_refl _) h.2
theorem oa_bt {S : Int32} {q : Nat} : ∀ {k : Nat}, k ≤ 12 → (bt (oa c e S k) q = true ↔ ∃ p, p < k ∧ bt S p = true ∧ bt (os e p (c p)) q = true)
  | 0, _ => by
    rw [show oa c e S 0 = 0 from by simp [oa], bt_0]
    exact ⟨fun h => (by cases h), fun h => by obtain ⟨p, h1, h2⟩ := h; exact absurd h1 (Nat.not_lt_zero _)⟩
  | k + 1, hk => by
    have ih := oa_bt (S := S) (q := q) (k := k) (by omega)
    simp only [oa]
    by_cases h : (S >>> (nI k &&& 31)) &&& 1 = 1
    · rw [if_pos h, bt_or, Bool.or_eq_true, ih]
      have h9 := (bt_at (by omega)).mp h
      constructor
      · rintro (⟨p, h1, h2, h3⟩ | h1)
        · exact ⟨p, by omega, h2, h3⟩
        · exact ⟨k, by omega, h9, h1⟩
      · rintro ⟨p, h1, h2, h3⟩
        by_cases hp : p = k
        · subst hp; exact Or.inr h3
        · exact Or.inl ⟨p, by omega, h2, h3⟩
    · rw [if_neg h, ih]
      constructor
      · rintro ⟨p, h1, h2, h3⟩; exact ⟨p, by omega, h2, h3⟩
      · rintro ⟨p, h1, h2, h3⟩
        by_cases hp : p = k
        · subst hp; exact absurd ((bt_at (by omega)).mpr h2) h
        · exact ⟨p, by omega, h2, h3⟩
theorem fp_s {S : Int32} {q : Nat} : ∀ {k : Nat}, bt (fp c e S k) q = true → bt (fp c e S (k + 1)) q = true := fun {k} h => by
  simp only [fp]
  by_cases h2 : (fp c e S k >>> (nI k &&& 31)) &&& 1 = 1
  · rw [if_pos h2, bt_or, h, Bool.true_or]
  · rw [if_neg h2]; exact h
theorem fp_m {S : Int32} {q k : Nat} : ∀ {m : Nat}, k ≤ m → bt (fp c e S k) q = true → bt (fp c e S m) q = true
  | 0, hm, h => by
    have : k = 0 := by omega
    subst this; exact h
  | m + 1, hm, h => by
    by_cases hk : k = m + 1
    · subst hk; exact h
    · exact fp_s (fp_m (m := m) (by omega) h)
theorem fp_p {S : Int32} {p q k : Nat} (hk : k ≤ 12) (hp : p < k) (h : bt S p = true) (h2 : bt (os e p (c p)) q = true) : bt (fp c e S k) q = true := by
  refine fp_m (k := p + 1) (by omega) ?_
  have h3 : bt (fp c e S p) p = true := fp_m (k := 0) (by omega) (by simpa [fp] using h)
  simp only [fp]
  rw [if_pos ((bt_at (by omega)).mpr h3), bt_or, h2, Bool.or_true]
theorem fp_T {S : Int32} {T : Nat → Bool} (hn : n ≤ 12) (hT : zCl (zEd n c e) T) (h0 : ∀ q, bt S q = true → T q = true) : ∀ k, k ≤ n → ∀ q, bt (fp c e S k) q = true → T q = true
  | 0, _, q, h => h0 q (by simpa [fp] using h)
  | k + 1, hk, q, h => by
    have ih := fp_T hn hT h0 k (by omega)
    simp only [fp] at h
    by_cases h2 : (fp c e S k >>> (nI k &&& 31)) &&& 1 = 1
    · rw [if_pos h2, bt_or, Bool.or_eq_true] at h
      rcases h with h | h
      · exact ih q h
      · exact hT k q (ih k ((bt_at (by omega)).mp h2)) ⟨by omega, h⟩
    · rw [if_neg h2] at h; exact ih q h
theorem fd_T {S : Int32} {T : Nat → Bool} (hn : n ≤ 12) (hT : zCl (zEd n c e) T) (k : Nat) (h0 : ∀ q, bt (fd n c e S k) q = true → T q = true) : ∀ q, bt (fd n c e S (k + 1)) q = true → T q = true := by
  intro q h
  simp only [fd] at h
  rw [bt_or, Bool.or_eq_true, oa_bt hn] at h
  rcases h with h | ⟨p, h1, h2, h3⟩
  · exact h0 q h
  · exact hT p q (h0 p h2) ⟨h1, h3⟩
theorem fm_fd (hI : zI n me lo c e) (S : Int32) : fm n c e S n = fd n c e S 12 := by
  have hn := zI_n hI
  have m1 : ∀ k q, bt (fm n c e S k) q = true → bt (fm n c e S (k + 1)) q = true := fun k q h => by
    simp only [fm]
    exact fp_m (k := 0) (by omega) (by simpa [fp] using h)
  have m2 : ∀ k q, bt (fd n c e S k) q = true → bt (fd n c e S (k + 1)) q = true := fun k q h => by
    simp only [fd]
    rw [bt_or, h, Bool.true_or]
  have s1 : ∀ k (T : Nat → Bool), zCl (zEd n c e) T → (∀ q, bt (fm n c e S k) q = true → T q = true) → ∀ q, bt (fm n c e S (k + 1)) q = true → T q = true := fun k T hT h0 q h => by
    simp only [fm] at h
    exact fp_T hn hT h0 n (Nat.le_refl _) q h
  have s2 : ∀ k (T : Nat → Bool), zCl (zEd n c e) T → (∀ q, bt (fd n c e S k) q = true → T q = true) → ∀ q, bt (fd n c e S (k + 1)) q = true → T q = true := fun k T hT h0 => fd_T hn hT k h0
  have c1 : zCl (zEd n c e) (bt (fm n c e S n)) := zchain (b := fun k q => bt (fm n c e S k) q) (Nat.le_refl n) (zEd_lt hI) m1 (fun k p q h1 h2 => by
    show bt (fm n c e S (k + 1)) q = true
    simp only [fm]
    exact fp_p hn h2.1 h1 h2.2) (fun k hc q h => s1 k _ hc (fun q h => h) q h)
  have c2 : zCl (zEd n c e) (bt (fd n c e S 12)) := zchain (b := fun k q => bt (fd n c e S k) q) (N := 12) hn (zEd_lt hI) m2 (fun k p q h1 h2 => by
    show bt (fd n c e S (k + 1)) q = true
    simp only [fd]
    rw [bt_or, Bool.or_eq_true, oa_bt hn]
    exact Or.inr ⟨p, h2.1, h1, h2.2⟩) (fun k hc q h => s2 k _ hc (fun q h => h) q h)
  apply bt_ext
  intro q
  have a1 : bt (fm n c e S n) q = true → bt (fd n c e S 12) q = true := zch_T (b := fun k q => bt (fm n c e S k) q) s1 c2 (fun q h => zch_0 (b := fun k q => bt (fd n c e S k) q) m2 12 q h) n q
  have a2 : bt (fd n c e S 12) q = true → bt (fm n c e S n) q = true := zch_T (b := fun k q => bt (fd n c e S k) q) s2 c1 (fun q h => zch_0 (b := fun k q => bt (fm n c e S k) q) m1 n q h) 12 q
  cases h1 : bt (fm n c e S n) q with
  | true => exact (a1 h1).symm
  | false =>
    cases h2 : bt (fd n c e S 12) q with
    | true => rw [a2 h2] at h1; cases h1
    | false => rfl
theorem fp_y {S : Int32} {k : Nat} (hk : k < 12) (h : bt (fp c e S k) k = true) : fp c e S (k + 1) = fp c e S k ||| os e k (c k) := by simp only [fp]; rw [if_pos ((bt_at hk).mpr h)]
theorem fp_n {S : Int32} {k : Nat} (hk : k < 12) (h : ¬ bt (fp c e S k) k = true) : fp c e S (k + 1) = fp c e S k := by simp only [fp]; rw [if_neg (fun h2 => h ((bt_at hk).mp h2))]
theorem os_0 {S : Int32} {p : Nat} : S ||| os e p 0 = S := by
  apply bt_ext
  intro q
  rw [bt_or, show os e p 0 = 0 from rfl, bt_0, Bool.or_false]
theorem os_s {S : Int32} {p k : Nat} : (S ||| os e p k) ||| ((1 : Int32) <<< (nI (e (p * 4 + k)) &&& 31)) = S ||| os e p (k + 1) := by
  rw [show os e p (k + 1) = os e p k ||| ((1 : Int32) <<< (nI (e (p * 4 + k)) &&& 31)) from rfl]
  apply bt_ext
  intro q
  simp only [bt_or, Bool.or_assoc]
end ZC
theorem zw_m1 {n k : Nat} {g : zG} (hZ : zJ n g) (hk : k ≤ n) : zw (vd g n k) = -1 ↔ vd g n k = none := by
  cases hq : vd g n k with
  | none => exact ⟨fun _ => rfl, fun _ => rfl⟩
  | some b =>
    constructor
    · intro h
      obtain ⟨j, hj, rfl⟩ := vd_some hq
      obtain ⟨a, b, ha, hb, -, -, e⟩ := wd_nat hZ (p := j) (by omega)
      have h2 : zo (some (a * 100 + b)) = -1 := by
        show nI (a * 100 + b) = -1
        rw [← e]; exact h
      have h3 := (zo_m1 (r := some (a * 100 + b)) (fun q hq => by cases hq; omega)).mp h2
      cases h3
    · intro h; cases h
theorem upd_s {f : Nat → Int32} {k : Nat} {x : Int32} : upd f k x k = x := by simp [upd]
theorem upd_n {f : Nat → Int32} {k q : Nat} {x : Int32} (h : ¬ q = k) : upd f k x q = f q := by simp [upd, h]
section ZP
variable {n : Nat} {me lo : Nat → Int32} {c e : Nat → Nat} {g : zG} {p o k q : Nat}
theorem zI_come (hI : zI n me lo c e) (hn : n < 12) {m x : Nat} (hm1 : 1 ≤ m) (hm2 : m ≤ 9) (hx1 : 1 ≤ x) (hx2 : x ≤ 5) : zI (n + 1) (upd me n (nI m)) (upd lo n (nI x)) c e := by
  obtain ⟨h1, h2, h3⟩ := hI
  refine ⟨by omega, fun p hp => ?_, fun p hp => h3 p (by omega)⟩
  by_cases hpn : p = n
  · subst hpn
    have h0 := h3 p (Nat.le_refl _)
    exact ⟨by omega, fun k hk => by omega, ⟨m, hm1, hm2, upd_s⟩, ⟨x, hx1, hx2, upd_s⟩⟩
  · obtain ⟨a, b, c1, d⟩ := h2 p (by omega)
    refine ⟨a, fun k hk => Nat.lt_succ_of_lt (b k hk), ?_, ?_⟩
    · rw [upd_n hpn]; exact c1
    · rw [upd_n hpn]; exact d
theorem zI_raise (hI : zI n me lo c e) {x : Nat} (hx1 : 1 ≤ x) (hx2 : x ≤ 5) : zI n me (upd lo p (nI x)) c e := by
  obtain ⟨h1, h2, h3⟩ := hI
  refine ⟨h1, fun q hq => ?_, h3⟩
  obtain ⟨a, b, c1, d⟩ := h2 q hq
  refine ⟨a, b, c1, ?_⟩
  by_cases hpn : q = p
  · subst hpn; rw [upd_s]; exact ⟨x, hx1, hx2, rfl⟩
  · rw [upd_n hpn]; exact d
theorem zI_add (hI : zI n me lo c e) (hp : p < n) (ho : o < n) (hc : c p < 4) : zI n me lo (zu c p (c p + 1)) (zu e (p * 4 + c p) o) := by
  obtain ⟨h1, h2, h3⟩ := hI
  refine ⟨h1, fun q hq => ?_, fun q hq => ?_⟩
  · obtain ⟨a, b, c1, d⟩ := h2 q hq
    refine ⟨?_, fun k hk => ?_, c1, d⟩
    · simp only [zu]
      by_cases h : q = p
      · rw [if_pos h]; omega
      · rw [if_neg h]; exact a
    · simp only [zu] at hk ⊢
      by_cases h : q = p
      · subst h
        rw [if_pos rfl] at hk
        by_cases hkc : k = c q
        · rw [if_pos (by omega)]; exact ho
        · rw [if_neg (by omega)]; exact b k (by omega)
      · rw [if_neg h] at hk
        rw [if_neg (by omega)]; exact b k hk
  · simp only [zu]
    rw [if_neg (by omega)]; exact h3 q hq
theorem zI_drop (hI : zI n me lo c e) (hp : p < n) (hk : k < c p) : zI n me lo (zu c p (c p - 1)) (zdr e p k (c p - 1)) := by
  obtain ⟨h1, h2, h3⟩ := hI
  have h4 := (h2 p hp).1
  refine ⟨h1, fun q hq => ?_, fun q hq => ?_⟩
  · obtain ⟨a, b, c1, d⟩ := h2 q hq
    refine ⟨?_, fun j hj => ?_, c1, d⟩
    · simp only [zu]
      by_cases h : q = p
      · rw [if_pos h]; omega
      · rw [if_neg h]; exact a
    · simp only [zu, zdr] at hj ⊢
      by_cases h : q = p
      · subst h
        rw [if_pos rfl] at hj
        by_cases hkc : k ≤ j
        · rw [if_pos (by omega)]; exact b (j + 1) (by omega)
        · rw [if_neg (by omega)]; exact b j (by omega)
      · rw [if_neg h] at hj
        rw [if_neg (by omega)]; exact b j hj
  · simp only [zu]
    rw [if_neg (by omega)]; exact h3 q hq
theorem wh_n {w s : Int32} (h : ¬ q = p) : wh g p w s k q = g k q := by simp [wh, z2_at, h]
theorem wh_s {w s : Nat} (hw : w ≤ 9999) (hs : s ≤ 9) : (∃ j, j < 100 ∧ wh g p (nI w) (nI s) 0 p = nI j) ∧ (∃ j, j < 100 ∧ wh g p (nI w) (nI s) 1 p = nI j) ∧ (∃ j, j ≤ 9 ∧ wh g p (nI w) (nI s) 6 p = nI j) := by
  refine ⟨⟨w / 100, by omega, ?_⟩, ⟨w % 100, by omega, ?_⟩, ⟨s, hs, ?_⟩⟩
  · have h1 : wh g p (nI w) (nI s) 0 p = nI w / 100 := by simp [wh, z2_at]
    rw [h1]; exact pk_div (d := 100) (by omega) (by decide) (by decide)
  · have h1 : wh g p (nI w) (nI s) 1 p = zrem (nI w) 100 := by simp [wh, z2_at]
    rw [h1]; exact pk_rem (d := 100) (by omega) (by decide) (by decide)
  · simp [wh, z2_at]
theorem zJ_wh (hZ : zJ n g) {w s : Nat} (hw : w ≤ 9999) (hs : s ≤ 9) : zJ n (wh g p (nI w) (nI s)) := by
  intro q hq
  by_cases h : q = p
  · subst h; exact wh_s hw hs
  · rw [wh_n h, wh_n h, wh_n h]; exact hZ q hq
theorem zJ_come (hZ : zJ n g) : zJ (n + 1) (wh g n 0 0) := by
  intro q hq
  by_cases h : q = n
  · subst h; exact wh_s (w := 0) (s := 0) (by omega) (by omega)
  · rw [wh_n h, wh_n h, wh_n h]; exact hZ q (by omega)
end ZP
