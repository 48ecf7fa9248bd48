/-! numbers of the law's checks -/
theorem vt_all {g : zG} {w : Int32} : ∀ {n : Nat}, vt g w n = n → ∀ j, j < n → wd g j = w
  | 0, _, j, h => absurd h (Nat.not_lt_zero _)
  | n + 1, h, j, hj => by
    have h1 := vt_le g w n
    simp only [vt] at h
    by_cases hw : wd g n = w
    · rw [if_pos hw] at h
      by_cases hjn : j = n
      · subst hjn; exact hw
      · exact vt_all (n := n) (by omega) j (by omega)
    · rw [if_neg hw] at h; omega
/-! bits -/
def bt (S : Int32) (q : Nat) : Bool := S.toBitVec.getLsbD q
theorem bt_ge {S : Int32} {q : Nat} (h : 32 ≤ q) : bt S q = false := BitVec.getLsbD_of_ge _ _ h
theorem bt_ext {S T : Int32} (h : ∀ q, bt S q = bt T q) : S = T := Int32.toBitVec_inj.mp (BitVec.eq_of_getLsbD_eq (fun i _ => h i))
theorem bt_or {S T : Int32} {q : Nat} : bt (S ||| T) q = (bt S q || bt T q) := by
  simp only [bt, Int32.toBitVec_or, BitVec.getLsbD_or]
theorem bt_0 {q : Nat} : bt 0 q = false := by
  show (0#32).getLsbD q = false
  exact BitVec.getLsbD_zero
theorem bt_sh0 : ∀ a, a < 12 → ∀ q, q < 32 → bt ((1 : Int32) <<< (nI a &&& 31)) q = decide (q = a) := by decide +kernel
theorem bt_sh {a q : Nat} (ha : a < 12) : bt ((1 : Int32) <<< (nI a &&& 31)) q = true ↔ q = a := by
  by_cases hq : q < 32
  · rw [bt_sh0 a ha q hq]; simp
  · rw [bt_ge (by omega)]
    constructor
    · intro h; cases h
    · intro h; omega
theorem bt_one {v : Int32} : v &&& 1 = 1 ↔ bt v 0 = true := by
  constructor
  · intro h
    have := congrArg (fun x => bt x 0) h
    simp only [bt, Int32.toBitVec_and, BitVec.getLsbD_and] at this
    have e1 : (1 : Int32).toBitVec.getLsbD 0 = true := by decide
    rw [e1, Bool.and_true] at this
    exact this
  · intro h
    apply bt_ext
    intro q
    simp only [bt, Int32.toBitVec_and, BitVec.getLsbD_and]
    by_cases hq : q = 0
    · subst hq
      have h' : v.toBitVec.getLsbD 0 = true := h
      rw [h', Bool.true_and]
    · have e1 : (1 : Int32).toBitVec.getLsbD q = false := by
        show (1#32).getLsbD q = false
        rw [BitVec.getLsbD_one]
        simp [hq]
      rw [e1, Bool.and_false]
theorem bt_sm : ∀ p, p < 12 → ((nI p &&& 31).toBitVec.smod 32).toNat = p := by decide +kernel
theorem bt_at {S : Int32} {p : Nat} (hp : p < 12) : (S >>> (nI p &&& 31)) &&& 1 = 1 ↔ bt S p = true := by
  rw [bt_one]
  simp only [bt, Int32.toBitVec_shiftRight, BitVec.sshiftRight']
  rw [bt_sm p hp, BitVec.getLsbD_sshiftRight]
  simp [show p < 32 by omega]
section ZLC
variable {n : Nat} {me lo : Nat → Int32} {c e : Nat → Nat} {rd tk : Int32} {g : zG} {k o : Nat}
/-! one parrot's row of a round, case by case -/
theorem stH_oth {j : Nat} (h0 : j ≠ k % 2) (h2 : j ≠ 2 + k % 2) (h4 : j ≠ 4 + k % 2) (h6 : j ≠ 6) : (stH lo c e g k (0, g)).2 j k = g j k := by
  cases hh : hd lo e k (c k) with
  | none => unfold stH; rw [hh]
  | some o =>
    rw [stH_o hh]
    unfold stB
    by_cases h1 : wd g k = wd g o
    · rw [if_pos h1]; exact z2_col g h6
    · rw [if_neg h1]
      by_cases h9 : g 6 k ≤ g 6 o
      · rw [if_pos h9]
        show z2 (z2 (z2 (z2 g _ _ _) _ _ _) _ _ _) _ _ _ j k = _
        rw [z2_col _ h6, z2_col _ h4, z2_col _ h2, z2_col _ h0]
      · rw [if_neg h9]; exact z2_col g h6
theorem z1_oth {h w : Nat} (hk : k < n) (hh : h = 1 - k % 2) (hw : w ≤ 2) : th (zgP n me lo c e rd tk g) k h w = th g k h w := by
  subst hh
  rcases (show w = 0 ∨ w = 1 ∨ w = 2 by omega) with rfl | rfl | rfl
  · show zgP n me lo c e rd tk g (1 - k % 2) k = g (1 - k % 2) k
    rw [zgP_o hk (by omega), stH_oth (by omega) (by omega) (by omega) (by omega)]
  · show zgP n me lo c e rd tk g (2 + (1 - k % 2)) k = g (2 + (1 - k % 2)) k
    rw [zgP_o hk (by omega), stH_oth (by omega) (by omega) (by omega) (by omega)]
  · show zgP n me lo c e rd tk g (4 + (1 - k % 2)) k = g (4 + (1 - k % 2)) k
    rw [zgP_o hk (by omega), stH_oth (by omega) (by omega) (by omega) (by omega)]
/-- it keeps its word -/
def zkp (lo : Nat → Int32) (c e : Nat → Nat) (g : zG) (k : Nat) (x : Int32) : Prop := (∀ j, j ≠ 6 → (stH lo c e g k (0, g)).2 j k = g j k) ∧ (stH lo c e g k (0, g)).2 6 k = x ∧ (stH lo c e g k (0, g)).1 = 0
theorem zkp_N (h : hd lo e k (c k) = none) : zkp lo c e g k (g 6 k) := by
  have h3 : stH lo c e g k (0, g) = (0, g) := by unfold stH; rw [h]
  unfold zkp; rw [h3]; exact ⟨fun _ _ => rfl, rfl, rfl⟩
theorem zkp_A (h : hd lo e k (c k) = some o) (hw : wd g o = wd g k) : zkp lo c e g k (zmin (g 6 k + 1) 9) := by
  have h3 : stB g k o (0, g) = (0, z2 g 6 k (zmin (g 6 k + 1) 9)) := by unfold stB; rw [if_pos hw.symm]
  unfold zkp; rw [stH_o h, h3]; exact ⟨fun j hj => z2_col g hj, z2_at g 6 k _, rfl⟩
theorem zkp_K (h : hd lo e k (c k) = some o) (hw : ¬ wd g o = wd g k) (h9 : g 6 o < g 6 k) : zkp lo c e g k (g 6 k - 1) := by
  have h3 : stB g k o (0, g) = (0, z2 g 6 k (g 6 k - 1)) := by unfold stB; rw [if_neg (fun h8 => hw h8.symm), if_neg (Int32.not_le.mpr h9)]
  unfold zkp; rw [stH_o h, h3]; exact ⟨fun j hj => z2_col g hj, z2_at g 6 k _, rfl⟩
theorem zkp_th {x : Int32} {h w : Nat} (hz : zkp lo c e g k x) (hk : k < n) (hh : h < 2) (hw : w ≤ 2) : th (zgP n me lo c e rd tk g) k h w = th g k h w := by
  rcases (show w = 0 ∨ w = 1 ∨ w = 2 by omega) with rfl | rfl | rfl
  · show zgP n me lo c e rd tk g h k = g h k
    rw [zgP_o hk (by omega), hz.1 _ (by omega)]
  · show zgP n me lo c e rd tk g (2 + h) k = g (2 + h) k
    rw [zgP_o hk (by omega), hz.1 _ (by omega)]
  · show zgP n me lo c e rd tk g (4 + h) k = g (4 + h) k
    rw [zgP_o hk (by omega), hz.1 _ (by omega)]
/-- it takes -/
theorem stH_T (h : hd lo e k (c k) = some o) (hw : ¬ wd g o = wd g k) (h9 : ¬ g 6 o < g 6 k) : stH lo c e g k (0, g) = (0 + 1, z2 (z2 (z2 (z2 g (k % 2) k (g (k % 2) o)) (2 + k % 2) k (nI o)) (4 + k % 2) k (zmin (g (4 + k % 2) o + 1) 99)) 6 k 1) := by
  rw [stH_o h]; unfold stB; rw [if_neg (fun h8 => hw h8.symm), if_pos (Int32.not_lt.mp h9)]
theorem z1_T0 {h' : Nat} (h : hd lo e k (c k) = some o) (hw : ¬ wd g o = wd g k) (h9 : ¬ g 6 o < g 6 k) (hk : k < n) (hh : h' = k % 2) : th (zgP n me lo c e rd tk g) k h' 0 = th g o h' 0 := by
  subst hh
  show zgP n me lo c e rd tk g (k % 2) k = g (k % 2) o
  rw [zgP_o hk (by omega), stH_T h hw h9]
  show z2 (z2 (z2 (z2 g _ _ _) _ _ _) _ _ _) _ _ _ (k % 2) k = _
  rw [z2_col _ (by omega), z2_col _ (by omega), z2_col _ (by omega), z2_at]
theorem z1_T1 {h' : Nat} (h : hd lo e k (c k) = some o) (hw : ¬ wd g o = wd g k) (h9 : ¬ g 6 o < g 6 k) (hk : k < n) (hh : h' = k % 2) : th (zgP n me lo c e rd tk g) k h' 1 = nI o := by
  subst hh
  show zgP n me lo c e rd tk g (2 + k % 2) k = nI o
  rw [zgP_o hk (by omega), stH_T h hw h9]
  show z2 (z2 (z2 (z2 g _ _ _) _ _ _) _ _ _) _ _ _ (2 + k % 2) k = _
  rw [z2_col _ (by omega), z2_col _ (by omega), z2_at]
theorem zmin_comm (a b : Int32) : zmin a b = zmin b a := by
  unfold zmin
  by_cases h1 : b < a
  · rw [if_pos h1, if_neg (Int32.not_lt.mpr (Int32.le_of_lt h1))]
  · rw [if_neg h1]
    by_cases h2 : a < b
    · rw [if_pos h2]
    · rw [if_neg h2]; exact Int32.le_antisymm (Int32.not_lt.mp h1) (Int32.not_lt.mp h2)
theorem zmax_comm (a b : Int32) : zmax a b = zmax b a := by
  unfold zmax
  by_cases h1 : a < b
  · rw [if_pos h1, if_neg (Int32.not_lt.mpr (Int32.le_of_lt h1))]
  · rw [if_neg h1]
    by_cases h2 : b < a
    · rw [if_pos h2]
    · rw [if_neg h2]; exact Int32.le_antisymm (Int32.not_lt.mp h2) (Int32.not_lt.mp h1)
theorem z1_T2 {h' : Nat} (h : hd lo e k (c k) = some o) (hw : ¬ wd g o = wd g k) (h9 : ¬ g 6 o < g 6 k) (hk : k < n) (hh : h' = k % 2) : th (zgP n me lo c e rd tk g) k h' 2 = zmin 99 (th g o h' 2 + 1) := by
  subst hh
  show zgP n me lo c e rd tk g (4 + k % 2) k = zmin 99 (g (4 + k % 2) o + 1)
  rw [zgP_o hk (by omega), stH_T h hw h9, zmin_comm]
  show z2 (z2 (z2 (z2 g _ _ _) _ _ _) _ _ _) _ _ _ (4 + k % 2) k = _
  rw [z2_col _ (by omega), z2_at]
theorem zst_T6 (h : hd lo e k (c k) = some o) (hw : ¬ wd g o = wd g k) (h9 : ¬ g 6 o < g 6 k) : (stH lo c e g k (0, g)).2 6 k = 1 := by
  rw [stH_T h hw h9]; exact z2_at _ 6 k 1
/-- how sure, behind the round -/
theorem zsv_n {s1 : Int32} (hk : k < n) (h : (stH lo c e g k (0, g)).2 6 k = s1) (h2 : ¬ zrem rd (me k + 1) = 0) : s1 = zgP n me lo c e rd tk g 6 k := by
  rw [zgP_col hk, stF_6, h]; exact zfs_ne h2
theorem zsv_y {s1 : Int32} (hk : k < n) (h : (stH lo c e g k (0, g)).2 6 k = s1) (h2 : zrem rd (me k + 1) = 0) : zmax 0 (s1 - 1) = zgP n me lo c e rd tk g 6 k := by
  rw [zgP_col hk, stF_6, h, zmax_comm]; unfold zfs; rw [if_pos h2]
theorem tp_ge {g1 : zG} {w : Nat} (h : 2 ≤ w) : tp n g1 me lo c e k w = tp n g me lo c e k w := by
  match w, h with
  | 2, _ => rfl
  | 3, _ => rfl
  | 4, _ => rfl
  | 5, _ => rfl
  | w + 6, _ => rfl
/-! what it hears is in its source -/
theorem os_bt (hI : zI n me lo c e) {p j : Nat} : ∀ {m : Nat}, m ≤ c p → j < m → bt (os e p m) (e (p * 4 + j)) = true
  | 0, _, h => absurd h (Nat.not_lt_zero _)
  | m + 1, hm, h => by
    rw [show os e p (m + 1) = os e p m ||| ((1 : Int32) <<< (nI (e (p * 4 + m)) &&& 31)) from rfl, bt_or, Bool.or_eq_true]
    by_cases hj : j = m
    · subst hj
      right
      have h1 := zI_e hI (p := p) (k := j) (by omega)
      have h2 := zI_n hI
      exact (bt_sh (by omega)).mpr rfl
    · left; exact os_bt hI (by omega) (by omega)
theorem fd_bt {S : Int32} {q : Nat} (h : bt S q = true) : ∀ k, bt (fd n c e S k) q = true
  | 0 => h
  | k + 1 => by rw [show fd n c e S (k + 1) = fd n c e S k ||| oa c e (fd n c e S k) n from rfl, bt_or, fd_bt h k, Bool.true_or]
theorem src_in (hI : zI n me lo c e) (h : hd lo e k (c k) = some o) : ¬ (fd n c e (os e k (c k)) 12 >>> (nI o &&& 31)) &&& 1 = 0 := by
  obtain ⟨j, hj, he⟩ := hd_lt h
  have h1 := os_bt hI (p := k) (Nat.le_refl _) hj
  rw [he] at h1
  have h2 := (bt_at (S := fd n c e (os e k (c k)) 12) (p := o) (by have := zI_hd hI h; have := zI_n hI; omega)).mpr (fd_bt h1 12)
  rw [h2]; decide
/-! where halves come from -/
theorem zV_ov {w : Nat} (hV : zV n g) (hk : k < n) (hw : w < 2) (hn : n ≤ 12) : (0 : Int32) ≤ th g k w 1 ↔ ¬ th g k w 2 = 0 := by
  show (0 : Int32) ≤ g (2 + w) k ↔ ¬ g (4 + w) k = 0
  rcases hV k hk w hw with ⟨h1, h2⟩ | ⟨q, j, hq, -, hj, hj2, h1, h2⟩
  · rw [h1, h2]; exact ⟨fun h => absurd h (by decide), fun h => absurd rfl h⟩
  · rw [h1, h2]; exact ⟨fun _ => nI_ne0 (by omega) (by omega), fun _ => nI_pos' (by omega)⟩
theorem zV_nk {w : Nat} (hV : zV n g) (hk : k < n) (hw : w < 2) (hn : n ≤ 12) : ¬ th g k w 1 = nI k := by
  show ¬ g (2 + w) k = nI k
  rcases hV k hk w hw with ⟨h1, -⟩ | ⟨q, j, hq, hqk, -, -, h1, -⟩
  · rw [h1]; exact fun h => absurd (by rw [← h]; decide : nI k < 0) (nI_pos (by omega))
  · rw [h1]; exact fun h => hqk ((nI_eq (by omega) (by omega)).mp h)
/-! votes -/
/-- the most votes that one of the first k has -/
def mo (g : zG) (n : Nat) : Nat → Nat
  | 0 => 0
  | k + 1 => max (mo g n k) (vt g (wd g k) n)
theorem mo_le (g : zG) (n : Nat) : ∀ k, mo g n k ≤ n
  | 0 => Nat.zero_le _
  | k + 1 => Nat.max_le.mpr ⟨mo_le g n k, vt_le g _ n⟩
theorem zmax_nat {a b : Nat} (ha : a < 1000) (hb : b < 1000) : zmax (nI a) (nI b) = nI (max a b) := by
  unfold zmax
  by_cases h : nI a < nI b
  · rw [if_pos h]; have := (nI_ltI (by omega) (by omega)).mp h; rw [Nat.max_eq_right (by omega)]
  · rw [if_neg h]; have h2 : ¬ a < b := fun h3 => h ((nI_ltI (by omega) (by omega)).mpr h3); rw [Nat.max_eq_left (by omega)]
theorem vd_mo (g : zG) (n : Nat) : ∀ k, k ≤ n → zvm g n (vd g n k) = mo g n k
  | 0, _ => rfl
  | k + 1, hk => by
    have ih := vd_mo g n k (by omega)
    show _ = max (mo g n k) (vt g (wd g k) n)
    by_cases h : vt g (wd g k) n ≤ zvm g n (vd g n k)
    · rw [vd_le h (by omega), ih, Nat.max_eq_left (by omega)]
    · rw [vd_gt h, Nat.max_eq_right (by omega)]; rfl
theorem vd_is (hn : 0 < n) : ∃ j, j < n ∧ vd g n n = some (wd g j) := by
  cases hq : vd g n n with
  | none =>
    have h1 := vd_mo g n n (Nat.le_refl _)
    rw [hq] at h1
    have h2 : ∀ m, 0 < m → m ≤ n → 1 ≤ mo g n m := fun m hm hmn => by
      cases m with
      | zero => exact absurd hm (Nat.not_lt_zero _)
      | succ m => exact Nat.le_trans (vt_pos (g := g) (k := m) (n := n) (by omega)) (Nat.le_max_right _ _)
    have h3 := h2 n hn (Nat.le_refl _)
    have h4 : (0 : Nat) = mo g n n := h1
    omega
  | some b =>
    obtain ⟨j, hj, rfl⟩ := vd_some hq
    exact ⟨j, hj, rfl⟩
theorem mo_all (hn : 0 < n) : mo g n n = n ↔ vt g (wd g 0) n = n := by
  have h1 := vd_mo g n n (Nat.le_refl _)
  obtain ⟨j, hj, hq⟩ := vd_is (g := g) hn
  rw [hq] at h1
  have h2 : vt g (wd g j) n = mo g n n := h1
  constructor
  · intro h
    have h3 := vt_all (h2.trans h) 0 hn
    rw [h3]; exact h2.trans h
  · intro h
    have h3 := vt_all h j hj
    rw [← h2, h3, h]
theorem wd_lt {p : Nat} (hZ : zJ n g) (hp : p < n) : ∃ w, w ≤ 9999 ∧ wd g p = nI w := by
  obtain ⟨a, b, ha, hb, -, -, e⟩ := wd_nat hZ hp
  exact ⟨a * 100 + b, by omega, e⟩
theorem lf_vt {w : Nat} (hZ : zJ n g) (hw : w ≤ 9999) : ∀ m, m ≤ n → vt g (nI w) m * 2 ≤ lf g (nI w) m
  | 0, _ => Nat.le_refl _
  | m + 1, hm => by
    have ih := lf_vt hZ hw m (by omega)
    by_cases h : wd g m = nI w
    · obtain ⟨a, b, ha, hb, ea, eb, ew⟩ := wd_nat hZ (p := m) (by omega)
      have hwab : w = a * 100 + b := ((nI_eq (by omega) (by omega)).mp (h.symm.trans ew))
      have h0 : g 0 m = nI w / 100 := by
        rw [ea, show nI w / 100 = nI (w / 100) from pk_div (d := 100) (by omega) (by decide) (by decide), show w / 100 = a by omega]
      have h1 : g 1 m = zrem (nI w) 100 := by
        rw [eb, show zrem (nI w) 100 = nI (w % 100) from pk_rem (d := 100) (by omega) (by decide) (by decide), show w % 100 = b by omega]
      have hv : vt g (nI w) (m + 1) = vt g (nI w) m + 1 := by simp only [vt]; rw [if_pos h]
      rw [lf_11 h0 h1, hv]; omega
    · have hv : vt g (nI w) (m + 1) = vt g (nI w) m := by simp only [vt]; rw [if_neg h]
      rw [hv]
      refine Nat.le_trans ih ?_
      simp only [lf]; omega
/-! who is told to agree in some rounds, does in one less -/
theorem fs_shift {P : Nat → Bool} : ∀ m, fs P (m + 1) = if P 0 = true then some 0 else (fs (fun j => P (j + 1)) m).map (· + 1)
  | 0 => by
    simp only [fs]
    by_cases h : P 0 = true
    · rw [if_pos h, if_pos h]
    · rw [if_neg h, if_neg h]; rfl
  | m + 1 => by
    have ih := fs_shift (P := P) m
    rw [show fs P (m + 1 + 1) = (match fs P (m + 1) with | some j => some j | none => if P (m + 1) = true then some (m + 1) else none) from rfl, ih]
    by_cases h : P 0 = true
    · rw [if_pos h, if_pos h]
    · rw [if_neg h, if_neg h]
      rw [show fs (fun j => P (j + 1)) (m + 1) = (match fs (fun j => P (j + 1)) m with | some j => some j | none => if P (m + 1) = true then some m else none) from rfl]
      cases fs (fun j => P (j + 1)) m with
      | some j => rfl
      | none =>
        by_cases h2 : P (m + 1) = true
        · simp [h2]
        · simp [h2]
theorem fs_lt {P : Nat → Bool} {j : Nat} : ∀ {m : Nat}, fs P m = some j → j < m ∧ P j = true
  | 0, h => by simp [fs] at h
  | m + 1, h => by
    cases hq : fs P m with
    | some i =>
      simp only [fs, hq] at h
      cases h
      have := fs_lt hq
      exact ⟨by omega, this.2⟩
    | none =>
      simp only [fs, hq] at h
      by_cases h2 : P m = true
      · rw [if_pos h2] at h; cases h; exact ⟨by omega, h2⟩
      · rw [if_neg h2] at h; cases h
theorem rN_more (t : zT) : ∀ k, rN n me lo c e (rN n me lo c e t 1) k = rN n me lo c e t (k + 1)
  | 0 => rfl
  | k + 1 => by
    show rO n me lo c e (rN n me lo c e (rN n me lo c e t 1) k) = rO n me lo c e (rN n me lo c e t (k + 1))
    rw [rN_more t k]
theorem same_more (t : zT) (k : Nat) : same n me lo c e (rN n me lo c e t 1) k = same n me lo c e t (k + 1) := by unfold same; rw [rN_more]
theorem ag_pred {t : zT} {r : Nat} (h : fs (same n me lo c e t) 201 = some (r + 1)) : fs (same n me lo c e (rN n me lo c e t 1)) 201 = some r := by
  rw [fs_shift] at h
  by_cases h0 : same n me lo c e t 0 = true
  · rw [if_pos h0] at h; cases h
  · rw [if_neg h0] at h
    have e9 : (fun j => same n me lo c e t (j + 1)) = same n me lo c e (rN n me lo c e t 1) := funext fun j => (same_more t j).symm
    rw [e9] at h
    cases hq : fs (same n me lo c e (rN n me lo c e t 1)) 200 with
    | none => rw [hq] at h; cases h
    | some j =>
      rw [hq] at h
      have h2 : j + 1 = r + 1 := Option.some.inj h
      rw [show r = j by omega]
      exact fs_mono hq (by omega)
theorem ag_gt {t : zT} (h : (1 : Int32) < zo (fs (same n me lo c e t) 201)) : zo (fs (same n me lo c e (rN n me lo c e t 1)) 201) = zo (fs (same n me lo c e t) 201) - 1 := by
  cases hq : fs (same n me lo c e t) 201 with
  | none => rw [hq] at h; exact absurd h (by decide)
  | some r =>
    rw [hq] at h
    cases r with
    | zero => exact absurd h (by decide)
    | succ r => rw [ag_pred hq]; exact (nI_pred r).symm
theorem ag_one {t : zT} (h : zo (fs (same n me lo c e t) 201) = 1) : zo (fs (same n me lo c e (rN n me lo c e t 1)) 201) = 0 := by
  cases hq : fs (same n me lo c e t) 201 with
  | none => rw [hq] at h; exact absurd h (by decide)
  | some r =>
    rw [hq] at h
    have h1 := fs_lt hq
    have h2 : nI r = nI 1 := h
    have h3 : r = 1 := (nI_eq (by omega) (by omega)).mp h2
    subst h3
    rw [ag_pred hq]; rfl
theorem ag_0 {t : zT} : zo (fs (same n me lo c e t) 201) = 0 ↔ vt t.2.2 (wd t.2.2 0) n = n := by
  have h1 := fs_shift (P := same n me lo c e t) 200
  constructor
  · intro h
    cases hq : fs (same n me lo c e t) 201 with
    | none => rw [hq] at h; exact absurd h (by decide)
    | some r =>
      rw [hq] at h
      obtain ⟨h2, h3⟩ := fs_lt hq
      have h4 : r = 0 := by
        rcases Nat.eq_zero_or_pos r with h5 | h5
        · exact h5
        · exact absurd h (nI_ne0 h5 (by omega))
      subst h4
      unfold same at h3
      exact of_decide_eq_true h3
  · intro h
    have h0 : same n me lo c e t 0 = true := by unfold same; exact decide_eq_true h
    rw [h1, if_pos h0]; rfl
theorem z_many : (rN n me lo c e (rd, tk, g) 1).2.1 - tk = (hA lo c e g (0, g) n).1 := by
  show (hA lo c e g (tk, g) n).1 - tk = _
  rw [hA_cnt0, Int32.add_comm, Int32.add_sub_cancel]
theorem z_five {x y : Int32} : x = y + (x - y) := by rw [Int32.add_comm, Int32.sub_add_cancel]
end ZLC
