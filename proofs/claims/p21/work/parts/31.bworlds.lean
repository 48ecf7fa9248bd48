/-! the law's birds and its Sim: where the cells lie, and what each holds -/
theorem zOb_c {a : Nat} {x : va_E} : zC a [(a, x)] := zC_cons zC_nil
theorem zOb_kept {D : va_G} {H H1 : Heap} {a : Nat} {x : va_E} (h : va_P D vwCl [(a, x)] H) (hf : ∀ q, q < H.size → a ≤ q → q < a + 1 → H1[q]? = H[q]?) : va_P D vwCl [(a, x)] H1 := z_kept zOb_c h hf
abbrev zAr (cI : ClassId) (a n : Nat) (f : Nat → Int32) : va_W := [(a, .inl (cI, n, .inl f))]
abbrev zQr (cR : ClassId) (a n : Nat) (f : Nat → Option Nat) : va_W := [(a, zQa cR n f)]
theorem zAr_kept {D : va_G} {cI : ClassId} {H H1 : Heap} {a n : Nat} {f : Nat → Int32} (h : va_P D vwCl (zAr cI a n f) H) (hf : ∀ q, q < H.size → a ≤ q → q < a + 1 → H1[q]? = H[q]?) : va_P D vwCl (zAr cI a n f) H1 := z_kept zOb_c h hf
theorem zQr_kept {D : va_G} {cR : ClassId} {H H1 : Heap} {a n : Nat} {f : Nat → Option Nat} (h : va_P D vwCl (zQr cR a n f) H) (hf : ∀ q, q < H.size → a ≤ q → q < a + 1 → H1[q]? = H[q]?) : va_P D vwCl (zQr cR a n f) H1 := z_kept zOb_c h hf
theorem zAr_c {cI : ClassId} {a n : Nat} {f : Nat → Int32} : zC a (zAr cI a n f) := zOb_c
theorem zQr_c {cR : ClassId} {a n : Nat} {f : Nat → Option Nat} : zC a (zQr cR a n f) := zOb_c
theorem zQ_ext {D : va_G} {cR : ClassId} {H : Heap} {a n : Nat} {f g : Nat → Option Nat} (h : va_P D vwCl (zQr cR a n f) H) (e : ∀ j, j < n → f j = g j) : va_P D vwCl (zQr cR a n g) H := by
  have h0 : H[a]? = some (vp_cell cR (n, .inr (.inr (.inr (.inr f))))) := h 0 _ rfl
  refine z_one ?_
  show H[a]? = some (vp_cell cR (n, .inr (.inr (.inr (.inr g)))))
  rw [h0, vp_cell_q, vp_cell_q]
  unfold arrV
  congr 2
  exact Array.ext (by simp) (fun i h1 h2 => by simp at h1 ⊢; rw [e i h1])
/-- a bird at a, its ears at ea; its halves, from whom, over how many; how sure, its memory, how loud -/
abbrev zBw (cI : ClassId) (a ea : Nat) (h f v : Nat → Int32) (s m l : Int32) : va_W := [(a, .inr (5, [.ref (a + 1), .ref (a + 2), .ref (a + 3), .int s, .int m, .int l, .ref ea])), (a + 1, .inl (cI, 2, .inl h)), (a + 2, .inl (cI, 2, .inl f)), (a + 3, .inl (cI, 2, .inl v))]
theorem zBw_c {cI : ClassId} {a ea : Nat} {h f v : Nat → Int32} {s m l : Int32} : zC a (zBw cI a ea h f v s m l) := zC_cons (zC_cons (zC_cons (zC_cons zC_nil)))
theorem zBw_kept {D : va_G} {cI : ClassId} {H H1 : Heap} {a ea : Nat} {h f v : Nat → Int32} {s m l : Int32} (hh : va_P D vwCl (zBw cI a ea h f v s m l) H) (hf : ∀ q, q < H.size → a ≤ q → q < a + 4 → H1[q]? = H[q]?) : va_P D vwCl (zBw cI a ea h f v s m l) H1 := z_kept zBw_c hh hf
theorem zBw_to {D : va_G} {cI : ClassId} {H : Heap} {a ea : Nat} {h f v h' f' v' : Nat → Int32} {s m l s' m' l' : Int32} (hh : va_P D vwCl (zBw cI a ea h f v s m l) H) (e1 : ∀ i, i < 2 → h i = h' i) (e2 : ∀ i, i < 2 → f i = f' i) (e3 : ∀ i, i < 2 → v i = v' i) (e4 : s = s') (e5 : m = m') (e6 : l = l') : va_P D vwCl (zBw cI a ea h' f' v' s' m' l') H := by
  subst e4; subst e5; subst e6
  have h1 : va_P D vwCl [(a + 1, .inl (cI, 2, .inl h'))] H := z_arr_ext (va_P.sub (ws' := [(a + 1, .inl (cI, 2, .inl h))]) hh [1] rfl) e1
  have h2 : va_P D vwCl [(a + 2, .inl (cI, 2, .inl f'))] H := z_arr_ext (va_P.sub (ws' := [(a + 2, .inl (cI, 2, .inl f))]) hh [2] rfl) e2
  have h3 : va_P D vwCl [(a + 3, .inl (cI, 2, .inl v'))] H := z_arr_ext (va_P.sub (ws' := [(a + 3, .inl (cI, 2, .inl v))]) hh [3] rfl) e3
  intro k q hk
  match k, hk with
  | 0, hk => exact hh 0 q hk
  | 1, hk => exact h1 0 q hk
  | 2, hk => exact h2 0 q hk
  | 3, hk => exact h3 0 q hk
  | k + 4, hk => simp at hk
/-- the columns of a bird's data among all -/
def zcb (g : zG) (w p : Nat) : Nat → Int32 := fun i => g (w + i) p
/-- the ears of parrot p -/
def zer (e : Nat → Nat) (p : Nat) : Nat → Int32 := fun k => nI (e (p * 4 + k))
/-- bird j of a Sim -/
def zBd (D : va_G) (cI : ClassId) (B E : Nat → Nat) (me lo : Nat → Int32) (c e : Nat → Nat) (g : zG) (j : Nat) (H : Heap) : Prop :=
  va_P D vwCl (zBw cI (B j) (E j) (zcb g 0 j) (zcb g 2 j) (zcb g 4 j) (g 6 j) (me j) (lo j)) H ∧ va_P D vwCl (zAr cI (E j) (c j) (zer e j)) H
def zFm (D : va_G) (cI : ClassId) (n : Nat) (B E : Nat → Nat) (me lo : Nat → Int32) (c e : Nat → Nat) (g : zG) (H : Heap) : Prop := ∀ j, j < n → zBd D cI B E me lo c e g j H
/-- the references to the first n birds -/
def zbf (n : Nat) (B : Nat → Nat) : Nat → Option Nat := fun j => if j < n then some (B j) else none
theorem zbf_in {n j : Nat} {B : Nat → Nat} (h : j < n) : zbf n B j = some (B j) := if_pos h
theorem zbf_up {n : Nat} {B : Nat → Nat} : va_up (zbf n B) n (some (B n)) = zbf (n + 1) B := by
  funext j
  by_cases h : j = n
  · subst h; rw [va_up_self, zbf, if_pos (by omega)]
  · rw [va_up_ne _ _ h, zbf, zbf]
    by_cases h2 : j < n
    · rw [if_pos h2, if_pos (by omega)]
    · rw [if_neg h2, if_neg (by omega)]
theorem zbf_0 {B : Nat → Nat} : zbf 0 B = fun _ => none := by funext j; simp [zbf]
/-- where a Sim's cells lie: behind o, below t, the birds apart -/
def zSp (o t n ar : Nat) (B E : Nat → Nat) : Prop :=
  (o < ar ∧ ar < t ∧ o < t) ∧ (∀ j, j < n → (o < B j ∧ B j + 4 ≤ t) ∧ (o < E j ∧ E j < t) ∧ (ar < B j ∨ B j + 4 ≤ ar)) ∧ (∀ i j, i < n → j < n → (i ≠ j → B i + 4 ≤ B j ∨ B j + 4 ≤ B i) ∧ (E i < B j ∨ B j + 4 ≤ E i))
/-- a Sim: its object at o, its array of birds at ar -/
def zSm (D : va_G) (cI cR : ClassId) (o t ar n : Nat) (B E : Nat → Nat) (me lo : Nat → Int32) (c e : Nat → Nat) (rd tk : Int32) (g : zG) (H : Heap) : Prop :=
  va_P D vwCl [(o, .inr (6, [.ref ar, .int rd, .int tk]))] H ∧ va_P D vwCl (zQr cR ar n (zbf n B)) H ∧ zFm D cI n B E me lo c e g H ∧ zSp o t n ar B E
section ZFM
variable {D : va_G} {cI cR : ClassId} {o t ar n : Nat} {B E : Nat → Nat} {me lo : Nat → Int32} {c e : Nat → Nat} {rd tk : Int32} {g : zG} {H H1 : Heap}
theorem zBd_kept {j : Nat} (h : zBd D cI B E me lo c e g j H) (hf : ∀ q, q < H.size → (B j ≤ q ∧ q < B j + 4) ∨ q = E j → H1[q]? = H[q]?) : zBd D cI B E me lo c e g j H1 :=
  ⟨zBw_kept h.1 (fun q h1 h2 h3 => hf q h1 (Or.inl ⟨h2, h3⟩)), zAr_kept h.2 (fun q h1 h2 h3 => hf q h1 (Or.inr (by omega)))⟩
theorem zFm_kept (hs : zSp o t n ar B E) (h : zFm D cI n B E me lo c e g H) (hf : ∀ q, q < H.size → o < q → q < t → H1[q]? = H[q]?) : zFm D cI n B E me lo c e g H1 := fun j hj => by
  obtain ⟨⟨h1, h2⟩, ⟨h3, h4⟩, -⟩ := hs.2.1 j hj
  exact zBd_kept (h j hj) (fun q hq h9 => hf q hq (by omega) (by omega))
theorem zSm_kept (h : zSm D cI cR o t ar n B E me lo c e rd tk g H) (hf : ∀ q, q < H.size → o ≤ q → q < t → H1[q]? = H[q]?) : zSm D cI cR o t ar n B E me lo c e rd tk g H1 := by
  obtain ⟨h1, h2, h3, h4⟩ := h
  obtain ⟨⟨a1, a2, a3⟩, -, -⟩ := id h4
  exact ⟨zOb_kept h1 (fun q a b c => hf q a (by omega) (by omega)), zQr_kept h2 (fun q a b c => hf q a (by omega) (by omega)), zFm_kept h4 h3 (fun q a b c => hf q a (by omega) (by omega)), h4⟩
/-- bird p is written, the others stay -/
theorem zFm_set {me1 lo1 : Nat → Int32} {g1 : zG} {p : Nat} (hs : zSp o t n ar B E) (h : zFm D cI n B E me lo c e g H) (hp : p < n) (hb : va_P D vwCl (zBw cI (B p) (E p) (zcb g1 0 p) (zcb g1 2 p) (zcb g1 4 p) (g1 6 p) (me1 p) (lo1 p)) H1) (hf : ∀ q, q < H.size → ¬ (B p ≤ q ∧ q < B p + 4) → H1[q]? = H[q]?)
    (e1' : ∀ j, j ≠ p → j < n → (∀ k, k < 7 → g1 k j = g k j) ∧ me1 j = me j ∧ lo1 j = lo j) : zFm D cI n B E me1 lo1 c e g1 H1 := fun j hj => by
  obtain ⟨⟨h1, h2⟩, ⟨h3, h4⟩, -⟩ := hs.2.1 j hj
  obtain ⟨h5, h6⟩ := hs.2.2 j p hj hp
  by_cases hjp : j = p
  · subst hjp
    exact ⟨hb, zAr_kept (h j hj).2 (fun q a b c => hf q a (by omega))⟩
  · have h7 := h5 hjp
    obtain ⟨k1, k2⟩ := zBd_kept (H1 := H1) (h j hj) (fun q hq h9 => hf q hq (by omega))
    obtain ⟨x1, x2, x3⟩ := e1' j hjp hj
    exact ⟨zBw_to k1 (fun i hi => (x1 (0 + i) (by omega)).symm) (fun i hi => (x1 (2 + i) (by omega)).symm) (fun i hi => (x1 (4 + i) (by omega)).symm) (x1 6 (by omega)).symm x2.symm x3.symm, k2⟩
end ZFM
