/-! the worlds: where the cells lie, one behind another, and what each holds -/
def zn (f : Nat → Nat) : Nat → Int32 := fun q => nI (f q)
abbrev zRow (cI : ClassId) (a n : Nat) (f : Nat → Int32) : va_W := [(a, .inr (1, [.ref (a + 1)])), (a + 1, .inl (cI, n, .inl f))]
abbrev zHalves (cI : ClassId) (a : Nat) (v f w : Nat → Int32) : va_W := [(a, .inr (0, [.ref (a + 1), .ref (a + 3), .ref (a + 5)])), (a + 1, .inr (1, [.ref (a + 2)])), (a + 2, .inl (cI, 12, .inl v)), (a + 3, .inr (1, [.ref (a + 4)])), (a + 4, .inl (cI, 12, .inl f)), (a + 5, .inr (1, [.ref (a + 6)])), (a + 6, .inl (cI, 12, .inl w))]
abbrev zTalk (cI : ClassId) (b : Nat) (rd tk : Int32) (g : zG) : va_W := [(b, .inr (3, [.int rd, .int tk, .ref (b + 1), .ref (b + 3), .ref (b + 10)])), (b + 1, .inr (1, [.ref (b + 2)])), (b + 2, .inl (cI, 12, .inl (g 6))),
  (b + 3, .inr (0, [.ref (b + 4), .ref (b + 6), .ref (b + 8)])), (b + 4, .inr (1, [.ref (b + 5)])), (b + 5, .inl (cI, 12, .inl (g 0))), (b + 6, .inr (1, [.ref (b + 7)])), (b + 7, .inl (cI, 12, .inl (g 2))), (b + 8, .inr (1, [.ref (b + 9)])), (b + 9, .inl (cI, 12, .inl (g 4))),
  (b + 10, .inr (0, [.ref (b + 11), .ref (b + 13), .ref (b + 15)])), (b + 11, .inr (1, [.ref (b + 12)])), (b + 12, .inl (cI, 12, .inl (g 1))), (b + 13, .inr (1, [.ref (b + 14)])), (b + 14, .inl (cI, 12, .inl (g 3))), (b + 15, .inr (1, [.ref (b + 16)])), (b + 16, .inl (cI, 12, .inl (g 5)))]
abbrev zSeats (cI : ClassId) (b n : Nat) (me lo : Nat → Int32) (c e : Nat → Nat) : va_W := [(b, .inr (2, [.int (nI n), .ref (b + 1), .ref (b + 3), .ref (b + 5), .ref (b + 7)])), (b + 1, .inr (1, [.ref (b + 2)])), (b + 2, .inl (cI, 12, .inl me)), (b + 3, .inr (1, [.ref (b + 4)])), (b + 4, .inl (cI, 12, .inl lo)),
  (b + 5, .inr (1, [.ref (b + 6)])), (b + 6, .inl (cI, 12, .inl (zn c))), (b + 7, .inr (1, [.ref (b + 8)])), (b + 8, .inl (cI, 48, .inl (zn e)))]
abbrev zPJ (b : Nat) : va_W := [(b, .inr (4, [.ref (b + 1), .ref (b + 10), .ref (b + 27), .ref (b + 44)]))]
theorem zR_c {cI : ClassId} {a n : Nat} {f : Nat → Int32} : zC a (zRow cI a n f) := zC_cons (zC_cons zC_nil)
theorem zH_c {cI : ClassId} {a : Nat} {v f w : Nat → Int32} : zC a (zHalves cI a v f w) := zC_cons (zC_cons (zC_cons (zC_cons (zC_cons (zC_cons (zC_cons zC_nil))))))
theorem zT_c {cI : ClassId} {b : Nat} {rd tk : Int32} {g : zG} : zC b (zTalk cI b rd tk g) := zC_cons (zC_cons (zC_cons (zC_cons (zC_cons (zC_cons (zC_cons (zC_cons (zC_cons (zC_cons (zC_cons (zC_cons (zC_cons (zC_cons (zC_cons (zC_cons (zC_cons zC_nil))))))))))))))))
theorem zS_c {cI : ClassId} {b n : Nat} {me lo : Nat → Int32} {c e : Nat → Nat} : zC b (zSeats cI b n me lo c e) := zC_cons (zC_cons (zC_cons (zC_cons (zC_cons (zC_cons (zC_cons (zC_cons (zC_cons zC_nil))))))))
theorem zP_c {b : Nat} : zC b (zPJ b) := zC_cons zC_nil
section ZW
variable {D : va_G} {cI : ClassId} {H H1 : Heap}
theorem zR_kept {a n : Nat} {f : Nat → Int32} (h : va_P D vwCl (zRow cI a n f) H) (hf : ∀ q, q < H.size → a ≤ q → q < a + 2 → H1[q]? = H[q]?) : va_P D vwCl (zRow cI a n f) H1 := z_kept zR_c h hf
theorem zH_kept {a : Nat} {v f w : Nat → Int32} (h : va_P D vwCl (zHalves cI a v f w) H) (hf : ∀ q, q < H.size → a ≤ q → q < a + 7 → H1[q]? = H[q]?) : va_P D vwCl (zHalves cI a v f w) H1 := z_kept zH_c h hf
theorem zT_kept {b : Nat} {rd tk : Int32} {g : zG} (h : va_P D vwCl (zTalk cI b rd tk g) H) (hf : ∀ q, q < H.size → b ≤ q → q < b + 17 → H1[q]? = H[q]?) : va_P D vwCl (zTalk cI b rd tk g) H1 := z_kept zT_c h hf
theorem zS_kept {b n : Nat} {me lo : Nat → Int32} {c e : Nat → Nat} (h : va_P D vwCl (zSeats cI b n me lo c e) H) (hf : ∀ q, q < H.size → b ≤ q → q < b + 9 → H1[q]? = H[q]?) : va_P D vwCl (zSeats cI b n me lo c e) H1 := z_kept zS_c h hf
theorem zP_kept {b : Nat} (h : va_P D vwCl (zPJ b) H) (hf : ∀ q, q < H.size → b ≤ q → q < b + 1 → H1[q]? = H[q]?) : va_P D vwCl (zPJ b) H1 := z_kept zP_c h hf
/-- a row of a Talk is written -/
theorem zT_sub6 {b : Nat} {rd tk : Int32} {g : zG} {f : Nat → Int32} (h : va_P D vwCl (zTalk cI b rd tk g) H) (hr : va_P D vwCl (zRow cI (b + 1) 12 f) H1) (hf : ∀ q, q < H.size → ¬ zF (b + 2) (b + 3) q → H1[q]? = H[q]?) : va_P D vwCl (zTalk cI b rd tk (fun k => if k = 6 then f else g k)) H1 :=
  z_set zT_c h 2 rfl (va_P.sub (ws' := [(b + 2, .inl (cI, 12, .inl f))]) hr [1] rfl) (fun q h1 h2 => hf q h1 (fun h3 => h2 (by simp only [zF] at h3; omega)))
theorem zT_subF {b : Nat} {rd tk : Int32} {g : zG} {v f w : Nat → Int32} (h : va_P D vwCl (zTalk cI b rd tk g) H) (hr : va_P D vwCl (zHalves cI (b + 3) v f w) H1) (hf : ∀ q, q < H.size → ¬ zF (b + 3) (b + 10) q → H1[q]? = H[q]?) : va_P D vwCl (zTalk cI b rd tk (fun k => if k = 0 then v else if k = 2 then f else if k = 4 then w else g k)) H1 :=
  z_splice (w1 := (zTalk cI b rd tk g).take 3) (w2 := zHalves cI (b + 3) (g 0) (g 2) (g 4)) (w2' := zHalves cI (b + 3) v f w) (w3 := zHalves cI (b + 10) (g 1) (g 3) (g 5)) (zT_c (rd := rd) (tk := tk) (g := g)) h hr (fun q h1 h2 => hf q h1 h2)
theorem zT_subL {b : Nat} {rd tk : Int32} {g : zG} {v f w : Nat → Int32} (h : va_P D vwCl (zTalk cI b rd tk g) H) (hr : va_P D vwCl (zHalves cI (b + 10) v f w) H1) (hf : ∀ q, q < H.size → ¬ zF (b + 10) (b + 17) q → H1[q]? = H[q]?) : va_P D vwCl (zTalk cI b rd tk (fun k => if k = 1 then v else if k = 3 then f else if k = 5 then w else g k)) H1 :=
  z_splice (w1 := (zTalk cI b rd tk g).take 10) (w2 := zHalves cI (b + 10) (g 1) (g 3) (g 5)) (w2' := zHalves cI (b + 10) v f w) (w3 := []) (zT_c (rd := rd) (tk := tk) (g := g)) h hr (fun q h1 h2 => hf q h1 h2)
/-- a Talk's rows by another name -/
theorem zT_to {b : Nat} {rd tk rd' tk' : Int32} {g g' : zG} (h : va_P D vwCl (zTalk cI b rd tk g) H) (e1 : rd = rd') (e2 : tk = tk') (e : ∀ k, k < 7 → g k = g' k) : va_P D vwCl (zTalk cI b rd' tk' g') H := by
  subst e1; subst e2
  have h0 := e 0 (by decide); have h1 := e 1 (by decide); have h2 := e 2 (by decide); have h3 := e 3 (by decide); have h4 := e 4 (by decide); have h5 := e 5 (by decide); have h6 := e 6 (by decide)
  simp only [zTalk, h0, h1, h2, h3, h4, h5, h6] at h ⊢
  exact h
theorem zH_sub (k : Nat) {a : Nat} {v f w x : Nat → Int32} (h : va_P D vwCl (zHalves cI a v f w) H) (hk : k < 3) (hr : va_P D vwCl (zRow cI (a + 1 + 2 * k) 12 x) H1) (hf : ∀ q, q < H.size → ¬ zF (a + 2 + 2 * k) (a + 3 + 2 * k) q → H1[q]? = H[q]?) : va_P D vwCl (zHalves cI a (if k = 0 then x else v) (if k = 1 then x else f) (if k = 2 then x else w)) H1 := by
  rcases (show k = 0 ∨ k = 1 ∨ k = 2 by omega) with rfl | rfl | rfl
  · exact z_set zH_c h 2 rfl (va_P.sub (ws' := [(a + 2, .inl (cI, 12, .inl x))]) hr [1] rfl) (fun q h1 h2 => hf q h1 (fun h3 => h2 (by simp only [zF] at h3; omega)))
  · exact z_set zH_c h 4 rfl (va_P.sub (ws' := [(a + 4, .inl (cI, 12, .inl x))]) hr [1] rfl) (fun q h1 h2 => hf q h1 (fun h3 => h2 (by simp only [zF] at h3; omega)))
  · exact z_set zH_c h 6 rfl (va_P.sub (ws' := [(a + 6, .inl (cI, 12, .inl x))]) hr [1] rfl) (fun q h1 h2 => hf q h1 (fun h3 => h2 (by simp only [zF] at h3; omega)))
theorem zS_sub (k : Nat) {b n : Nat} {me lo x : Nat → Int32} {c e : Nat → Nat} {m : Nat} (h : va_P D vwCl (zSeats cI b n me lo c e) H) (hk : k < 2) (hm : m = 12) (hr : va_P D vwCl (zRow cI (b + 1 + 2 * k) m x) H1) (hf : ∀ q, q < H.size → ¬ zF (b + 2 + 2 * k) (b + 3 + 2 * k) q → H1[q]? = H[q]?) : va_P D vwCl (zSeats cI b n (if k = 0 then x else me) (if k = 1 then x else lo) c e) H1 := by
  subst hm
  rcases (show k = 0 ∨ k = 1 by omega) with rfl | rfl
  · exact z_set zS_c h 2 rfl (va_P.sub (ws' := [(b + 2, .inl (cI, 12, .inl x))]) hr [1] rfl) (fun q h1 h2 => hf q h1 (fun h3 => h2 (by simp only [zF] at h3; omega)))
  · exact z_set zS_c h 4 rfl (va_P.sub (ws' := [(b + 4, .inl (cI, 12, .inl x))]) hr [1] rfl) (fun q h1 h2 => hf q h1 (fun h3 => h2 (by simp only [zF] at h3; omega)))
theorem zS_subC {b n : Nat} {me lo x : Nat → Int32} {c c' e : Nat → Nat} (h : va_P D vwCl (zSeats cI b n me lo c e) H) (hr : va_P D vwCl (zRow cI (b + 5) 12 x) H1) (hx : x = zn c') (hf : ∀ q, q < H.size → ¬ zF (b + 6) (b + 7) q → H1[q]? = H[q]?) : va_P D vwCl (zSeats cI b n me lo c' e) H1 := by
  subst hx
  exact z_set zS_c h 6 rfl (va_P.sub (ws' := [(b + 6, .inl (cI, 12, .inl (zn c')))]) hr [1] rfl) (fun q h1 h2 => hf q h1 (fun h3 => h2 (by simp only [zF] at h3; omega)))
theorem zS_subE {b n : Nat} {me lo x : Nat → Int32} {c e e' : Nat → Nat} (h : va_P D vwCl (zSeats cI b n me lo c e) H) (hr : va_P D vwCl (zRow cI (b + 7) 48 x) H1) (hx : x = zn e') (hf : ∀ q, q < H.size → ¬ zF (b + 8) (b + 9) q → H1[q]? = H[q]?) : va_P D vwCl (zSeats cI b n me lo c e') H1 := by
  subst hx
  exact z_set zS_c h 8 rfl (va_P.sub (ws' := [(b + 8, .inl (cI, 48, .inl (zn e')))]) hr [1] rfl) (fun q h1 h2 => hf q h1 (fun h3 => h2 (by simp only [zF] at h3; omega)))
end ZW
theorem z_nF {lo hi q : Nat} (h : q < lo ∨ hi ≤ q) : ¬ zF lo hi q := fun h2 => by simp only [zF] at h2; omega
theorem zn_upd (f : Nat → Nat) (k x : Nat) : upd (zn f) k (nI x) = zn (fun j => if j = k then x else f j) := by
  funext j
  by_cases h : j = k
  · simp [upd, zn, h]
  · simp [upd, zn, h]
/-- a truth value as the machine has it -/
def zb (P : Prop) [Decidable P] : Int32 := if P then 1 else 0
theorem zb_0 {P : Prop} [Decidable P] (h : zb P = 0) : ¬ P := fun hp => by simp [zb, hp] at h
theorem zb_1 {P : Prop} [Decidable P] (h : ¬ zb P = 0) : P := by
  by_cases hp : P
  · exact hp
  · simp [zb, hp] at h
theorem zb_t {P : Prop} [Decidable P] (h : P) : (1 : Int32) = zb P := by simp [zb, h]
theorem zb_f {P : Prop} [Decidable P] (h : ¬ P) : (0 : Int32) = zb P := by simp [zb, h]
theorem zb_nar {P : Prop} [Decidable P] : narrow .boolean (.int (zb P)) = .int (zb P) := by
  by_cases hp : P
  · simp [zb, hp]; decide
  · simp [zb, hp]; decide
