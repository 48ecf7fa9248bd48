/-! the whole class as one picture; ranges; the tellings of agrees and advise -/
def zCW (D : va_G) (cI : ClassId) (b n : Nat) (me lo : Nat → Int32) (c e : Nat → Nat) (rd tk : Int32) (g : zG) (H : Heap) : Prop :=
  va_P D vwCl (zPJ b) H ∧ va_P D vwCl (zSeats cI (b + 1) n me lo c e) H ∧ va_P D vwCl (zTalk cI (b + 10) rd tk g) H ∧ (∃ (rd1 tk1 : Int32) (g1 : zG), va_P D vwCl (zTalk cI (b + 27) rd1 tk1 g1) H) ∧ (∃ (rd2 tk2 : Int32) (g2 : zG), va_P D vwCl (zTalk cI (b + 44) rd2 tk2 g2) H)
theorem zCW_kept {D : va_G} {cI : ClassId} {b n : Nat} {me lo : Nat → Int32} {c e : Nat → Nat} {rd tk : Int32} {g : zG} {H H1 : Heap} (h : zCW D cI b n me lo c e rd tk g H) (hf : ∀ q, q < H.size → b ≤ q → q < b + 61 → H1[q]? = H[q]?) : zCW D cI b n me lo c e rd tk g H1 := by
  obtain ⟨h1, h2, h3, ⟨r1, t1, g1, h4⟩, ⟨r2, t2, g2, h5⟩⟩ := h
  exact ⟨zP_kept h1 (fun q a b c => hf q a (by omega) (by omega)), zS_kept h2 (fun q a b c => hf q a (by omega) (by omega)), zT_kept h3 (fun q a b c => hf q a (by omega) (by omega)), ⟨r1, t1, g1, zT_kept h4 (fun q a b c => hf q a (by omega) (by omega))⟩, ⟨r2, t2, g2, zT_kept h5 (fun q a b c => hf q a (by omega) (by omega))⟩⟩
theorem z_kv {p : Program} {l : Launch} {e : Env} {R : Room} {s : State} {m : MethodId} {args : Array Value} {below : List Frame} {meth : Method} {c : Code} {H : Heap} {locs : List Loc} {cells slots : Nat} {Q : State → Prop} {pc : Nat} {ls : Array Slot} {rest st0 : List Value} {a : Array Value} (hr : va_Run p l e R s m args below meth c H locs cells slots 0 0 (F0 m pc ls st0) rest (zQ none H a) (fun _ => False))
    (kk : W p l e R s m args below meth c H locs cells slots Q (F0 m (pc + 3) ls rest)) : W p l e R s m args below meth c H locs cells slots Q (F0 m pc ls st0) := by
  intro T hT X
  obtain ⟨v', st₀, t, T', L, h0, X', hL, e1, e2, ⟨hv, hh⟩, st⟩ := hr T hT X
  cases hv
  obtain ⟨t2, a1, b1⟩ := kk T' (by rw [e1, hh]) (Stand.forget X' (fun q h => (hL q h).elim))
  exact ⟨t2, st t2 a1, b1⟩
theorem z_out {q a b : Nat} (h1 : a ≤ q) (h2 : q ≤ b) (hb : b < 2147483648) : ¬ (nI q < nI a ∨ ¬ nI q ≤ nI b) := fun h => h.elim (fun h3 => nI_nlt h1 (by omega) h3) (fun h3 => h3 (nI_le h2 hb))
theorem z_rng {x : Int32} {a b : Nat} (h : ¬ (x < nI a ∨ ¬ x ≤ nI b)) (ha : a < 2147483648) (hb : b < 2147483648) : ∃ j, a ≤ j ∧ j ≤ b ∧ x = nI j := by
  have h1 : ¬ x < nI a := fun h2 => h (Or.inl h2)
  have h2 : x ≤ nI b := Classical.byContradiction fun h3 => h (Or.inr h3)
  have h0 : ¬ x < 0 := fun h3 => h1 (by
    have := Int32.lt_iff_toInt_lt.mp h3
    have e1 := nI_toInt (n := a) ha
    rw [Int32.lt_iff_toInt_lt, e1]
    have e2 : (0 : Int32).toInt = 0 := by decide
    omega)
  obtain ⟨j, hj, rfl⟩ := nI_of h0
  exact ⟨j, Nat.le_of_not_lt (fun h3 => h1 (nI_lt h3 ha)), (nI_leI hj hb).mp h2, rfl⟩
theorem z_parOk {x : Int32} {n : Nat} (h0 : ¬ x < 0) (h : x < nI n) (hn : n < 2147483648) : ∃ j, j < n ∧ x = nI j := by
  obtain ⟨j, hj, rfl⟩ := nI_of h0
  exact ⟨j, (nI_ltI hj hn).mp h, rfl⟩
/-- the first k below m of which P holds -/
def fs (P : Nat → Bool) : Nat → Option Nat
  | 0 => none
  | k + 1 => match fs P k with
    | some j => some j
    | none => if P k = true then some k else none
theorem fs_mono {P : Nat → Bool} {j : Nat} : ∀ {k m : Nat}, fs P k = some j → k ≤ m → fs P m = some j
  | k, 0, h, hm => by
    have : k = 0 := by omega
    subst this; exact h
  | k, m + 1, h, hm => by
    by_cases hk : k = m + 1
    · subst hk; exact h
    · have := fs_mono (k := k) (m := m) h (by omega)
      simp only [fs, this]
theorem fs_y {P : Nat → Bool} {k : Nat} (h : fs P k = none) (h2 : P k = true) : fs P (k + 1) = some k := by simp only [fs, h]; rw [if_pos h2]
theorem fs_n {P : Nat → Bool} {k : Nat} (h : fs P k = none) (h2 : ¬ P k = true) : fs P (k + 1) = none := by simp only [fs, h]; rw [if_neg h2]
/-- all say the same behind k rounds -/
def same (n : Nat) (me lo : Nat → Int32) (c e : Nat → Nat) (t : zT) (k : Nat) : Bool := decide (vt (rN n me lo c e t k).2.2 (wd (rN n me lo c e t k).2.2 0) n = n)
theorem same_y {n : Nat} {me lo : Nat → Int32} {c e : Nat → Nat} {t : zT} {k : Nat} (h : vt (rN n me lo c e t k).2.2 (wd (rN n me lo c e t k).2.2 0) n = n) : same n me lo c e t k = true := by simp [same, h]
theorem same_n {n : Nat} {me lo : Nat → Int32} {c e : Nat → Nat} {t : zT} {k : Nat} (h : ¬ vt (rN n me lo c e t k).2.2 (wd (rN n me lo c e t k).2.2 0) n = n) : ¬ same n me lo c e t k = true := by simp [same, h]
/-- the best of the first k, and how many -/
def av (V : Nat → Nat) : Nat → Int32 × Int32
  | 0 => (-1, -1)
  | k + 1 => if nI (V k) ≤ (av V k).2 then av V k else (nI k, nI (V k))
theorem av_le {V : Nat → Nat} {k : Nat} (h : nI (V k) ≤ (av V k).2) : av V (k + 1) = av V k := by simp only [av]; rw [if_pos h]
theorem av_gt {V : Nat → Nat} {k : Nat} (h : ¬ nI (V k) ≤ (av V k).2) : av V (k + 1) = (nI k, nI (V k)) := by simp only [av]; rw [if_neg h]
/-- how many say w behind r rounds, if it is whispered to p now -/
def vw (n : Nat) (me lo : Nat → Int32) (c e : Nat → Nat) (rd tk : Int32) (g : zG) (w : Int32) (r p : Nat) : Nat := vt (rN n me lo c e (rd, tk, wh g p w 9) r).2.2 w n
