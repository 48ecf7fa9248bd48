/-! what class and reference say, in numbers. Columns of zG: 0 first half, 1 last half, 2 and 3 from whom, 4 and 5 over how many, 6 how sure -/
abbrev zG : Type := Nat → Nat → Int32
def z2 (g : zG) (w p : Nat) (x : Int32) : zG := fun k => if k = w then upd (g w) p x else g k
theorem z2_same (g : zG) (w p : Nat) (x : Int32) : z2 g w p x w = upd (g w) p x := by simp [z2]
theorem z2_ne (g : zG) {w k p : Nat} {x : Int32} (h : k ≠ w) : z2 g w p x k = g k := by simp [z2, h]
def zmin (a b : Int32) : Int32 := if b < a then b else a
def zmax (a b : Int32) : Int32 := if a < b then b else a
def zrem (a b : Int32) : Int32 := a - a / b * b
/-- the word of a parrot -/
def wd (g : zG) (p : Nat) : Int32 := g 0 p * 100 + g 1 p
/-- how many of the first k parrots say w -/
def vt (g : zG) (w : Int32) : Nat → Nat
  | 0 => 0
  | k + 1 => if wd g k = w then vt g w k + 1 else vt g w k
/-- the loudest of the first k to which p listens -/
def hd (lo : Nat → Int32) (e : Nat → Nat) (p : Nat) : Nat → Option Nat
  | 0 => none
  | k + 1 => match hd lo e p k with
    | none => some (e (p * 4 + k))
    | some b => if lo b < lo (e (p * 4 + k)) then some (e (p * 4 + k)) else some b
def zo : Option Nat → Int32
  | none => -1
  | some q => nI q
/-- the first place below k at which p listens to o -/
def po (e : Nat → Nat) (p o : Nat) : Nat → Option Nat
  | 0 => none
  | k + 1 => match po e p o k with
    | some j => some j
    | none => if e (p * 4 + k) = o then some k else none
/-- how many of the first k listen to p -/
def ln (c e : Nat → Nat) (p : Nat) : Nat → Nat
  | 0 => 0
  | k + 1 => if po e k p (c k) = none then ln c e p k else ln c e p k + 1
/-- none of the first k says p's word -/
def nw (g : zG) (p : Nat) : Nat → Bool
  | 0 => true
  | k + 1 => nw g p k && !decide (wd g k = wd g p)
/-- different words of the first k -/
def dw (g : zG) : Nat → Nat
  | 0 => 0
  | k + 1 => if nw g k k = true then dw g k + 1 else dw g k
/-- halves of the first k that are from the court -/
def ct (g : zG) : Nat → Nat
  | 0 => 0
  | k + 1 => ct g k + (if g 2 k = -1 then 1 else 0) + (if g 3 k = -1 then 1 else 0)
/-- how sure the first k are -/
def su (g : zG) : Nat → Int32
  | 0 => 0
  | k + 1 => su g k + g 6 k
/-- halves of w of the first k -/
def lf (g : zG) (w : Int32) : Nat → Nat
  | 0 => 0
  | k + 1 => lf g w k + (if g 0 k = w / 100 then 1 else 0) + (if g 1 k = zrem w 100 then 1 else 0)
/-- the word that the most say, of the first k -/
def vd (g : zG) (n : Nat) : Nat → Option Int32
  | 0 => none
  | k + 1 => match vd g n k with
    | none => some (wd g k)
    | some b => if vt g b n < vt g (wd g k) n then some (wd g k) else some b
def zw : Option Int32 → Int32
  | none => -1
  | some w => w
/-- p hears o -/
def stB (g0 : zG) (p o : Nat) (s : Int32 × zG) : Int32 × zG :=
  if wd g0 p = wd g0 o then (s.1, z2 s.2 6 p (zmin (g0 6 p + 1) 9))
  else if g0 6 p ≤ g0 6 o then (s.1 + 1, z2 (z2 (z2 (z2 s.2 (p % 2) p (g0 (p % 2) o)) (2 + p % 2) p (nI o)) (4 + p % 2) p (zmin (g0 (4 + p % 2) o + 1) 99)) 6 p 1)
  else (s.1, z2 s.2 6 p (g0 6 p - 1))
def stH (lo : Nat → Int32) (c e : Nat → Nat) (g0 : zG) (p : Nat) (s : Int32 × zG) : Int32 × zG :=
  match hd lo e p (c p) with
  | none => s
  | some o => stB g0 p o s
def hA (lo : Nat → Int32) (c e : Nat → Nat) (g0 : zG) (s : Int32 × zG) : Nat → Int32 × zG
  | 0 => s
  | k + 1 => stH lo c e g0 k (hA lo c e g0 s k)
/-- one parrot forgets -/
def stF (rd : Int32) (me : Nat → Int32) (p : Nat) (g : zG) : zG := if zrem rd (me p + 1) = 0 then z2 g 6 p (zmax (g 6 p - 1) 0) else g
def fA (rd : Int32) (me : Nat → Int32) (g : zG) : Nat → zG
  | 0 => g
  | k + 1 => stF rd me k (fA rd me g k)
/-- a round: its number, halves taken, rows -/
abbrev zT : Type := Int32 × Int32 × zG
def rO (n : Nat) (me lo : Nat → Int32) (c e : Nat → Nat) (t : zT) : zT :=
  (t.1 + 1, (hA lo c e t.2.2 (t.2.1, t.2.2) n).1, fA t.1 me (hA lo c e t.2.2 (t.2.1, t.2.2) n).2 n)
def rN (n : Nat) (me lo : Nat → Int32) (c e : Nat → Nat) (t : zT) : Nat → zT
  | 0 => t
  | k + 1 => rO n me lo c e (rN n me lo c e t k)
/-- the court whispers -/
def wh (g : zG) (p : Nat) (w s : Int32) : zG :=
  z2 (z2 (z2 (z2 (z2 (z2 (z2 g 0 p (w / 100)) 2 p (-1)) 4 p 0) 1 p (zrem w 100)) 3 p (-1)) 5 p 0) 6 p s
/-- those to whom p listens, the first k, as a set -/
def os (e : Nat → Nat) (p : Nat) : Nat → Int32
  | 0 => 0
  | k + 1 => os e p k ||| ((1 : Int32) <<< (nI (e (p * 4 + k)) &&& 31))
def zbit (S : Int32) (p : Nat) : Prop := (S >>> (nI p &&& 31)) &&& 1 = 1
/-- those to whom the members of S listen, of the first k parrots -/
noncomputable def oa (c e : Nat → Nat) (S : Int32) : Nat → Int32
  | 0 => 0
  | k + 1 => if (S >>> (nI k &&& 31)) &&& 1 = 1 then oa c e S k ||| os e k (c k) else oa c e S k
noncomputable def fd (n : Nat) (c e : Nat → Nat) (S : Int32) : Nat → Int32
  | 0 => S
  | k + 1 => fd n c e S k ||| oa c e (fd n c e S k) n
/-- the tellings, and the checksum -/
noncomputable def tp (n : Nat) (g : zG) (me lo : Nat → Int32) (c e : Nat → Nat) (p : Nat) : Nat → Int32
  | 0 => wd g p
  | 1 => g 6 p
  | 2 => me p
  | 3 => lo p
  | 4 => nI (c p)
  | 5 => nI (ln c e p n)
  | _ => zo (hd lo e p (c p))
def th (g : zG) (p h : Nat) : Nat → Int32
  | 0 => g h p
  | 1 => g (2 + h) p
  | _ => g (4 + h) p
def tj (n : Nat) (t : zT) : Nat → Int32
  | 0 => t.1
  | 1 => nI n
  | 2 => nI (dw t.2.2 n)
  | 3 => nI (ct t.2.2 n)
  | 4 => su t.2.2 n
  | _ => t.2.1
/-- x numbers f 0, f 1 .. mixed into d -/
def mx (f : Nat → Int32) (d : Int64) : Nat → Int64
  | 0 => d
  | k + 1 => mx f d k * 31 + (f k).toInt64
noncomputable def dp (n : Nat) (g : zG) (me lo : Nat → Int32) (c e : Nat → Nat) (p : Nat) (d : Int64) : Int64 :=
  mx (fun k => nI (e (p * 4 + k))) (mx (th g p 1) (mx (th g p 0) (mx (tp n g me lo c e p) d 7) 3) 3) (c p)
noncomputable def dA (n : Nat) (g : zG) (me lo : Nat → Int32) (c e : Nat → Nat) (d : Int64) : Nat → Int64
  | 0 => d
  | k + 1 => dp n g me lo c e k (dA n g me lo c e d k)
noncomputable def dg (n : Nat) (t : zT) (me lo : Nat → Int32) (c e : Nat → Nat) : Int64 := dA n t.2.2 me lo c e (mx (tj n t) 911 6) n
/-- what always holds of a jury -/
def zI (n : Nat) (me lo : Nat → Int32) (c e : Nat → Nat) : Prop :=
  n ≤ 12 ∧ (∀ p, p < n → c p ≤ 4 ∧ (∀ k, k < c p → e (p * 4 + k) < n) ∧ (∃ j, 1 ≤ j ∧ j ≤ 9 ∧ me p = nI j) ∧ (∃ j, 1 ≤ j ∧ j ≤ 5 ∧ lo p = nI j)) ∧ (∀ p, n ≤ p → c p = 0)
def zJ (n : Nat) (g : zG) : Prop :=
  ∀ p, p < n → (∃ j, j < 100 ∧ g 0 p = nI j) ∧ (∃ j, j < 100 ∧ g 1 p = nI j) ∧ (∃ j, j ≤ 9 ∧ g 6 p = nI j)
