/-! class, reference and out array, between two calls; and where a case goes on -/
def zLW (D : va_G) (cI cL : ClassId) (b n : Nat) (me lo : Nat → Int32) (c e : Nat → Nat) (rd tk : Int32) (g : zG) (H : Heap) : Prop :=
  zCW D cI b n me lo c e rd tk g H ∧ (∃ f : Nat → Int64, va_P D vwCl [(b + 66, .inl (cL, 1, .inr (.inl f)))] H) ∧ (∃ (tn : Int32) (bf : Nat → Int32), va_P D vwCl (zMo cI (b + 61) tn n (jf g me lo c) bf (zn e) (nm rd tk)) H) ∧ zI n me lo c e ∧ zJ n g
def zLK (pg : Program) (l : Launch) (ev : Env) (s : State) (m : MethodId) (below : List Frame) (meth : Method) (cd : Code) (D : va_G) (cI cL : ClassId) (b0 : Nat) (Q : State → Prop) (b i cells slots : Nat) : Prop :=
  ∀ (n : Nat) (me lo : Nat → Int32) (c e : Nat → Nat) (rd tk : Int32) (g : zG) (H1 : Heap) (ls1 : Array Slot), zLW D cI cL b n me lo c e rd tk g H1 → va_S (fun q => s.heap.size ≤ q) s.heap H1 [] →
    lv_has ls1 9 [(4, .int (nI i)), (3, .ref (b + 66)), (2, .ref (b + 61)), (1, .ref b), (0, .ref b0)] → W pg l ev room_1 s m #[Value.ref b0] below meth cd H1 [] (cells + 16) (slots + 214) Q (F0 m 1137 ls1 [])
