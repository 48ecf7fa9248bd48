section
-- ===== PART A: goes FIRST, ahead of the names: the tables' words, and 'selects' of the private methods out of them =====
/-- a private method of a class that the tables say can be made, by its rows of tables_1 -/
def lw_okq (q : MethodName × Nat) : Prop := (q.1.cls ≠ "java/lang/invoke/MethodHandle" ∧ q.1.cls ≠ "java/lang/invoke/VarHandle") ∧ Cond.instantiable q.1.cls q.2 ∈ tables_1 ∧ Cond.privateMethod q.1 ∈ tables_1 ∧ Cond.instanceMethod q.1 ∈ tables_1
theorem lw_p0 : lw_okq (⟨"ParrotJury", "votesIn", "(LParrotJury$Talk;I)I"⟩, 4) := ⟨⟨by decide +kernel, by decide +kernel⟩, List.mem_of_getElem? (i := 16) (by decide +kernel), List.mem_of_getElem? (i := 135) (by decide +kernel), List.mem_of_getElem? (i := 136) (by decide +kernel)⟩
theorem lw_p1 : lw_okq (⟨"ParrotJury", "sayTheSame", "(LParrotJury$Talk;)Z"⟩, 4) := ⟨⟨by decide +kernel, by decide +kernel⟩, List.mem_of_getElem? (i := 16) (by decide +kernel), List.mem_of_getElem? (i := 162) (by decide +kernel), List.mem_of_getElem? (i := 163) (by decide +kernel)⟩
theorem lw_p2 : lw_okq (⟨"ParrotJury$Talk", "hearAll", "(LParrotJury$Seats;LParrotJury$Talk;)V"⟩, 5) := ⟨⟨by decide +kernel, by decide +kernel⟩, List.mem_of_getElem? (i := 60) (by decide +kernel), List.mem_of_getElem? (i := 171) (by decide +kernel), List.mem_of_getElem? (i := 172) (by decide +kernel)⟩
theorem lw_p3 : lw_okq (⟨"ParrotJury$Talk", "hear", "(IILParrotJury$Talk;)V"⟩, 5) := ⟨⟨by decide +kernel, by decide +kernel⟩, List.mem_of_getElem? (i := 60) (by decide +kernel), List.mem_of_getElem? (i := 185) (by decide +kernel), List.mem_of_getElem? (i := 186) (by decide +kernel)⟩
theorem lw_p4 : lw_okq (⟨"ParrotJury$Talk", "forgetAll", "(LParrotJury$Seats;)V"⟩, 5) := ⟨⟨by decide +kernel, by decide +kernel⟩, List.mem_of_getElem? (i := 60) (by decide +kernel), List.mem_of_getElem? (i := 210) (by decide +kernel), List.mem_of_getElem? (i := 211) (by decide +kernel)⟩
theorem lw_p5 : lw_okq (⟨"ParrotJury", "sureOfAll", "()I"⟩, 4) := ⟨⟨by decide +kernel, by decide +kernel⟩, List.mem_of_getElem? (i := 16) (by decide +kernel), List.mem_of_getElem? (i := 223) (by decide +kernel), List.mem_of_getElem? (i := 224) (by decide +kernel)⟩
theorem lw_p6 : lw_okq (⟨"ParrotJury", "tellOfJury", "(I)I"⟩, 4) := ⟨⟨by decide +kernel, by decide +kernel⟩, List.mem_of_getElem? (i := 16) (by decide +kernel), List.mem_of_getElem? (i := 233) (by decide +kernel), List.mem_of_getElem? (i := 234) (by decide +kernel)⟩
theorem lw_p7 : lw_okq (⟨"ParrotJury", "differentWords", "()I"⟩, 4) := ⟨⟨by decide +kernel, by decide +kernel⟩, List.mem_of_getElem? (i := 16) (by decide +kernel), List.mem_of_getElem? (i := 241) (by decide +kernel), List.mem_of_getElem? (i := 242) (by decide +kernel)⟩
theorem lw_p8 : lw_okq (⟨"ParrotJury", "isFirstWithItsWord", "(I)Z"⟩, 4) := ⟨⟨by decide +kernel, by decide +kernel⟩, List.mem_of_getElem? (i := 16) (by decide +kernel), List.mem_of_getElem? (i := 245) (by decide +kernel), List.mem_of_getElem? (i := 246) (by decide +kernel)⟩
theorem lw_p9 : lw_okq (⟨"ParrotJury", "halvesFromCourt", "()I"⟩, 4) := ⟨⟨by decide +kernel, by decide +kernel⟩, List.mem_of_getElem? (i := 16) (by decide +kernel), List.mem_of_getElem? (i := 249) (by decide +kernel), List.mem_of_getElem? (i := 250) (by decide +kernel)⟩
theorem lw_p10 : lw_okq (⟨"ParrotJury", "mixParrot", "(JI)J"⟩, 4) := ⟨⟨by decide +kernel, by decide +kernel⟩, List.mem_of_getElem? (i := 16) (by decide +kernel), List.mem_of_getElem? (i := 266) (by decide +kernel), List.mem_of_getElem? (i := 267) (by decide +kernel)⟩
theorem lw_p11 : lw_okq (⟨"ParrotJury", "tellOfParrot", "(II)I"⟩, 4) := ⟨⟨by decide +kernel, by decide +kernel⟩, List.mem_of_getElem? (i := 16) (by decide +kernel), List.mem_of_getElem? (i := 270) (by decide +kernel), List.mem_of_getElem? (i := 271) (by decide +kernel)⟩
theorem lw_p12 : lw_okq (⟨"ParrotJury", "tellOfHalf", "(IZI)I"⟩, 4) := ⟨⟨by decide +kernel, by decide +kernel⟩, List.mem_of_getElem? (i := 16) (by decide +kernel), List.mem_of_getElem? (i := 292) (by decide +kernel), List.mem_of_getElem? (i := 293) (by decide +kernel)⟩
theorem lw_p13 : lw_okq (⟨"java/lang/Throwable", "fillInStackTrace", "(I)Ljava/lang/Throwable;"⟩, 6) := ⟨⟨by decide +kernel, by decide +kernel⟩, List.mem_of_getElem? (i := 352) (by decide +kernel), List.mem_of_getElem? (i := 350) (by decide +kernel), List.mem_of_getElem? (i := 351) (by decide +kernel)⟩
theorem lw_p14 : lw_okq (⟨"ParrotJury", "needParrot", "(I)V"⟩, 4) := ⟨⟨by decide +kernel, by decide +kernel⟩, List.mem_of_getElem? (i := 16) (by decide +kernel), List.mem_of_getElem? (i := 423) (by decide +kernel), List.mem_of_getElem? (i := 424) (by decide +kernel)⟩
theorem lw_p15 : lw_okq (⟨"ParrotJury", "votesIfWhispered", "(III)I"⟩, 4) := ⟨⟨by decide +kernel, by decide +kernel⟩, List.mem_of_getElem? (i := 16) (by decide +kernel), List.mem_of_getElem? (i := 549) (by decide +kernel), List.mem_of_getElem? (i := 550) (by decide +kernel)⟩
def lw_privs_1 : List (MethodName × Nat) := [(⟨"ParrotJury", "votesIn", "(LParrotJury$Talk;I)I"⟩, 4), (⟨"ParrotJury", "sayTheSame", "(LParrotJury$Talk;)Z"⟩, 4), (⟨"ParrotJury$Talk", "hearAll", "(LParrotJury$Seats;LParrotJury$Talk;)V"⟩, 5), (⟨"ParrotJury$Talk", "hear", "(IILParrotJury$Talk;)V"⟩, 5), (⟨"ParrotJury$Talk", "forgetAll", "(LParrotJury$Seats;)V"⟩, 5), (⟨"ParrotJury", "sureOfAll", "()I"⟩, 4), (⟨"ParrotJury", "tellOfJury", "(I)I"⟩, 4), (⟨"ParrotJury", "differentWords", "()I"⟩, 4), (⟨"ParrotJury", "isFirstWithItsWord", "(I)Z"⟩, 4), (⟨"ParrotJury", "halvesFromCourt", "()I"⟩, 4), (⟨"ParrotJury", "mixParrot", "(JI)J"⟩, 4), (⟨"ParrotJury", "tellOfParrot", "(II)I"⟩, 4), (⟨"ParrotJury", "tellOfHalf", "(IZI)I"⟩, 4), (⟨"java/lang/Throwable", "fillInStackTrace", "(I)Ljava/lang/Throwable;"⟩, 6), (⟨"ParrotJury", "needParrot", "(I)V"⟩, 4), (⟨"ParrotJury", "votesIfWhispered", "(III)I"⟩, 4)]
theorem lw_r1 : ∀ q ∈ lw_privs_1, lw_okq q := List.forall_mem_cons.mpr ⟨lw_p0, List.forall_mem_cons.mpr ⟨lw_p1, List.forall_mem_cons.mpr ⟨lw_p2, List.forall_mem_cons.mpr ⟨lw_p3, List.forall_mem_cons.mpr ⟨lw_p4, List.forall_mem_cons.mpr ⟨lw_p5, List.forall_mem_cons.mpr ⟨lw_p6, List.forall_mem_cons.mpr ⟨lw_p7, List.forall_mem_cons.mpr ⟨lw_p8, List.forall_mem_cons.mpr ⟨lw_p9, List.forall_mem_cons.mpr ⟨lw_p10, List.forall_mem_cons.mpr ⟨lw_p11, List.forall_mem_cons.mpr ⟨lw_p12, List.forall_mem_cons.mpr ⟨lw_p13, List.forall_mem_cons.mpr ⟨lw_p14, List.forall_mem_cons.mpr ⟨lw_p15, fun _ h => absurd h List.not_mem_nil⟩⟩⟩⟩⟩⟩⟩⟩⟩⟩⟩⟩⟩⟩⟩⟩
theorem lw_p16 : lw_okq (⟨"ParrotJuryModel", "fail", "(I)I"⟩, 6) := ⟨⟨by decide +kernel, by decide +kernel⟩, List.mem_of_getElem? (i := 569) (by decide +kernel), List.mem_of_getElem? (i := 605) (by decide +kernel), List.mem_of_getElem? (i := 606) (by decide +kernel)⟩
theorem lw_p17 : lw_okq (⟨"ParrotJuryModel", "isParrot", "(I)Z"⟩, 6) := ⟨⟨by decide +kernel, by decide +kernel⟩, List.mem_of_getElem? (i := 569) (by decide +kernel), List.mem_of_getElem? (i := 614) (by decide +kernel), List.mem_of_getElem? (i := 615) (by decide +kernel)⟩
theorem lw_p18 : lw_okq (⟨"ParrotJuryModel", "place", "(II)I"⟩, 6) := ⟨⟨by decide +kernel, by decide +kernel⟩, List.mem_of_getElem? (i := 569) (by decide +kernel), List.mem_of_getElem? (i := 618) (by decide +kernel), List.mem_of_getElem? (i := 619) (by decide +kernel)⟩
theorem lw_p19 : lw_okq (⟨"ParrotJuryModel", "ju", "(II)I"⟩, 6) := ⟨⟨by decide +kernel, by decide +kernel⟩, List.mem_of_getElem? (i := 569) (by decide +kernel), List.mem_of_getElem? (i := 622) (by decide +kernel), List.mem_of_getElem? (i := 623) (by decide +kernel)⟩
theorem lw_p20 : lw_okq (⟨"ParrotJuryModel", "put", "(III)V"⟩, 6) := ⟨⟨by decide +kernel, by decide +kernel⟩, List.mem_of_getElem? (i := 569) (by decide +kernel), List.mem_of_getElem? (i := 626) (by decide +kernel), List.mem_of_getElem? (i := 627) (by decide +kernel)⟩
theorem lw_p21 : lw_okq (⟨"ParrotJuryModel", "word", "(I)I"⟩, 6) := ⟨⟨by decide +kernel, by decide +kernel⟩, List.mem_of_getElem? (i := 569) (by decide +kernel), List.mem_of_getElem? (i := 641) (by decide +kernel), List.mem_of_getElem? (i := 642) (by decide +kernel)⟩
theorem lw_p22 : lw_okq (⟨"ParrotJuryModel", "say", "(III)V"⟩, 6) := ⟨⟨by decide +kernel, by decide +kernel⟩, List.mem_of_getElem? (i := 569) (by decide +kernel), List.mem_of_getElem? (i := 645) (by decide +kernel), List.mem_of_getElem? (i := 646) (by decide +kernel)⟩
theorem lw_p23 : lw_okq (⟨"ParrotJuryModel", "parrotTold", "(II)I"⟩, 6) := ⟨⟨by decide +kernel, by decide +kernel⟩, List.mem_of_getElem? (i := 569) (by decide +kernel), List.mem_of_getElem? (i := 653) (by decide +kernel), List.mem_of_getElem? (i := 654) (by decide +kernel)⟩
theorem lw_p24 : lw_okq (⟨"ParrotJuryModel", "heard", "(I)I"⟩, 6) := ⟨⟨by decide +kernel, by decide +kernel⟩, List.mem_of_getElem? (i := 569) (by decide +kernel), List.mem_of_getElem? (i := 657) (by decide +kernel), List.mem_of_getElem? (i := 658) (by decide +kernel)⟩
theorem lw_p25 : lw_okq (⟨"ParrotJuryModel", "halfTold", "(III)I"⟩, 6) := ⟨⟨by decide +kernel, by decide +kernel⟩, List.mem_of_getElem? (i := 569) (by decide +kernel), List.mem_of_getElem? (i := 665) (by decide +kernel), List.mem_of_getElem? (i := 666) (by decide +kernel)⟩
theorem lw_p26 : lw_okq (⟨"ParrotJuryModel", "votesFor", "(I)I"⟩, 6) := ⟨⟨by decide +kernel, by decide +kernel⟩, List.mem_of_getElem? (i := 569) (by decide +kernel), List.mem_of_getElem? (i := 677) (by decide +kernel), List.mem_of_getElem? (i := 678) (by decide +kernel)⟩
theorem lw_p27 : lw_okq (⟨"ParrotJuryModel", "counted", "(I)I"⟩, 6) := ⟨⟨by decide +kernel, by decide +kernel⟩, List.mem_of_getElem? (i := 569) (by decide +kernel), List.mem_of_getElem? (i := 693) (by decide +kernel), List.mem_of_getElem? (i := 694) (by decide +kernel)⟩
theorem lw_p28 : lw_okq (⟨"ParrotJuryModel", "roundsOn", "(I)V"⟩, 6) := ⟨⟨by decide +kernel, by decide +kernel⟩, List.mem_of_getElem? (i := 569) (by decide +kernel), List.mem_of_getElem? (i := 701) (by decide +kernel), List.mem_of_getElem? (i := 702) (by decide +kernel)⟩
theorem lw_p29 : lw_okq (⟨"ParrotJuryModel", "roundOn", "()V"⟩, 6) := ⟨⟨by decide +kernel, by decide +kernel⟩, List.mem_of_getElem? (i := 569) (by decide +kernel), List.mem_of_getElem? (i := 705) (by decide +kernel), List.mem_of_getElem? (i := 706) (by decide +kernel)⟩
theorem lw_p30 : lw_okq (⟨"ParrotJuryModel", "takes", "(I)Z"⟩, 6) := ⟨⟨by decide +kernel, by decide +kernel⟩, List.mem_of_getElem? (i := 569) (by decide +kernel), List.mem_of_getElem? (i := 709) (by decide +kernel), List.mem_of_getElem? (i := 710) (by decide +kernel)⟩
theorem lw_p31 : lw_okq (⟨"ParrotJuryModel", "be", "(II)I"⟩, 6) := ⟨⟨by decide +kernel, by decide +kernel⟩, List.mem_of_getElem? (i := 569) (by decide +kernel), List.mem_of_getElem? (i := 713) (by decide +kernel), List.mem_of_getElem? (i := 714) (by decide +kernel)⟩
def lw_privs_2 : List (MethodName × Nat) := [(⟨"ParrotJuryModel", "fail", "(I)I"⟩, 6), (⟨"ParrotJuryModel", "isParrot", "(I)Z"⟩, 6), (⟨"ParrotJuryModel", "place", "(II)I"⟩, 6), (⟨"ParrotJuryModel", "ju", "(II)I"⟩, 6), (⟨"ParrotJuryModel", "put", "(III)V"⟩, 6), (⟨"ParrotJuryModel", "word", "(I)I"⟩, 6), (⟨"ParrotJuryModel", "say", "(III)V"⟩, 6), (⟨"ParrotJuryModel", "parrotTold", "(II)I"⟩, 6), (⟨"ParrotJuryModel", "heard", "(I)I"⟩, 6), (⟨"ParrotJuryModel", "halfTold", "(III)I"⟩, 6), (⟨"ParrotJuryModel", "votesFor", "(I)I"⟩, 6), (⟨"ParrotJuryModel", "counted", "(I)I"⟩, 6), (⟨"ParrotJuryModel", "roundsOn", "(I)V"⟩, 6), (⟨"ParrotJuryModel", "roundOn", "()V"⟩, 6), (⟨"ParrotJuryModel", "takes", "(I)Z"⟩, 6), (⟨"ParrotJuryModel", "be", "(II)I"⟩, 6)]
theorem lw_r2 : ∀ q ∈ lw_privs_2, lw_okq q := List.forall_mem_cons.mpr ⟨lw_p16, List.forall_mem_cons.mpr ⟨lw_p17, List.forall_mem_cons.mpr ⟨lw_p18, List.forall_mem_cons.mpr ⟨lw_p19, List.forall_mem_cons.mpr ⟨lw_p20, List.forall_mem_cons.mpr ⟨lw_p21, List.forall_mem_cons.mpr ⟨lw_p22, List.forall_mem_cons.mpr ⟨lw_p23, List.forall_mem_cons.mpr ⟨lw_p24, List.forall_mem_cons.mpr ⟨lw_p25, List.forall_mem_cons.mpr ⟨lw_p26, List.forall_mem_cons.mpr ⟨lw_p27, List.forall_mem_cons.mpr ⟨lw_p28, List.forall_mem_cons.mpr ⟨lw_p29, List.forall_mem_cons.mpr ⟨lw_p30, List.forall_mem_cons.mpr ⟨lw_p31, fun _ h => absurd h List.not_mem_nil⟩⟩⟩⟩⟩⟩⟩⟩⟩⟩⟩⟩⟩⟩⟩⟩
theorem lw_p32 : lw_okq (⟨"ParrotJuryModel", "kept", "()[[I"⟩, 6) := ⟨⟨by decide +kernel, by decide +kernel⟩, List.mem_of_getElem? (i := 569) (by decide +kernel), List.mem_of_getElem? (i := 723) (by decide +kernel), List.mem_of_getElem? (i := 724) (by decide +kernel)⟩
theorem lw_p33 : lw_okq (⟨"ParrotJuryModel", "bringBack", "([[I)V"⟩, 6) := ⟨⟨by decide +kernel, by decide +kernel⟩, List.mem_of_getElem? (i := 569) (by decide +kernel), List.mem_of_getElem? (i := 735) (by decide +kernel), List.mem_of_getElem? (i := 736) (by decide +kernel)⟩
def lw_privs_3 : List (MethodName × Nat) := [(⟨"ParrotJuryModel", "kept", "()[[I"⟩, 6), (⟨"ParrotJuryModel", "bringBack", "([[I)V"⟩, 6)]
theorem lw_r3 : ∀ q ∈ lw_privs_3, lw_okq q := List.forall_mem_cons.mpr ⟨lw_p32, List.forall_mem_cons.mpr ⟨lw_p33, fun _ h => absurd h List.not_mem_nil⟩⟩
def lw_privs : List (MethodName × Nat) := lw_privs_1 ++ (lw_privs_2 ++ (lw_privs_3))
def lw_tbl : List Cond := k2_sels lw_privs ++ tables_1
theorem lw_privs_ok : ∀ q ∈ lw_privs, lw_okq q := by
  show ∀ q ∈ lw_privs_1 ++ (lw_privs_2 ++ (lw_privs_3)), lw_okq q
  exact List.forall_mem_append.mpr ⟨lw_r1, List.forall_mem_append.mpr ⟨lw_r2, lw_r3⟩⟩
/-- the streams that the claim lets the run draw from -/
abbrev lw_cs : List Choice := [Jvm.Choice.named "NaN.bits"]
theorem lw_bits : nanBits ∈ lw_cs := by first | decide | exact List.mem_cons_self | simp [lw_cs, nanBits]
end
section
/-! ===== BEGIN words of one list among another's, by their places ===== -/
theorem goodIn_r {big : List Cond} (ws : List Cond) (ps : List Nat) (hp : ws = ps.filterMap (fun i => big[i]?)) (h : ws.all goodWord = true) : GoodIn big ws := by
  intro w hw
  have h1 := List.all_eq_true.mp h w hw
  rw [hp] at hw
  obtain ⟨i, -, hi⟩ := List.mem_filterMap.mp hw
  have hm : w ∈ big := by first | exact List.mem_of_getElem? hi | exact List.getElem?_mem hi
  exact ⟨hm, good_of_word h1⟩
theorem goodIn_app {big a b : List Cond} (ha : GoodIn big a) (hb : GoodIn big b) : GoodIn big (a ++ b) := fun w h => (List.mem_append.mp h).elim (ha w) (hb w)
theorem goodIn_ca {big a b : List Cond} {c : Cond} (ha : GoodIn big (c :: a)) (hb : GoodIn big b) : GoodIn big (c :: (a ++ b)) := fun w h => (List.mem_cons.mp h).elim (fun e => ha w (List.mem_cons.mpr (Or.inl e))) (fun h => (List.mem_append.mp h).elim (fun h => ha w (List.mem_cons.mpr (Or.inr h))) (hb w))
theorem goodIn_sub {big ws : List Cond} (hm : ∀ w ∈ ws, w ∈ big) (h : ws.all goodWord = true) : GoodIn big ws := fun w hw => ⟨hm w hw, good_of_word (List.all_eq_true.mp h w hw)⟩
/-! ===== END ===== -/

/-! ===== BEGIN exceptions that leave a method, and their catching by the caller (launches without stack traces) ===== -/
section VXA
/-! The laws vx_back, vx_callV, vx_callS, vx_callSW, vx_throw0, vx_throwS follow proofs of the library, with one case more: JvmDerived/Free/Laws.lean (Back.of_free), Shelf42/LK1.lean (callV, callS), Shelf/KitTraced.lean (throwNew0V, throwNewS). -/
/-- where a method has thrown q: the class by its name, the cell, what was written, the world -/
def vx_T (XC : String → State → State → Prop) (st : State) (q : Addr) (t : State) (mc ms : Nat) (free : Addr → Prop) : Prop :=
  ∃ (E : String) (ce : Cell) (L : List Loc), XC E st t ∧ t.heap[q]? = some ce ∧ ce.vm = .none ∧ st.vm.findClass E = some ce.cls ∧ st.WarmedH t.vm ∧ st.sameButNew ({ t with vm := st.vm } : State) L mc ms ∧ ∀ z ∈ L, free z.base
def vx_Q (Qc : Array Value → State → Outcome → State → Prop) (XC : String → State → State → Prop) (mc ms : Nat) (free : Addr → Prop) : Array Value → State → Outcome → State → Prop := fun a st o t =>
  (Qc a st o t ∧ ∃ L, FrameEnd st o t L mc ms ∧ ∀ q ∈ L, free q.base) ∨ ∃ q, o = .threw q ∧ vx_T XC st q t mc ms free
/-- a callee that returns or throws -/
def vx_Met (l : Launch) (y : MethodName) (ws : List Cond) (rm : Room) (Pc : Array Value → State → Prop) (Qc : Array Value → State → Outcome → State → Prop) (XC : String → State → State → Prop) (mc ms : Nat) (free : Addr → Prop) : Prop :=
  MetFree l y (headSpec ws rm) Pc (fun _ _ _ _ _ => True) (vx_Q Qc XC mc ms free)
def vx_Post (XC : String → State → State → Prop) (mc ms : Nat) (free : Addr → Prop) : Pt → Array Value → Addr → Pt → Prop := fun A a q B =>
  ∃ (g : JFrame) (mk : MethodId) (t : State) (L : List Loc) (E : String) (ce : Cell), B.U.heap = t.heap ∧ B.U.vm = t.vm ∧ XC E (A.U.calling g mk a) t ∧ t.heap[q]? = some ce ∧ ce.vm = .none ∧ A.U.vm.findClass E = some ce.cls ∧ B.locs = A.locs ++ L ∧ (∀ z ∈ L, free z.base) ∧ B.cells = A.cells + mc ∧ B.slots = A.slots + ms
def vx_Back (l : Launch) (R : Room) (p : Program) (e : Env) (below : List Frame) (s : State) (sargs : Array Value) (y : MethodName) (len W9 : Nat)
    (Pre : Pt → Array Value → Prop) (Post : Pt → Array Value → Option Value → Pt → Prop) (PostX : Pt → Array Value → Addr → Pt → Prop) : Prop :=
  ∀ (m : MethodId) (meth : Method) (c : Code) (A : Pt) (g : JFrame) (ig : Instr) (mk : MethodId) (a : Array Value),
    Stand p l e R s m sargs below meth c A.U A.locs A.cells A.slots → g.method = m → g.locals.size = c.maxLocals → decode c.code g.pc = .ok (ig, len) →
    2 * g.monitorRoom + (g.stack.map fun v => v.category).sum ≤ W9 → A.U.methodNamed? y = some mk → Pre A a →
    (∃ (v : Option Value) (B : Pt), Stand p l e R s m sargs below meth c B.U B.locs B.cells B.slots ∧ Post A a v B ∧
      Steps p.tables e below (doInvoke e (A.U.setTop g) [] mk a).1 (B.U.setTop { g with pc := g.pc + len, stack := v.toList ++ g.stack })) ∨
    (∃ (q : Addr) (B : Pt), Stand p l e R s m sargs below meth c B.U B.locs B.cells B.slots ∧ PostX A a q B ∧
      Steps p.tables e below (doInvoke e (A.U.setTop g) [] mk a).1 ((B.U.setTop g).pushFrame (.throwing q)))
section Payer
variable {l : Launch} {R : Room} {p : Program} {e : Env} {below : List Frame} {s : State} {sargs : Array Value} {y : MethodName} {len W9 : Nat}
theorem vx_back {ws : List Cond} {rm : Room} {Pc : Array Value → State → Prop} {Qc : Array Value → State → Outcome → State → Prop} {XC : String → State → State → Prop} {mc ms : Nat} {free : Addr → Prop} {bytes : ByteArray} {maxL : Nat} {ret : Option FieldType}
    (hM : vx_Met l y ws rm Pc Qc XC mc ms free) (hblind : FrameBlind Pc) (hrc : rm.cells = mc) (hrs : rm.slots = ms)
    (hframes : rm.frames + 1 ≤ R.frames) (hlocals : W9 + (maxL + 11) + rm.locals ≤ R.locals)
    (hws : ∀ w ∈ ws, ∀ a' U, s.WarmedH U.vm → w.before a' U = true) (hcode : Cond.code y bytes maxL ret ∈ ws) (hinit : ∀ a' U, s.WarmedH U.vm → (Cond.initialized y.cls).before a' U = true) :
    vx_Back l R p e below s sargs y len W9 (PreOf R mc ms Pc) (PostOf Qc mc ms free) (vx_Post XC mc ms free) := by
  intro m meth c A g ig mk a X hg hsize hdg hW hn hp
  have h1 : (headSpec ws rm).pre.before a A.U = true := atoms_intro fun w hw => hws w hw _ _ X.warmed
  have h2 : (Cond.code y bytes maxL ret).before a A.U = true := hws _ hcode _ _ X.warmed
  have h3 : (Cond.initialized y.cls).before a A.U = true := hinit _ _ X.warmed
  have h4 : A.cells + (headSpec ws rm).room.cells ≤ R.cells := by rw [show (headSpec ws rm).room.cells = mc from hrc]; exact hp.1
  have h5 : A.slots + (headSpec ws rm).room.slots ≤ R.slots := by rw [show (headSpec ws rm).room.slots = ms from hrs]; exact hp.2.1
  have hPc : Pc a (A.U.calling g mk a) := hblind _ _ _ _ hp.2.2
  obtain ⟨U, Ls, c0, s0⟩ := A
  dsimp only [Pt.U, Pt.locs, Pt.cells, Pt.slots] at h1 h2 h3 h4 h5 X hn hPc ⊢
  obtain ⟨methY, cY, hmY, hcY, -, hlY, -, -, -, -⟩ := Cond.code_spec hn h2
  obtain ⟨kY, hkY, -⟩ := className_of_methodNamed hn
  have hinitY : kY.init = .initialized := Cond.initialized_spec (findClass_of_methodNamed hn) hkY h3
  have h : At U g.method c below := by rw [hg]; exact X.here
  have hlocals9 : W9 + (maxL + 11) + (headSpec ws rm).room.locals ≤ R.locals := hlocals
  have happ : (headSpec ws rm).appliesLoose y e.platform (U.calling g mk a) = true :=
    Spec.appliesLoose_calling (g := g) h hdg hn hkY hinitY
      (X.room_calling (g := g) (R' := (headSpec ws rm).room) hsize hmY hcY hframes (by rw [hlY]; omega) h4 h5) h1
  obtain ⟨mid, hmid⟩ := h.above
  have hfr : (U.setTop g).frames = (.java g :: mid) ++ below := by rw [State.frames_setTop' g h.top, hmid]; rfl
  obtain ⟨o, s₂, hsteps, -, hend, hq⟩ := Steps.callFree hM p X.admits X.cas X.clock (acts := []) hfr happ hPc trivial
  have hq' : vx_Q Qc XC mc ms free a (U.calling g mk a) o s₂ := hq
  rw [State.frames_setTop' g h.top] at hend
  obtain ⟨g₀, hg0⟩ := Option.isSome_iff_exists.mp h.top
  obtain ⟨r, hr⟩ := State.topJava?_eq_some.mp hg0
  have hr' : (({ U with heap := s₂.heap, slotsUsed := s₂.slotsUsed } : State).setVm s₂.vm).frames = .java g₀ :: r := hr
  rcases hq' with ⟨hqc, L, hfe, hL⟩ | ⟨q, rfl, E, ce, L, hx, hce, hcv, hcl, hW₂, hsm, hL⟩
  · obtain ⟨⟨v, rfl⟩, hW₂, e2, q2, q3, q4, q5, q6⟩ := id hfe
    have e3 : s₂ = ({ (U.calling g mk a).setFrames s₂.frames with heap := s₂.heap, slotsUsed := s₂.slotsUsed } : State).setVm s₂.vm := by
      have : s₂ = ({ s₂ with vm := (U.calling g mk a).vm } : State).setVm s₂.vm := rfl
      rw [e2] at this
      exact this
    obtain ⟨c₂, i₂, len₂, hc₂, hd₂, hf₂⟩ := hend
    have hW' : U.WarmedH s₂.vm := hW₂
    have hcc : c₂ = c := by
      have h1 : s₂.code? g.method = U.code? g.method := by
        rw [State.code?_eq, State.code?_eq, hW'.alike.method?]
      exact Option.some.inj (hc₂.symm.trans (h1.trans h.code))
    subst hcc
    have hlen : len₂ = len := by rw [hdg] at hd₂; cases hd₂; rfl
    subst hlen
    have hs₂ : s₂ = (({ U with heap := s₂.heap, slotsUsed := s₂.slotsUsed } : State).setVm s₂.vm).setTop { g with pc := g.pc + len₂, stack := v.toList ++ g.stack } := by
      refine e3.trans ?_
      rw [hf₂, State.calling_eq h.top, State.setFrames_setFrames, State.setTop_of_frames _ hr', hr]
      rfl
    have hsame : U.sameButNew ({ U with heap := s₂.heap, slotsUsed := s₂.slotsUsed } : State) L mc ms := by
      refine ⟨?_, q2, q3, q4, q5, q6⟩
      obtain ⟨t, ht, -⟩ := State.frames_cons hr
      show ({ U with heap := s₂.heap, slotsUsed := s₂.slotsUsed } : State) = { U.setFrames U.frames with heap := s₂.heap, slotsUsed := s₂.slotsUsed }
      rw [State.setFrames_self ht]
    subst hg
    refine Or.inl ⟨v, ⟨(({ U with heap := s₂.heap, slotsUsed := s₂.slotsUsed } : State).setVm s₂.vm), Ls ++ L, c0 + mc, s0 + ms⟩,
      ⟨X.admits, X.cas, X.clock, X.frames, X.room, X.hears, X.method, X.code, (X.here.setHeapUsed s₂.heap s₂.slotsUsed).setVm hW'.alike, X.tail, State.WarmedH.trans X.warmed hW', X.limits, X.bytes, X.same.trans (hsame.setVm s.vm)⟩,
      ⟨g, mk, s₂, L, rfl, rfl, hqc, rfl, hL, rfl, rfl⟩, ?_⟩
    show Steps p.tables e below _ ((({ U with heap := s₂.heap, slotsUsed := s₂.slotsUsed } : State).setVm s₂.vm).setTop { g with pc := g.pc + len₂, stack := v.toList ++ g.stack })
    rw [← hs₂]
    exact hsteps
  · obtain ⟨e2, q2, q3, q4, q5, q6⟩ := id hsm
    have e3 : s₂ = ({ (U.calling g mk a).setFrames s₂.frames with heap := s₂.heap, slotsUsed := s₂.slotsUsed } : State).setVm s₂.vm := by
      have : s₂ = ({ s₂ with vm := (U.calling g mk a).vm } : State).setVm s₂.vm := rfl
      rw [e2] at this
      exact this
    have hf₂ : s₂.frames = .throwing q :: .java g :: U.frames.tail := hend
    have hW' : U.WarmedH s₂.vm := hW₂
    have hs₂ : s₂ = ((({ U with heap := s₂.heap, slotsUsed := s₂.slotsUsed } : State).setVm s₂.vm).setTop g).pushFrame (.throwing q) := by
      refine e3.trans ?_
      rw [hf₂, State.calling_eq h.top, State.setFrames_setFrames, State.pushFrame, State.frames_setTop _ hr', State.setTop_of_frames _ hr', State.setFrames_setFrames, hr]
      rfl
    have hsame : U.sameButNew ({ U with heap := s₂.heap, slotsUsed := s₂.slotsUsed } : State) L mc ms := by
      refine ⟨?_, q2, q3, q4, q5, q6⟩
      obtain ⟨t, ht, -⟩ := State.frames_cons hr
      show ({ U with heap := s₂.heap, slotsUsed := s₂.slotsUsed } : State) = { U.setFrames U.frames with heap := s₂.heap, slotsUsed := s₂.slotsUsed }
      rw [State.setFrames_self ht]
    subst hg
    refine Or.inr ⟨q, ⟨(({ U with heap := s₂.heap, slotsUsed := s₂.slotsUsed } : State).setVm s₂.vm), Ls ++ L, c0 + mc, s0 + ms⟩,
      ⟨X.admits, X.cas, X.clock, X.frames, X.room, X.hears, X.method, X.code, (X.here.setHeapUsed s₂.heap s₂.slotsUsed).setVm hW'.alike, X.tail, State.WarmedH.trans X.warmed hW', X.limits, X.bytes, X.same.trans (hsame.setVm s.vm)⟩,
      ⟨g, mk, s₂, L, E, ce, rfl, rfl, hx, hce, hcv, hcl, rfl, hL, rfl, rfl⟩, ?_⟩
    show Steps p.tables e below _ (((({ U with heap := s₂.heap, slotsUsed := s₂.slotsUsed } : State).setVm s₂.vm).setTop g).pushFrame (.throwing q))
    rw [← hs₂]
    exact hsteps
end Payer
section Calls
variable {p : Program} {l : Launch} {e : Env} {R : Room} {s : State} {m : MethodId} {args : Array Value} {below : List Frame} {meth : Method} {c : Code} {T : State} {locs : List Loc} {cells slots : Nat}
theorem vx_callV (X : Stand p l e R s m args below meth c T locs cells slots) (hexec : p.tables.exec = Jvm.exec) {own C : String} {index : Nat} {y : MethodName} {bytes : ByteArray} {maxL : Nat} {ret : Option FieldType}
    (hown : s.vm.findClass own = some m.cls) (hlink : (Cond.methodLink own index y).before args s = true) (hinst : (Cond.instanceMethod y).before args s = true) (hsel : (Cond.selects C y y).before args s = true)
    (hcode : (Cond.code y bytes maxL ret).before args s = true) (hy : y.cls ≠ "java/lang/invoke/MethodHandle" ∧ y.cls ≠ "java/lang/invoke/VarHandle")
    {W9 : Nat} {Pre : Pt → Array Value → Prop} {Post : Pt → Array Value → Option Value → Pt → Prop} {PostX : Pt → Array Value → Addr → Pt → Prop} (hK : vx_Back l R p e below s args y 3 W9 Pre Post PostX)
    {b : Addr} {cellB : Cell} (hcell : T.heap[b]? = some cellB) (hobj : cellB.vm.isStatics = false) (hcls : s.vm.findClass C = some cellB.cls)
    {g : JFrame} (hg : g.method = m) (hsize : g.locals.size = c.maxLocals) {argsL rest : List Value} (hlen : ∀ sig, parseMethodDescriptor y.desc = some sig → argsL.length = sig.parameters.length)
    (hstack : g.stack = argsL.reverse ++ .ref b :: rest) (hW : 2 * g.monitorRoom + (rest.map fun v => v.category).sum ≤ W9) (hdg : decode c.code g.pc = .ok (.invokevirtual index, 3))
    (hpre : ∀ vm₁, s.WarmedH vm₁ → Pre ⟨T.setVm vm₁, locs, cells, slots⟩ (Value.ref b :: argsL).toArray) :
    (∃ (v : Option Value) (vm₁ : Vm) (B : Pt), s.WarmedH vm₁ ∧ Stand p l e R s m args below meth c B.U B.locs B.cells B.slots ∧ Post ⟨T.setVm vm₁, locs, cells, slots⟩ (Value.ref b :: argsL).toArray v B ∧
      ∀ target, Steps p.tables e below (B.U.setTop { g with pc := g.pc + 3, stack := v.toList ++ rest }) target → Steps p.tables e below (T.setTop g) target) ∨
    (∃ (q : Addr) (vm₁ : Vm) (B : Pt), s.WarmedH vm₁ ∧ Stand p l e R s m args below meth c B.U B.locs B.cells B.slots ∧ PostX ⟨T.setVm vm₁, locs, cells, slots⟩ (Value.ref b :: argsL).toArray q B ∧
      Steps p.tables e below (T.setTop g) ((B.U.setTop { g with stack := rest }).pushFrame (.throwing q))) := by
  obtain ⟨mk, methM, hnamed, hmethM, hstM, habM⟩ := Cond.instanceMethod_spec hinst
  obtain ⟨methM', cM, hmethM', -, -, -, -, -, -, hsigM⟩ := Cond.code_spec hnamed hcode
  cases hmethM.symm.trans hmethM'
  obtain ⟨c2, r2, m2, q1, q2, q3, q4, kP, hkP, hkPi⟩ := Cond.selects_spec hsel
  cases hcls.symm.trans q1
  cases (State.methodFound?_of_named hnamed hy).symm.trans q2
  cases hnamed.symm.trans q3
  have hselP : selectMethod e.platform s.vm cellB.cls mk = .method mk := by rw [Launch.admits_selectMethod X.admits]; exact q4
  obtain ⟨vm₁, X₁, hstep₁⟩ := X.invokevirtual hexec hown hlink hnamed hmethM hstM hkP hkPi hy (a := b) (cell := cellB) hcell
    (fun z h => by rw [h] at hobj; cases hobj) hselP hmethM habM hkP hkPi (g := g) hg (argsL := argsL) (rest := rest) (hlen _ hsigM) hstack hdg
  rcases hK m meth c ⟨T.setVm vm₁, locs, cells, slots⟩ { g with stack := rest } (.invokevirtual index) mk (Value.ref b :: argsL).toArray X₁ hg hsize hdg hW (X₁.named hnamed) (hpre vm₁ X₁.warmed) with ⟨v, B, X', hpost, hsteps⟩ | ⟨q, B, X', hpost, hsteps⟩
  · exact Or.inl ⟨v, vm₁, B, X₁.warmed, X', hpost, fun target h => hstep₁ _ fun acts => by rw [doInvoke_state]; exact hsteps.trans h⟩
  · exact Or.inr ⟨q, vm₁, B, X₁.warmed, X', hpost, hstep₁ _ fun acts => by rw [doInvoke_state]; exact hsteps⟩
theorem vx_callS (X : Stand p l e R s m args below meth c T locs cells slots) (hexec : p.tables.exec = Jvm.exec) {own : String} {index : Nat} {y : MethodName} {bytes : ByteArray} {maxL : Nat} {ret : Option FieldType}
    (hown : s.vm.findClass own = some m.cls) (hlink : (Cond.methodLink own index y).before args s = true) (hstat : (Cond.static y).before args s = true) (hinit : (Cond.initialized y.cls).before args s = true)
    (hcode : (Cond.code y bytes maxL ret).before args s = true) (hy : y.cls ≠ "java/lang/invoke/MethodHandle" ∧ y.cls ≠ "java/lang/invoke/VarHandle")
    {W9 : Nat} {Pre : Pt → Array Value → Prop} {Post : Pt → Array Value → Option Value → Pt → Prop} {PostX : Pt → Array Value → Addr → Pt → Prop} (hK : vx_Back l R p e below s args y 3 W9 Pre Post PostX)
    {g : JFrame} (hg : g.method = m) (hsize : g.locals.size = c.maxLocals) {argsL rest : List Value} (hlen : ∀ sig, parseMethodDescriptor y.desc = some sig → argsL.length = sig.parameters.length)
    (hstack : g.stack = argsL.reverse ++ rest) (hW : 2 * g.monitorRoom + (rest.map fun v => v.category).sum ≤ W9) (hdg : decode c.code g.pc = .ok (.invokestatic index, 3))
    (hpre : ∀ vm₁, s.WarmedH vm₁ → Pre ⟨T.setVm vm₁, locs, cells, slots⟩ argsL.toArray) :
    (∃ (v : Option Value) (vm₁ : Vm) (B : Pt), s.WarmedH vm₁ ∧ Stand p l e R s m args below meth c B.U B.locs B.cells B.slots ∧ Post ⟨T.setVm vm₁, locs, cells, slots⟩ argsL.toArray v B ∧
      ∀ target, Steps p.tables e below (B.U.setTop { g with pc := g.pc + 3, stack := v.toList ++ rest }) target → Steps p.tables e below (T.setTop g) target) ∨
    (∃ (q : Addr) (vm₁ : Vm) (B : Pt), s.WarmedH vm₁ ∧ Stand p l e R s m args below meth c B.U B.locs B.cells B.slots ∧ PostX ⟨T.setVm vm₁, locs, cells, slots⟩ argsL.toArray q B ∧
      Steps p.tables e below (T.setTop g) ((B.U.setTop { g with stack := rest }).pushFrame (.throwing q))) := by
  obtain ⟨mk, hnamed⟩ := Cond.code_named hcode
  obtain ⟨methM, cM, hmethM, -, -, -, -, -, -, hsigM⟩ := Cond.code_spec hnamed hcode
  have hstatic : methM.isStatic = true := Cond.static_spec hnamed hmethM hstat
  obtain ⟨kP, hkP, -⟩ := className_of_methodNamed hnamed
  have hinitP : kP.init = .initialized := Cond.initialized_spec (findClass_of_methodNamed hnamed) hkP hinit
  obtain ⟨vm₁, X₁, hstep₁⟩ := X.invokestatic hexec hown hlink hnamed hmethM hstatic hkP hinitP hy (g := g) hg (argsL := argsL) (rest := rest) (hlen _ hsigM) hstack hdg
  rcases hK m meth c ⟨T.setVm vm₁, locs, cells, slots⟩ { g with stack := rest } (.invokestatic index) mk argsL.toArray X₁ hg hsize hdg hW (X₁.named hnamed) (hpre vm₁ X₁.warmed) with ⟨v, B, X', hpost, hsteps⟩ | ⟨q, B, X', hpost, hsteps⟩
  · exact Or.inl ⟨v, vm₁, B, X₁.warmed, X', hpost, fun target h => hstep₁ _ fun acts => by rw [doInvoke_state]; exact hsteps.trans h⟩
  · exact Or.inr ⟨q, vm₁, B, X₁.warmed, X', hpost, hstep₁ _ fun acts => by rw [doInvoke_state]; exact hsteps⟩
end Calls
theorem vx_cls {s : State} {T : State} {vm₁ : Vm} {E : String} {k : ClassId} (hW : s.WarmedH vm₁) (h : (T.setVm vm₁).vm.findClass E = some k) : s.vm.findClass E = some k := by
  have h1 : vm₁.findClass E = some k := h
  rw [hW.alike.findClass] at h1
  exact h1
/-- the method's frame g, with q thrown over it -/
def vx_W (p : Program) (l : Launch) (e : Env) (R : Room) (s : State) (m : MethodId) (args : Array Value) (below : List Frame) (meth : Method) (c : Code) (H : Heap) (locs : List Loc) (cells slots : Nat) (Q : State → Prop) (g : JFrame) (q : Addr) : Prop :=
  ∀ T : State, T.heap = H → Stand p l e R s m args below meth c T locs cells slots → ∃ t, Steps p.tables e below ((T.setTop g).pushFrame (.throwing q)) t ∧ Q t
def vx_Run (p : Program) (l : Launch) (e : Env) (R : Room) (s : State) (m : MethodId) (args : Array Value) (below : List Frame) (meth : Method) (c : Code) (H : Heap) (locs : List Loc) (cells slots mc ms : Nat) (g : JFrame) (rest : List Value) (Qa : State → Outcome → State → Prop) (XC : String → State → State → Prop) (free : Addr → Prop) : Prop :=
  ∀ T : State, T.heap = H → Stand p l e R s m args below meth c T locs cells slots →
    (∃ (v : Option Value) (st₀ t T' : State) (L : List Loc), st₀.heap = H ∧ Stand p l e R s m args below meth c T' (locs ++ L) (cells + mc) (slots + ms) ∧ (∀ q ∈ L, free q.base) ∧ T'.heap = t.heap ∧ T'.vm = t.vm ∧ Qa st₀ (.returned v) t ∧
      Goes p e below T g T' { g with pc := g.pc + 3, stack := v.toList ++ rest }) ∨
    (∃ (q : Addr) (st₀ t T' : State) (L : List Loc) (E : String) (ce : Cell), st₀.heap = H ∧ Stand p l e R s m args below meth c T' (locs ++ L) (cells + mc) (slots + ms) ∧ (∀ z ∈ L, free z.base) ∧ T'.heap = t.heap ∧ T'.vm = t.vm ∧ XC E st₀ t ∧ t.heap[q]? = some ce ∧ ce.vm = .none ∧ s.vm.findClass E = some ce.cls ∧
      Steps p.tables e below (T.setTop g) ((T'.setTop { g with stack := rest }).pushFrame (.throwing q)))
def vx_X {S : Type} (px : S → Prop) (B : String → S → State → Prop) (A : Nat → Prop) : String → State → State → Prop := fun E st t => ∃ u : S, px u ∧ B E u t ∧ va_F A st t
section Runs
variable {p : Program} {l : Launch} {e : Env} {R : Room} {s : State} {m : MethodId} {args : Array Value} {below : List Frame} {meth : Method} {c : Code} {H : Heap} {locs : List Loc} {cells slots : Nat}
variable {y : MethodName} {bytes cc : ByteArray} {maxL nL mc ms n index : Nat} {ret : Option FieldType} {ws : List Cond} {rm : Room} {Pc : Array Value → State → Prop} {Qc : Array Value → State → Outcome → State → Prop} {XC : String → State → State → Prop} {free : Addr → Prop} {Ts : List Cond} {own C : String} {b : Addr} {As rest : List Value} {g : JFrame}
theorem vx_callBack (cb : CallB R s args own index y bytes maxL ret ws rm mc ms n) (hM : vx_Met l y ws rm Pc Qc XC mc ms free) (hbl : FrameBlind Pc) : vx_Back l R p e below s args y 3 8 (PreOf R mc ms Pc) (PostOf Qc mc ms free) (vx_Post XC mc ms free) := by
  obtain ⟨hrc, hrs, hfr, hlo, hws, hcw, -, hini, -⟩ := cb
  exact vx_back (bytes := bytes) (maxL := maxL) (ret := ret) hM hbl hrc hrs hfr hlo hws hcw (fun a' U hW => word_at hW (Or.inl (by first | rfl | simp [Cond.onTables, Cond.keeps, Cond.steady])) hini)
theorem vx_runV (S : CallFix p m c cc nL s args Ts own) (hM : vx_Met l y ws rm Pc Qc XC mc ms free) (cw : CallW R s args own C index y bytes maxL ret ws rm mc ms n) (hp : PreV s H C b Pc As)
    (hg : g.method = m) (hn : As.length = n) (hsize : g.locals.size = nL) (hstack : g.stack = As.reverse ++ .ref b :: rest) (hW : 2 * g.monitorRoom + (rest.map fun v => v.category).sum ≤ 8) (hdg : decode cc g.pc = .ok (.invokevirtual index, 3)) (hf : cells + mc ≤ R.cells ∧ slots + ms ≤ R.slots) :
    vx_Run p l e R s m args below meth c H locs cells slots mc ms g rest (Qc (Value.ref b :: As).toArray) XC free := by
  have hK : vx_Back l R p e below s args y 3 8 (PreOf R mc ms Pc) (PostOf Qc mc ms free) (vx_Post XC mc ms free) := vx_callBack cw.1 hM hp.1
  obtain ⟨⟨-, -, -, -, -, -, hcode, -, hy, hlen, hl⟩, hin, hse⟩ := cw
  obtain ⟨hx, hb, hml, ho, -⟩ := S
  obtain ⟨-, ⟨cellB, hcB, hoB, hclB⟩, hPc⟩ := hp
  intro T hT X
  rcases vx_callV X hx (C := C) (bytes := bytes) (maxL := maxL) (ret := ret) ho hl hin hse hcode hy hK (by rw [hT]; exact hcB) hoB hclB hg (hsize.trans hml.symm) (argsL := As) (rest := rest) (fun sig h => hn.trans (hlen sig h)) hstack hW (by rw [hb]; exact hdg)
    (fun vm₁ hW₁ => ⟨hf.1, hf.2, hPc (T.setVm vm₁) hT hW₁⟩) with ⟨v, vm₁, ⟨U', l2, c2, s2⟩, hW₁, X', ⟨g', mk, t, L, e1, e2, hq, h1, hL, h2, h3⟩, st⟩ | ⟨q, vm₁, ⟨U', l2, c2, s2⟩, hW₁, X', ⟨g', mk, t, L, E, ce, e1, e2, hq, hce, hcv, hcl, h1, hL, h2, h3⟩, st⟩
  · dsimp only [Pt.U, Pt.locs, Pt.cells, Pt.slots] at X' e1 e2 h1 h2 h3 st
    subst h1; subst h2; subst h3
    exact Or.inl ⟨v, (T.setVm vm₁).calling g' mk (Value.ref b :: As).toArray, t, U', L, hT, X', hL, e1, e2, hq, st⟩
  · dsimp only [Pt.U, Pt.locs, Pt.cells, Pt.slots] at X' e1 e2 h1 h2 h3 st hcl
    subst h1; subst h2; subst h3
    exact Or.inr ⟨q, (T.setVm vm₁).calling g' mk (Value.ref b :: As).toArray, t, U', L, E, ce, hT, X', hL, e1, e2, hq, hce, hcv, vx_cls hW₁ hcl, st⟩
theorem vx_runS (S : CallFix p m c cc nL s args Ts own) (hM : vx_Met l y ws rm Pc Qc XC mc ms free) (cw : CallB R s args own index y bytes maxL ret ws rm mc ms n ∧ (Cond.static y).before args s = true) (hp : PreS s H Pc As)
    (hg : g.method = m) (hn : As.length = n) (hsize : g.locals.size = nL) (hstack : g.stack = As.reverse ++ rest) (hW : 2 * g.monitorRoom + (rest.map fun v => v.category).sum ≤ 8) (hdg : decode cc g.pc = .ok (.invokestatic index, 3)) (hf : cells + mc ≤ R.cells ∧ slots + ms ≤ R.slots) :
    vx_Run p l e R s m args below meth c H locs cells slots mc ms g rest (Qc As.toArray) XC free := by
  have hK : vx_Back l R p e below s args y 3 8 (PreOf R mc ms Pc) (PostOf Qc mc ms free) (vx_Post XC mc ms free) := vx_callBack cw.1 hM hp.1
  obtain ⟨⟨-, -, -, -, -, -, hcode, hini, hy, hlen, hl⟩, hstt⟩ := cw
  obtain ⟨hx, hb, hml, ho, -⟩ := S
  intro T hT X
  rcases vx_callS X hx (bytes := bytes) (maxL := maxL) (ret := ret) ho hl hstt hini hcode hy hK hg (hsize.trans hml.symm) (argsL := As) (rest := rest) (fun sig h => hn.trans (hlen sig h)) hstack hW (by rw [hb]; exact hdg)
    (fun vm₁ hW₁ => ⟨hf.1, hf.2, hp.2 (T.setVm vm₁) hT hW₁⟩) with ⟨v, vm₁, ⟨U', l2, c2, s2⟩, hW₁, X', ⟨g', mk, t, L, e1, e2, hq, h1, hL, h2, h3⟩, st⟩ | ⟨q, vm₁, ⟨U', l2, c2, s2⟩, hW₁, X', ⟨g', mk, t, L, E, ce, e1, e2, hq, hce, hcv, hcl, h1, hL, h2, h3⟩, st⟩
  · dsimp only [Pt.U, Pt.locs, Pt.cells, Pt.slots] at X' e1 e2 h1 h2 h3 st
    subst h1; subst h2; subst h3
    exact Or.inl ⟨v, (T.setVm vm₁).calling g' mk As.toArray, t, U', L, hT, X', hL, e1, e2, hq, st⟩
  · dsimp only [Pt.U, Pt.locs, Pt.cells, Pt.slots] at X' e1 e2 h1 h2 h3 st hcl
    subst h1; subst h2; subst h3
    exact Or.inr ⟨q, (T.setVm vm₁).calling g' mk As.toArray, t, U', L, E, ce, hT, X', hL, e1, e2, hq, hce, hcv, vx_cls hW₁ hcl, st⟩
end Runs
section Rows
variable {p : Program} {l : Launch} {e : Env} {R : Room} {s : State} {m : MethodId} {args : Array Value} {below : List Frame} {meth : Method} {c : Code} {H : Heap} {locs : List Loc} {cells slots : Nat} {Q : State → Prop}
variable {mc ms : Nat} {free : Addr → Prop} {A0 A1 : Nat → Prop} {H0 : Heap} {a : Array Value} {pc : Nat} {ls : Array Slot} {st0 rest : List Value}
theorem vx_keep {st₀ t T' : State} {L : List Loc} (h0 : st₀.heap = H) (e1 : T'.heap = t.heap) (hS : va_S A0 H0 H locs) (hA : ∀ q, q < H.size → A1 q → A0 q) (hf : ∀ q, free q → A0 q) (hL : ∀ q ∈ L, free q.base) (hF : va_F A1 st₀ t) :
    H.size ≤ T'.heap.size ∧ (∀ q : Nat, q < H.size → ¬ A1 q → T'.heap[q]? = H[q]?) ∧ va_S A0 H0 T'.heap (locs ++ L) := by
  obtain ⟨hz, hk⟩ := hF
  rw [h0] at hz hk
  exact ⟨by rw [e1]; exact hz, fun q h1 h2 => by rw [e1]; exact hk q h1 h2,
    ⟨Nat.le_trans hS.1 (by rw [e1]; exact hz), fun q h1 h2 => by rw [e1, hk q (Nat.lt_of_lt_of_le h1 hS.1) (fun z => h2 (hA q (Nat.lt_of_lt_of_le h1 hS.1) z))]; exact hS.2.1 q h1 h2, fun q hq => by
      rcases List.mem_append.mp hq with h | h
      · exact hS.2.2 q h
      · exact hf _ (hL q h)⟩⟩
theorem vx_calli {S SX : Type} {post : Int32 → S → Prop} {px : SX → Prop} {B : S → State → Prop} {BX : String → SX → State → Prop} {AX : Nat → Prop} (hr : vx_Run p l e R s m args below meth c H locs cells slots mc ms (F0 m pc ls st0) rest (va_Qi post B A1 a) (vx_X px BX AX) free) (hS : va_S A0 H0 H locs) (hA : ∀ q, q < H.size → A1 q → A0 q) (hf : ∀ q, free q → A0 q) (hAX : ∀ q, q < H.size → AX q → A0 q)
    (kx : ∀ (E : String) (ce : Cell) (q9 : Addr) (u : SX) (t : State) (H1 : Heap) (locs1 : List Loc), t.heap = H1 → s.vm.Alike t.vm → px u → BX E u t → H.size ≤ H1.size → (∀ q : Nat, q < H.size → ¬ AX q → H1[q]? = H[q]?) → va_S A0 H0 H1 locs1 → H1[q9]? = some ce → ce.vm = .none → s.vm.findClass E = some ce.cls → vx_W p l e R s m args below meth c H1 locs1 (cells + mc) (slots + ms) Q (F0 m pc ls rest) q9)
    (kk : ∀ (r : Int32) (u : S) (t : State) (H1 : Heap) (locs1 : List Loc), t.heap = H1 → s.vm.Alike t.vm → post r u → B u t → H.size ≤ H1.size → (∀ q : Nat, q < H.size → ¬ A1 q → H1[q]? = H[q]?) → va_S A0 H0 H1 locs1 → W p l e R s m args below meth c H1 locs1 (cells + mc) (slots + ms) Q (F0 m (pc + 3) ls (.int r :: rest))) : W p l e R s m args below meth c H locs cells slots Q (F0 m pc ls st0) := by
  intro T hT X
  rcases hr T hT X with ⟨v, st₀, t, T', L, h0, X', hL, e1, e2, ⟨⟨r, u, hv, hp, hb⟩, hF⟩, st⟩ | ⟨q, st₀, t, T', L, E, ce, h0, X', hL, e1, e2, ⟨u, hp, hb, hF⟩, hce, hcv, hcl, st⟩
  · cases hv
    obtain ⟨k1, k2, k3⟩ := vx_keep h0 e1 hS hA hf hL hF
    obtain ⟨t2, a1, b1⟩ := kk r u t T'.heap (locs ++ L) e1.symm (by rw [← e2]; exact X'.warmed.alike) hp hb k1 k2 k3 T' rfl X'
    exact ⟨t2, st t2 a1, b1⟩
  · obtain ⟨k1, k2, k3⟩ := vx_keep h0 e1 hS hAX hf hL hF
    obtain ⟨t2, a1, b1⟩ := kx E ce q u t T'.heap (locs ++ L) e1.symm (by rw [← e2]; exact X'.warmed.alike) hp hb k1 k2 k3 (by rw [e1]; exact hce) hcv hcl T' rfl X'
    exact ⟨t2, st.trans a1, b1⟩
theorem vx_calll {S SX : Type} {post : Int64 → S → Prop} {px : SX → Prop} {B : S → State → Prop} {BX : String → SX → State → Prop} {AX : Nat → Prop} (hr : vx_Run p l e R s m args below meth c H locs cells slots mc ms (F0 m pc ls st0) rest (va_Ql post B A1 a) (vx_X px BX AX) free) (hS : va_S A0 H0 H locs) (hA : ∀ q, q < H.size → A1 q → A0 q) (hf : ∀ q, free q → A0 q) (hAX : ∀ q, q < H.size → AX q → A0 q)
    (kx : ∀ (E : String) (ce : Cell) (q9 : Addr) (u : SX) (t : State) (H1 : Heap) (locs1 : List Loc), t.heap = H1 → s.vm.Alike t.vm → px u → BX E u t → H.size ≤ H1.size → (∀ q : Nat, q < H.size → ¬ AX q → H1[q]? = H[q]?) → va_S A0 H0 H1 locs1 → H1[q9]? = some ce → ce.vm = .none → s.vm.findClass E = some ce.cls → vx_W p l e R s m args below meth c H1 locs1 (cells + mc) (slots + ms) Q (F0 m pc ls rest) q9)
    (kk : ∀ (r : Int64) (u : S) (t : State) (H1 : Heap) (locs1 : List Loc), t.heap = H1 → s.vm.Alike t.vm → post r u → B u t → H.size ≤ H1.size → (∀ q : Nat, q < H.size → ¬ A1 q → H1[q]? = H[q]?) → va_S A0 H0 H1 locs1 → W p l e R s m args below meth c H1 locs1 (cells + mc) (slots + ms) Q (F0 m (pc + 3) ls (.long r :: rest))) : W p l e R s m args below meth c H locs cells slots Q (F0 m pc ls st0) := by
  intro T hT X
  rcases hr T hT X with ⟨v, st₀, t, T', L, h0, X', hL, e1, e2, ⟨⟨r, u, hv, hp, hb⟩, hF⟩, st⟩ | ⟨q, st₀, t, T', L, E, ce, h0, X', hL, e1, e2, ⟨u, hp, hb, hF⟩, hce, hcv, hcl, st⟩
  · cases hv
    obtain ⟨k1, k2, k3⟩ := vx_keep h0 e1 hS hA hf hL hF
    obtain ⟨t2, a1, b1⟩ := kk r u t T'.heap (locs ++ L) e1.symm (by rw [← e2]; exact X'.warmed.alike) hp hb k1 k2 k3 T' rfl X'
    exact ⟨t2, st t2 a1, b1⟩
  · obtain ⟨k1, k2, k3⟩ := vx_keep h0 e1 hS hAX hf hL hF
    obtain ⟨t2, a1, b1⟩ := kx E ce q u t T'.heap (locs ++ L) e1.symm (by rw [← e2]; exact X'.warmed.alike) hp hb k1 k2 k3 (by rw [e1]; exact hce) hcv hcl T' rfl X'
    exact ⟨t2, st.trans a1, b1⟩
theorem vx_callf {S SX : Type} {post : UInt32 → S → Prop} {px : SX → Prop} {B : S → State → Prop} {BX : String → SX → State → Prop} {AX : Nat → Prop} (hr : vx_Run p l e R s m args below meth c H locs cells slots mc ms (F0 m pc ls st0) rest (va_Qf post B A1 a) (vx_X px BX AX) free) (hS : va_S A0 H0 H locs) (hA : ∀ q, q < H.size → A1 q → A0 q) (hf : ∀ q, free q → A0 q) (hAX : ∀ q, q < H.size → AX q → A0 q)
    (kx : ∀ (E : String) (ce : Cell) (q9 : Addr) (u : SX) (t : State) (H1 : Heap) (locs1 : List Loc), t.heap = H1 → s.vm.Alike t.vm → px u → BX E u t → H.size ≤ H1.size → (∀ q : Nat, q < H.size → ¬ AX q → H1[q]? = H[q]?) → va_S A0 H0 H1 locs1 → H1[q9]? = some ce → ce.vm = .none → s.vm.findClass E = some ce.cls → vx_W p l e R s m args below meth c H1 locs1 (cells + mc) (slots + ms) Q (F0 m pc ls rest) q9)
    (kk : ∀ (r : UInt32) (u : S) (t : State) (H1 : Heap) (locs1 : List Loc), t.heap = H1 → s.vm.Alike t.vm → post r u → B u t → H.size ≤ H1.size → (∀ q : Nat, q < H.size → ¬ A1 q → H1[q]? = H[q]?) → va_S A0 H0 H1 locs1 → W p l e R s m args below meth c H1 locs1 (cells + mc) (slots + ms) Q (F0 m (pc + 3) ls (.float r :: rest))) : W p l e R s m args below meth c H locs cells slots Q (F0 m pc ls st0) := by
  intro T hT X
  rcases hr T hT X with ⟨v, st₀, t, T', L, h0, X', hL, e1, e2, ⟨⟨r, u, hv, hp, hb⟩, hF⟩, st⟩ | ⟨q, st₀, t, T', L, E, ce, h0, X', hL, e1, e2, ⟨u, hp, hb, hF⟩, hce, hcv, hcl, st⟩
  · cases hv
    obtain ⟨k1, k2, k3⟩ := vx_keep h0 e1 hS hA hf hL hF
    obtain ⟨t2, a1, b1⟩ := kk r u t T'.heap (locs ++ L) e1.symm (by rw [← e2]; exact X'.warmed.alike) hp hb k1 k2 k3 T' rfl X'
    exact ⟨t2, st t2 a1, b1⟩
  · obtain ⟨k1, k2, k3⟩ := vx_keep h0 e1 hS hAX hf hL hF
    obtain ⟨t2, a1, b1⟩ := kx E ce q u t T'.heap (locs ++ L) e1.symm (by rw [← e2]; exact X'.warmed.alike) hp hb k1 k2 k3 (by rw [e1]; exact hce) hcv hcl T' rfl X'
    exact ⟨t2, st.trans a1, b1⟩
theorem vx_calld {S SX : Type} {post : UInt64 → S → Prop} {px : SX → Prop} {B : S → State → Prop} {BX : String → SX → State → Prop} {AX : Nat → Prop} (hr : vx_Run p l e R s m args below meth c H locs cells slots mc ms (F0 m pc ls st0) rest (va_Qd post B A1 a) (vx_X px BX AX) free) (hS : va_S A0 H0 H locs) (hA : ∀ q, q < H.size → A1 q → A0 q) (hf : ∀ q, free q → A0 q) (hAX : ∀ q, q < H.size → AX q → A0 q)
    (kx : ∀ (E : String) (ce : Cell) (q9 : Addr) (u : SX) (t : State) (H1 : Heap) (locs1 : List Loc), t.heap = H1 → s.vm.Alike t.vm → px u → BX E u t → H.size ≤ H1.size → (∀ q : Nat, q < H.size → ¬ AX q → H1[q]? = H[q]?) → va_S A0 H0 H1 locs1 → H1[q9]? = some ce → ce.vm = .none → s.vm.findClass E = some ce.cls → vx_W p l e R s m args below meth c H1 locs1 (cells + mc) (slots + ms) Q (F0 m pc ls rest) q9)
    (kk : ∀ (r : UInt64) (u : S) (t : State) (H1 : Heap) (locs1 : List Loc), t.heap = H1 → s.vm.Alike t.vm → post r u → B u t → H.size ≤ H1.size → (∀ q : Nat, q < H.size → ¬ A1 q → H1[q]? = H[q]?) → va_S A0 H0 H1 locs1 → W p l e R s m args below meth c H1 locs1 (cells + mc) (slots + ms) Q (F0 m (pc + 3) ls (.double r :: rest))) : W p l e R s m args below meth c H locs cells slots Q (F0 m pc ls st0) := by
  intro T hT X
  rcases hr T hT X with ⟨v, st₀, t, T', L, h0, X', hL, e1, e2, ⟨⟨r, u, hv, hp, hb⟩, hF⟩, st⟩ | ⟨q, st₀, t, T', L, E, ce, h0, X', hL, e1, e2, ⟨u, hp, hb, hF⟩, hce, hcv, hcl, st⟩
  · cases hv
    obtain ⟨k1, k2, k3⟩ := vx_keep h0 e1 hS hA hf hL hF
    obtain ⟨t2, a1, b1⟩ := kk r u t T'.heap (locs ++ L) e1.symm (by rw [← e2]; exact X'.warmed.alike) hp hb k1 k2 k3 T' rfl X'
    exact ⟨t2, st t2 a1, b1⟩
  · obtain ⟨k1, k2, k3⟩ := vx_keep h0 e1 hS hAX hf hL hF
    obtain ⟨t2, a1, b1⟩ := kx E ce q u t T'.heap (locs ++ L) e1.symm (by rw [← e2]; exact X'.warmed.alike) hp hb k1 k2 k3 (by rw [e1]; exact hce) hcv hcl T' rfl X'
    exact ⟨t2, st.trans a1, b1⟩
theorem vx_callv {S SX : Type} {post : S → Prop} {px : SX → Prop} {B : S → State → Prop} {BX : String → SX → State → Prop} {AX : Nat → Prop} (hr : vx_Run p l e R s m args below meth c H locs cells slots mc ms (F0 m pc ls st0) rest (va_Qv post B A1 a) (vx_X px BX AX) free) (hS : va_S A0 H0 H locs) (hA : ∀ q, q < H.size → A1 q → A0 q) (hf : ∀ q, free q → A0 q) (hAX : ∀ q, q < H.size → AX q → A0 q)
    (kx : ∀ (E : String) (ce : Cell) (q9 : Addr) (u : SX) (t : State) (H1 : Heap) (locs1 : List Loc), t.heap = H1 → s.vm.Alike t.vm → px u → BX E u t → H.size ≤ H1.size → (∀ q : Nat, q < H.size → ¬ AX q → H1[q]? = H[q]?) → va_S A0 H0 H1 locs1 → H1[q9]? = some ce → ce.vm = .none → s.vm.findClass E = some ce.cls → vx_W p l e R s m args below meth c H1 locs1 (cells + mc) (slots + ms) Q (F0 m pc ls rest) q9)
    (kk : ∀ (u : S) (t : State) (H1 : Heap) (locs1 : List Loc), t.heap = H1 → s.vm.Alike t.vm → post u → B u t → H.size ≤ H1.size → (∀ q : Nat, q < H.size → ¬ A1 q → H1[q]? = H[q]?) → va_S A0 H0 H1 locs1 → W p l e R s m args below meth c H1 locs1 (cells + mc) (slots + ms) Q (F0 m (pc + 3) ls (rest))) : W p l e R s m args below meth c H locs cells slots Q (F0 m pc ls st0) := by
  intro T hT X
  rcases hr T hT X with ⟨v, st₀, t, T', L, h0, X', hL, e1, e2, ⟨⟨u, hv, hp, hb⟩, hF⟩, st⟩ | ⟨q, st₀, t, T', L, E, ce, h0, X', hL, e1, e2, ⟨u, hp, hb, hF⟩, hce, hcv, hcl, st⟩
  · cases hv
    obtain ⟨k1, k2, k3⟩ := vx_keep h0 e1 hS hA hf hL hF
    obtain ⟨t2, a1, b1⟩ := kk u t T'.heap (locs ++ L) e1.symm (by rw [← e2]; exact X'.warmed.alike) hp hb k1 k2 k3 T' rfl X'
    exact ⟨t2, st t2 a1, b1⟩
  · obtain ⟨k1, k2, k3⟩ := vx_keep h0 e1 hS hAX hf hL hF
    obtain ⟨t2, a1, b1⟩ := kx E ce q u t T'.heap (locs ++ L) e1.symm (by rw [← e2]; exact X'.warmed.alike) hp hb k1 k2 k3 (by rw [e1]; exact hce) hcv hcl T' rfl X'
    exact ⟨t2, st.trans a1, b1⟩
/-- caught by the row x of this method's table; the rows ahead don't take it -/
theorem vx_catch {own name : String} {E : String} {ce : Cell} {q : Addr} (hown : s.vm.findClass own = some m.cls) (pre : List ExceptionTableEntry) (x : ExceptionTableEntry) (suf : List ExceptionTableEntry) (hsplit : c.exceptionTable.toList = pre ++ x :: suf)
    (hpass : ∀ z ∈ pre, covers z pc = false ∨ (z.catchType ≠ 0 ∧ ∃ nm : String, (Cond.classLink own z.catchType nm).before args s = true ∧ va_Nc E nm s)) (hx : covers x pc = true) (h0 : x.catchType ≠ 0)
    (hlink : (Cond.classLink own x.catchType name).before args s = true) (hcast : (Cond.castable E name).before args s = true) (hcell : H[q]? = some ce) (hv : ce.vm = .none) (hcl : s.vm.findClass E = some ce.cls)
    (kk : W p l e R s m args below meth c H locs cells slots Q (F0 m x.handlerPc ls [.ref q])) : vx_W p l e R s m args below meth c H locs cells slots Q (F0 m pc ls rest) q := by
  intro T hT X
  have hpl : e.platform.magicAccessors = ({} : Platform).magicAccessors := by rw [X.admits.platform]
  obtain ⟨c3, c4, hc3, hc4, hasg⟩ := Cond.castable_spec hcast
  cases Option.some.inj (hc3.symm.trans hcl)
  obtain ⟨c5, hc5, hcl5⟩ := Cond.classLink_spec hown hlink e.platform hpl
  cases Option.some.inj (hc4.symm.trans hc5)
  obtain ⟨vm', X', st⟩ := X.thenCaughtThrough q (g := F0 m pc ls rest) rfl (Steps.refl _) (by rw [hT]; exact hcell) (by rw [hv]; rfl) (by obtain ⟨k9, h9, -⟩ := Vm.findClass_spec hcl; exact ⟨k9, h9⟩) pre x suf hsplit
    (fun z hz => by
      rcases hpass z hz with h | ⟨hz0, nm, hl1, hn1⟩
      · exact Or.inl h
      · obtain ⟨c6, hc6, hcl6⟩ := Cond.classLink_spec hown hl1 e.platform hpl
        obtain ⟨a8, b8, h1, h2, h3⟩ := hn1
        cases Option.some.inj (h1.symm.trans hcl)
        cases Option.some.inj (h2.symm.trans hc6)
        exact Or.inr ⟨hz0, _, hcl6, h3⟩) hx (Or.inr ⟨h0, c4, hcl5, hasg⟩)
  obtain ⟨t, a1, b1⟩ := kk (T.setVm vm') hT X'
  exact ⟨t, st.trans a1, b1⟩
end Rows
section Ends
variable {p : Program} {l : Launch} {e : Env} {R : Room} {s : State} {m : MethodId} {args : Array Value} {below : List Frame} {meth : Method} {c : Code} {H : Heap} {locs : List Loc} {cells slots : Nat} {Q : State → Prop}
variable {mc ms : Nat} {free : Addr → Prop} {A0 A1 : Nat → Prop} {H0 : Heap} {a : Array Value} {ls : Array Slot} {st0 rest : List Value}
variable {Qc : Array Value → State → Outcome → State → Prop} {XC : String → State → State → Prop}
/-- what a body that may throw owes at its end -/
def vx_MQ (below : List Frame) (Qc : Array Value → State → Outcome → State → Prop) (XC : String → State → State → Prop) (a : Array Value) (s : State) (mc ms : Nat) (free : Addr → Prop) : State → Prop := fun t =>
  ∃ o, t.status = .running ∧ Ended t below o ∧ vx_Q Qc XC mc ms free a s o t
theorem vx_ret {g : JFrame} {mc ms : Nat} (k : W p l e R s m args below meth c H locs cells slots (MQ below Qc args s mc ms free) g) : W p l e R s m args below meth c H locs cells slots (vx_MQ below Qc XC args s mc ms free) g := by
  intro T hT X
  obtain ⟨t, a1, o, b1, b2, b3, b4⟩ := k T hT X
  exact ⟨t, a1, o, b1, b2, Or.inl ⟨b3, b4⟩⟩
/-- not caught here: it goes on to the caller -/
theorem vx_widen {g : JFrame} {q : Addr} {k n : Nat} (h1 : cells ≤ k) (h2 : slots ≤ n) (kk : vx_W p l e R s m args below meth c H locs k n Q g q) : vx_W p l e R s m args below meth c H locs cells slots Q g q := fun T hT X => kk T hT (stand_widen X h1 h2)
theorem vx_out {pc : Nat} {E : String} {ce : Cell} {q : Addr} {mc ms : Nat} (hout : ∀ x ∈ c.exceptionTable.toList, covers x pc = false) (hlocks : meth.locks = false) (hcell : H[q]? = some ce) (hv : ce.vm = .none) (hcl : s.vm.findClass E = some ce.cls)
    (hx : ∀ t : State, t.heap = H → s.vm.Alike t.vm → XC E s t) (hf : ∀ z ∈ locs, free z.base) (hc : cells ≤ mc) (hs : slots ≤ ms) :
    vx_W p l e R s m args below meth c H locs cells slots (vx_MQ below Qc XC args s mc ms free) (F0 m pc ls rest) q := by
  intro T hT X
  obtain ⟨st1, hrun, hend, hW, hsm⟩ := X.leaveThrown q (g := F0 m pc ls rest) rfl rfl rfl hout hlocks
  have hcell9 : (T.setFrames (.throwing q :: below)).heap[q]? = some ce := by
    show T.heap[q]? = some ce
    rw [hT]; exact hcell
  exact ⟨_, st1, .threw q, hrun, hend, Or.inr ⟨q, rfl, E, ce, locs, hx _ hT hW.alike, hcell9, hv, hcl, hW, hsm.mono hc hs, hf⟩⟩
theorem vx_frame {U : State} {k n : Nat} (h : s.sameButNew ({ U with vm := s.vm } : State) locs k n) : s.heap.size ≤ U.heap.size ∧ ∀ q : Nat, q < s.heap.size → (∀ z ∈ locs, z.base ≠ q) → U.heap[q]? = s.heap[q]? := by
  obtain ⟨-, h2, -, -, -, h6⟩ := h
  refine ⟨h2, fun q hq hz => ?_⟩
  obtain ⟨c9, e1, e2, e3, e4⟩ := h6 q _ (Array.getElem?_eq_getElem hq)
  have hs : c9.slots = (s.heap[q]).slots := Array.ext_getElem? fun i => e4 i fun hm => hz _ hm rfl
  have h9 : c9 = s.heap[q] := by
    rw [hs] at e2
    exact e2
  have e5 : U.heap[q]? = some c9 := e1
  rw [e5, h9, Array.getElem?_eq_getElem hq]
/-- the words of a throw but the four that speak of the heap -/
def vx_no (w : Cond) : Bool := decide (w ≠ .isRef (.static Bundle.tN "UNASSIGNED_STACK" Bundle.steD)) && decide (w ≠ .isRef (.static Bundle.tN "SUPPRESSED_SENTINEL" Bundle.listD)) && decide (w ≠ .laysStatic Bundle.tN "UNASSIGNED_STACK" Bundle.steD) && decide (w ≠ .laysStatic Bundle.tN "SUPPRESSED_SENTINEL" Bundle.listD)
def vx_at0 (own : String) (ic : Nat) (X : String) (names : List String) : List Cond := (Bundle.ownAtoms0 own ic X names).filter vx_no
def vx_atS (own : String) (ic : Nat) (X : String) (names : List String) : List Cond := (Bundle.ownAtoms own ic X names).filter vx_no
/-- a word that the tables alone decide, or a good one -/
def vx_ot (w : Cond) : Bool := w.onTables || goodWord w
theorem vx_ot_at {args a' : Array Value} {s U : State} {w : Cond} (hW : s.WarmedH U.vm) (hvm : s.vm = U.vm) (hg : vx_ot w = true) (h : w.before args s = true) : w.before a' U = true := by
  simp only [vx_ot, Bool.or_eq_true] at hg
  rcases hg with hg | hg
  · exact va_tabs hg hvm h
  · exact word_at hW (good_of_word hg) h
/-- a list's words: the good ones out of the method's own list, the others by premises of their own -/
theorem vx_hat {args : Array Value} {s : State} {L B : List Cond} (h1 : ∀ w ∈ L.filter goodWord, w.before args s = true) (h2 : ∀ w ∈ L.filter (fun w => !goodWord w), w ∈ B) (h3 : ∀ w ∈ B, w.before args s = true) : ∀ w ∈ L, w.before args s = true := by
  intro w hw
  by_cases g : goodWord w = true
  · exact h1 w (List.mem_filter.mpr ⟨hw, g⟩)
  · refine h3 w (h2 w (List.mem_filter.mpr ⟨hw, ?_⟩))
    show (!goodWord w) = true
    cases hgw : goodWord w
    · rfl
    · exact absurd hgw g
theorem vx_c {args : Array Value} {s : State} {w : Cond} {B : List Cond} (h : w.before args s = true) (t : ∀ w ∈ B, w.before args s = true) : ∀ w' ∈ w :: B, w'.before args s = true := fun w' h' => (List.mem_cons.mp h').elim (fun e => by rw [e]; exact h) (t w')
theorem vx_n {args : Array Value} {s : State} : ∀ w ∈ ([] : List Cond), w.before args s = true := fun _ h => nomatch h
theorem vx_own {args : Array Value} {s : State} {L : List Cond} (h1 : ∀ w ∈ L.filter vx_no, w.before args s = true)
    (hU : (Cond.isRef (.static Bundle.tN "UNASSIGNED_STACK" Bundle.steD)).before args s = true) (hN : (Cond.isRef (.static Bundle.tN "SUPPRESSED_SENTINEL" Bundle.listD)).before args s = true)
    (lU : (Cond.laysStatic Bundle.tN "UNASSIGNED_STACK" Bundle.steD).before args s = true) (lN : (Cond.laysStatic Bundle.tN "SUPPRESSED_SENTINEL" Bundle.listD).before args s = true) : ∀ w ∈ L, w.before args s = true := by
  intro w hw
  by_cases e1 : w = .isRef (.static Bundle.tN "UNASSIGNED_STACK" Bundle.steD)
  · rw [e1]; exact hU
  · by_cases e2 : w = .isRef (.static Bundle.tN "SUPPRESSED_SENTINEL" Bundle.listD)
    · rw [e2]; exact hN
    · by_cases e3 : w = .laysStatic Bundle.tN "UNASSIGNED_STACK" Bundle.steD
      · rw [e3]; exact lU
      · by_cases e4 : w = .laysStatic Bundle.tN "SUPPRESSED_SENTINEL" Bundle.listD
        · rw [e4]; exact lN
        · exact h1 w (List.mem_filter.mpr ⟨hw, by unfold vx_no; rw [decide_eq_true e1, decide_eq_true e2, decide_eq_true e3, decide_eq_true e4]; rfl⟩)
/-- where a static field lies, its class's statics cell in H -/
def vx_L (C n d : String) (A : Nat → Prop) (U : State) (H : Heap) : Prop := ∃ (c : ClassId) (k : Class) (i : Nat) (f : Field) (a : Nat) (cell : Cell), U.vm.findClass C = some c ∧ U.fieldFound? C n d = some (c, k, i, f) ∧ f.isStatic = true ∧ k.statics = some a ∧ H[a]? = some cell ∧ cell.vm.isStatics = true ∧ cell.cls = c ∧ f.slot < cell.slots.size ∧ k.staticTypes[f.slot]? = some f.type ∧ ¬ A a
theorem vx_L.moved {C n d : String} {A : Nat → Prop} {u U : State} {H : Heap} (hvm : u.vm.Alike U.vm) (h : vx_L C n d A u H) : vx_L C n d A U H := by
  obtain ⟨c, k, i, f, a, cell, h1, h2, h3, h4, h5, h6, h7, h8, h9, h10⟩ := h
  obtain ⟨k', hi', he⟩ := State.fieldFound?_setVm hvm h2
  exact ⟨c, k', i, f, a, cell, by rw [hvm.findClass]; exact h1, hi', h3, by rw [he]; exact h4, h5, h6, h7, h8, by rw [he]; exact h9, h10⟩
theorem vx_L.kept {C n d : String} {A : Nat → Prop} {U : State} {H H1 : Heap} (h : vx_L C n d A U H) (hq : ∀ a : Nat, a < H.size → ¬ A a → H1[a]? = H[a]?) : vx_L C n d A U H1 := by
  obtain ⟨c, k, i, f, a, cell, h1, h2, h3, h4, h5, h6, h7, h8, h9, h10⟩ := h
  exact ⟨c, k, i, f, a, cell, h1, h2, h3, h4, by rw [hq a (Array.getElem?_eq_some_iff.mp h5).1 h10]; exact h5, h6, h7, h8, h9, h10⟩
theorem vx_L.narrow {C n d : String} {A B : Nat → Prop} {U : State} {H : Heap} (h : vx_L C n d A U H) (hAB : ∀ q, B q → A q) : vx_L C n d B U H := by
  obtain ⟨c, k, i, f, a, cell, h1, h2, h3, h4, h5, h6, h7, h8, h9, h10⟩ := h
  exact ⟨c, k, i, f, a, cell, h1, h2, h3, h4, h5, h6, h7, h8, h9, fun z => h10 (hAB _ z)⟩
theorem vx_L.word {C n d : String} {A : Nat → Prop} {s : State} {args : Array Value} (h : vx_L C n d A s s.heap) : (Cond.laysStatic C n d).before args s = true := by
  obtain ⟨c, k, i, f, a, cell, h1, h2, h3, h4, h5, h6, h7, h8, h9, -⟩ := h
  show (Cond.laysStatic C n d).holds args s none s [] = true
  exact Cond.laysStatic_of h1 h2 h3 h4 h5 h6 h7 h8 h9
/-- .. and what it holds: null or some reference -/
def vx_Zq (C n d : String) (A : Nat → Prop) (U : State) (H : Heap) : Prop := va_Zq C n d A U H ∧ vx_L C n d A U H
theorem vx_Zq.moved {C n d : String} {A : Nat → Prop} {u U : State} {H : Heap} (hvm : u.vm.Alike U.vm) (h : vx_Zq C n d A u H) : vx_Zq C n d A U H := ⟨va_Zq.moved hvm h.1, vx_L.moved hvm h.2⟩
theorem vx_Zq.kept {C n d : String} {A : Nat → Prop} {U : State} {H H1 : Heap} (h : vx_Zq C n d A U H) (hq : ∀ a : Nat, a < H.size → ¬ A a → H1[a]? = H[a]?) : vx_Zq C n d A U H1 := ⟨va_Zq.kept h.1 hq, vx_L.kept h.2 hq⟩
theorem vx_Zq.narrow {C n d : String} {A B : Nat → Prop} {U : State} {H : Heap} (h : vx_Zq C n d A U H) (hAB : ∀ q, B q → A q) : vx_Zq C n d B U H := ⟨va_Zq.narrow h.1 hAB, vx_L.narrow h.2 hAB⟩
theorem vx_Zqof {args : Array Value} {s : State} {C n d : String} {A : Nat → Prop} (hl : (Cond.laysStatic C n d).before args s = true) (hini : (Cond.initialized C).before args s = true) (h : (Cond.isRef (.static C n d)).before args s = true) (hA : ∀ a : Nat, a < s.heap.size → ¬ A a) : vx_Zq C n d A s s.heap := by
  refine ⟨va_Zqof hl hini h hA, ?_⟩
  obtain ⟨c, k, i, f, a, cell, h1, h2, h3, h4, h5, h6, h7, h8, h9⟩ := Cond.laysStatic_spec hl
  exact ⟨c, k, i, f, a, cell, h1, h2, h3, h4, h5, h6, h7, h8, h9, hA a (Array.getElem?_eq_some_iff.mp h5).1⟩
theorem vx_isRef {C n d : String} {v : Value} {A : Nat → Prop} {s : State} {args : Array Value} (h : va_Z C n d v A s s.heap) (hv : v.isRef = true) : (Cond.isRef (.static C n d)).before args s = true := by
  obtain ⟨cf, kf, fi, f, a, cell, h1, h2, h3, h4, h5, h6, h7, -⟩ := h
  have he : (Term.static C n d).eval args s none [] s = some v := by
    simp [Term.eval, State.fieldNamed?, h1, h2, h4, h5, h6, h7]
  simp only [Cond.before, Cond.holds, Cond.value, he]
  cases v <;> simp_all [Value.isRef]
theorem vx_isRefq {C n d : String} {A : Nat → Prop} {s : State} {args : Array Value} (h : va_Zq C n d A s s.heap) : (Cond.isRef (.static C n d)).before args s = true := by
  rcases h with h | ⟨t, h⟩
  · exact vx_isRef h rfl
  · exact vx_isRef h rfl
/-- the same frame, seen from here: as if the method were called anew in this heap -/
theorem vx_rebase {T : State} (X : Stand p l e R s m args below meth c T locs cells slots) {R' : Room} (hf : R'.frames ≤ R.frames) (hl : R'.locals ≤ R.locals) (hc : cells + R'.cells ≤ R.cells) (hs : slots + R'.slots ≤ R.slots) :
    Stand p l e R' ((T.setVm s.vm).setFrames (.invoking m args :: below)) m args below meth c T [] 0 0 := by
  have htop : (T.setVm s.vm).topJava?.isSome := X.here.top
  have hF : ((T.setVm s.vm).setFrames (.invoking m args :: below)).frames = .invoking m args :: below := State.frames_setFrames _ (State.cur_lt_of_top htop)
  obtain ⟨g₀, hg0⟩ := Option.isSome_iff_exists.mp htop
  obtain ⟨r, hr⟩ := State.topJava?_eq_some.mp hg0
  have hl9 : e.platform.stackLimits (T.setVm s.vm).me = e.platform.stackLimits s.me := X.limits
  have hb9 : (T.setVm s.vm).me.stackBytes = s.me.stackBytes := X.bytes
  refine ⟨X.admits, X.cas, X.clock, hF, ?_, X.hears, X.method, X.code, X.here, X.tail, X.warmed, ?_, ?_, ?_⟩
  · have h := X.room
    have hU : ((T.setVm s.vm).setFrames (.invoking m args :: below)).localsInUse = s.localsInUse := by
      rw [State.localsInUse_invoking hF (meth := meth) (c := c) X.method X.code, State.localsInUse_invoking X.frames X.method X.code]
    simp only [State.hasRoom, Bool.and_eq_true, decide_eq_true_eq] at h ⊢
    obtain ⟨⟨⟨⟨h1, h2, h3, h4, h5, h6⟩, h7⟩, h8⟩, h9⟩ := h
    rw [X.frames, List.length_cons] at h2 h3
    have q1 := X.heapSize
    have q2 := X.used
    simp only [hF, hU, List.length_cons, State.stackLimits_setFrames, State.stackBytes_setFrames, hl9, hb9]
    refine ⟨⟨⟨⟨by omega, by omega, by omega, by omega, by omega, h6⟩, ?_⟩, ?_⟩, X.book⟩
    · show T.heap.size + R'.cells ≤ e.platform.maxCells
      omega
    · show T.slotsUsed + R'.slots ≤ e.platform.maxSlots
      omega
  · rw [State.stackLimits_setFrames]; rfl
  · rw [State.stackBytes_setFrames]; rfl
  · refine ⟨?_, Nat.le_refl _, Nat.le_refl _, ?_, ?_, fun a c9 h9 => ⟨c9, h9, rfl, rfl, fun _ _ => rfl⟩⟩
    · obtain ⟨t, ht, -⟩ := State.frames_cons hr
      show T.setVm s.vm = { ((T.setVm s.vm).setFrames (.invoking m args :: below)).setFrames (T.setVm s.vm).frames with heap := T.heap, slotsUsed := T.slotsUsed }
      rw [State.setFrames_setFrames, State.setFrames_self ht]
      rfl
    · show T.slotsUsed = T.slotsUsed + ((T.heap.toList.drop T.heap.size).map (·.slots.size)).sum
      rw [List.drop_eq_nil_of_le (Nat.le_of_eq Array.length_toList)]
      rfl
    · show ((T.heap.toList.drop T.heap.size).map (·.slots.size)).sum ≤ 0
      rw [List.drop_eq_nil_of_le (Nat.le_of_eq Array.length_toList)]
      exact Nat.le_refl _
/-- 'throw new E()': new; dup; invokespecial; athrow -/
theorem vx_throw0 {cc : ByteArray} {pc : Nat} (hexec : p.tables.exec = Jvm.exec) (hb : c.code = cc) (hl : l.stackTraces = false) {own cls : String} {names : List String} {ik ic mc ms : Nat} {A : Nat → Prop}
    (hown : s.vm.findClass own = some m.cls) (hcls : Bundle.fit cls = true) (hnames : ∀ n ∈ names, Bundle.fit n = true)
    (hk : (Cond.classLink own ik cls).before args s = true) (hini : (Cond.initialized cls).before args s = true) (hat : ∀ w ∈ vx_at0 own ic cls names, w.before args s = true)
    (hgood : ∀ w ∈ Cond.classLink own ik cls :: Cond.initialized cls :: vx_at0 own ic cls names, vx_ot w = true)
    (hU : vx_Zq Bundle.tN "UNASSIGNED_STACK" Bundle.steD A s s.heap) (hN : vx_Zq Bundle.tN "SUPPRESSED_SENTINEL" Bundle.listD A s s.heap) (hS : va_S A s.heap H locs) (hsize : ls.size = c.maxLocals)
    (d0 : decode cc pc = .ok (.new ik, 3)) (d3 : decode cc (pc + 3) = .ok (.dup, 1)) (d4 : decode cc (pc + 4) = .ok (.invokespecial ic, 3)) (d7 : decode cc (pc + 7) = .ok (.athrow, 1))
    (hout : ∀ x ∈ c.exceptionTable.toList, covers x (pc + 7) = false)
    (hRframes : names.length + 3 < R.frames) (hRlocals : (rest.map fun v => v.category).sum + (13 * (names.length + 1) + 42) ≤ R.locals) (hRcells : cells + 1 ≤ R.cells) (hRslots : slots + 6 ≤ R.slots) (hlocks : meth.locks = false)
    (hx : ∀ t : State, s.vm.Alike t.vm → H.size ≤ t.heap.size → (∀ q : Nat, q < H.size → t.heap[q]? = H[q]?) → XC cls s t)
    (hf : ∀ z ∈ locs, free z.base) (hc : cells + 1 ≤ mc) (hs : slots + 6 ≤ ms) :
    W p l e R s m args below meth c H locs cells slots (vx_MQ below Qc XC args s mc ms free) (F0 m pc ls rest) := by
  intro T hT X
  have htr : e.platform.stackTraces = false := (show e.platform.stackTraces = l.stackTraces by rw [X.admits.platform]).trans hl
  have Y := vx_rebase X (R' := { frames := R.frames, locals := R.locals, cells := 1, slots := 6 }) (Nat.le_refl _) (Nat.le_refl _) hRcells hRslots
  obtain ⟨s', hA⟩ : ∃ z, z = (T.setVm s.vm).setFrames (.invoking m args :: below) := ⟨_, rfl⟩
  rw [← hA] at Y
  have hvm : s'.vm = s.vm := by rw [hA]; rfl
  have hhp : s'.heap = H := by rw [hA]; exact hT
  have hW0 : s.WarmedH s'.vm := by rw [hvm]; exact State.WarmedH.refl s
  have hat' : ∀ w ∈ vx_at0 own ic cls names, w.before args s' = true := fun w hw => vx_ot_at hW0 hvm.symm (hgood w (List.mem_cons_of_mem _ (List.mem_cons_of_mem _ hw))) (hat w hw)
  have hk' : (Cond.classLink own ik cls).before args s' = true := vx_ot_at hW0 hvm.symm (hgood _ List.mem_cons_self) hk
  have hini' : (Cond.initialized cls).before args s' = true := vx_ot_at hW0 hvm.symm (hgood _ (List.mem_cons_of_mem _ List.mem_cons_self)) hini
  have hU' : vx_Zq Bundle.tN "UNASSIGNED_STACK" Bundle.steD A s' s'.heap := by rw [hhp]; exact vx_Zq.moved hW0.alike (hU.kept hS.2.1)
  have hN' : vx_Zq Bundle.tN "SUPPRESSED_SENTINEL" Bundle.listD A s' s'.heap := by rw [hhp]; exact vx_Zq.moved hW0.alike (hN.kept hS.2.1)
  have h : ∀ w ∈ Bundle.ownAtoms0 own ic cls names, w.before args s' = true := vx_own hat' (vx_isRefq hU'.1) (vx_isRefq hN'.1) hU'.2.word hN'.2.word
  have hown' : s'.vm.findClass own = some m.cls := by rw [hvm]; exact hown
  have hins : (Cond.instantiable cls 6).before args s' = true := h _ (by simp [Bundle.ownAtoms0])
  obtain ⟨vm₁, cX, kX, hfX, hkX, -, -, X₁, st1⟩ := Y.newCold hexec (own := own) (C := cls) (index := ik) (n := 6) hown' hk' hins hini'
    (g := F0 m pc ls rest) rfl (by rw [hb]; exact d0) (Nat.le_refl _) (Nat.le_refl _)
  generalize hT1 : (T.setVm vm₁).pushCell { cls := cX, slots := kX.instanceTypes.map defaultValue, vm := .none } = T1 at X₁ st1
  have hcat : (Value.ref T.heap.size).category = 1 := rfl
  have hcellA : T1.heap[T.heap.size]? = some (freshCell cX kX) := by rw [← hT1]; exact State.heap_pushCell_size _ _
  have d3' : decode c.code (pc + 3) = .ok (.dup, 1) := by rw [hb]; exact d3
  obtain ⟨U, hsteps, hrun, hend, hW, hsame, ce, hce, hO⟩ := X₁.ctorThrow0 hexec htr (own := own) (cls := cls) (names := names) (ic := ic) hown' hcls hnames h (fun x hx => nomatch hx) hfX hkX hcellA (by rw [hhp, hT]; exact Nat.le_refl _)
    (g := { method := m, pc := pc + 4, locals := ls, stack := .ref T.heap.size :: .ref T.heap.size :: rest, locked := none }) rfl hsize rfl rfl (rest := rest) rfl
    (by rw [hb]; exact d4) (by rw [hb]; exact d7) hout hRframes (by simp only [List.map_cons, List.sum_cons, hcat]; omega) hlocks
  obtain ⟨f1, f2⟩ := vx_frame hsame
  rw [hhp] at f1 f2
  have hWs : s.WarmedH U.vm := State.WarmedH.trans hW0 hW
  have hcl : s.vm.findClass cls = some ce.cls := by
    have h9 := hO.cls
    rw [hvm] at h9
    exact h9
  have hall : s.sameButNew ({ U with vm := s.vm } : State) locs mc ms := by
    subst hA
    obtain ⟨e1, e2⟩ := hsame
    rw [State.setFrames_setFrames] at e1
    have h2 : (T.setVm s.vm).sameButNew ({ U with vm := s.vm } : State) [] (0 + 1) (0 + 6) := ⟨e1, e2⟩
    have h3 := X.same.trans h2
    rw [List.append_nil] at h3
    exact h3.mono hc hs
  refine ⟨U, ?_, .threw T.heap.size, hrun, hend, Or.inr ⟨T.heap.size, rfl, cls, ce, locs, hx U hWs.alike f1 (fun q hq => f2 q hq (fun z hz => nomatch hz)), hce, hO.vm, hcl, hWs, hall, hf⟩⟩
  refine st1 _ ?_
  show Steps p.tables e below (T1.setTop { method := m, pc := pc + 3, locals := ls, stack := .ref T.heap.size :: rest, locked := none }) _
  jvm_step X₁.here [X₁.here.top, hexec, d3', Value.category]
  exact hsteps
/-- 'throw new E("text")': new; dup; ldc; invokespecial; athrow -/
theorem vx_throwS {cc : ByteArray} {pc : Nat} (hexec : p.tables.exec = Jvm.exec) (hb : c.code = cc) (hl : l.stackTraces = false) {own cls text : String} {names : List String} {ik is ic mc ms sa : Nat} {A : Nat → Prop}
    (hown : s.vm.findClass own = some m.cls) (hcls : Bundle.fit cls = true) (hnames : ∀ n ∈ names, Bundle.fit n = true)
    (hk : (Cond.classLink own ik cls).before args s = true) (hini : (Cond.initialized cls).before args s = true) (hstr : vk_R own is text sa s) (hat : ∀ w ∈ vx_atS own ic cls names, w.before args s = true)
    (hgood : ∀ w ∈ Cond.classLink own ik cls :: Cond.initialized cls :: vx_atS own ic cls names, vx_ot w = true)
    (hU : vx_Zq Bundle.tN "UNASSIGNED_STACK" Bundle.steD A s s.heap) (hN : vx_Zq Bundle.tN "SUPPRESSED_SENTINEL" Bundle.listD A s s.heap) (hS : va_S A s.heap H locs) (hsize : ls.size = c.maxLocals)
    (d0 : decode cc pc = .ok (.new ik, 3)) (d3 : decode cc (pc + 3) = .ok (.dup, 1)) (d4 : decode cc (pc + 4) = .ok (.ldc is, 2)) (d6 : decode cc (pc + 6) = .ok (.invokespecial ic, 3)) (d9 : decode cc (pc + 9) = .ok (.athrow, 1))
    (hout : ∀ x ∈ c.exceptionTable.toList, covers x (pc + 9) = false)
    (hRframes : names.length + 3 < R.frames) (hRlocals : (rest.map fun v => v.category).sum + (13 * (names.length + 1) + 43) ≤ R.locals) (hRcells : cells + 1 ≤ R.cells) (hRslots : slots + 6 ≤ R.slots) (hlocks : meth.locks = false)
    (hx : ∀ t : State, s.vm.Alike t.vm → H.size ≤ t.heap.size → (∀ q : Nat, q < H.size → t.heap[q]? = H[q]?) → XC cls s t)
    (hf : ∀ z ∈ locs, free z.base) (hc : cells + 1 ≤ mc) (hs : slots + 6 ≤ ms) :
    W p l e R s m args below meth c H locs cells slots (vx_MQ below Qc XC args s mc ms free) (F0 m pc ls rest) := by
  intro T hT X
  have htr : e.platform.stackTraces = false := (show e.platform.stackTraces = l.stackTraces by rw [X.admits.platform]).trans hl
  have Y := vx_rebase X (R' := { frames := R.frames, locals := R.locals, cells := 1, slots := 6 }) (Nat.le_refl _) (Nat.le_refl _) hRcells hRslots
  obtain ⟨s', hA⟩ : ∃ z, z = (T.setVm s.vm).setFrames (.invoking m args :: below) := ⟨_, rfl⟩
  rw [← hA] at Y
  have hvm : s'.vm = s.vm := by rw [hA]; rfl
  have hhp : s'.heap = H := by rw [hA]; exact hT
  have hW0 : s.WarmedH s'.vm := by rw [hvm]; exact State.WarmedH.refl s
  have hat' : ∀ w ∈ vx_atS own ic cls names, w.before args s' = true := fun w hw => vx_ot_at hW0 hvm.symm (hgood w (List.mem_cons_of_mem _ (List.mem_cons_of_mem _ hw))) (hat w hw)
  have hk' : (Cond.classLink own ik cls).before args s' = true := vx_ot_at hW0 hvm.symm (hgood _ List.mem_cons_self) hk
  have hini' : (Cond.initialized cls).before args s' = true := vx_ot_at hW0 hvm.symm (hgood _ (List.mem_cons_of_mem _ List.mem_cons_self)) hini
  have hU' : vx_Zq Bundle.tN "UNASSIGNED_STACK" Bundle.steD A s' s'.heap := by rw [hhp]; exact vx_Zq.moved hW0.alike (hU.kept hS.2.1)
  have hN' : vx_Zq Bundle.tN "SUPPRESSED_SENTINEL" Bundle.listD A s' s'.heap := by rw [hhp]; exact vx_Zq.moved hW0.alike (hN.kept hS.2.1)
  have h : ∀ w ∈ Bundle.ownAtoms own ic cls names, w.before args s' = true := vx_own hat' (vx_isRefq hU'.1) (vx_isRefq hN'.1) hU'.2.word hN'.2.word
  have hown' : s'.vm.findClass own = some m.cls := by rw [hvm]; exact hown
  have hins : (Cond.instantiable cls 6).before args s' = true := h _ (by simp [Bundle.ownAtoms])
  obtain ⟨vm₁, cX, kX, hfX, hkX, -, -, X₁, st1⟩ := Y.newCold hexec (own := own) (C := cls) (index := ik) (n := 6) hown' hk' hins hini'
    (g := F0 m pc ls rest) rfl (by rw [hb]; exact d0) (Nat.le_refl _) (Nat.le_refl _)
  generalize hT1 : (T.setVm vm₁).pushCell { cls := cX, slots := kX.instanceTypes.map defaultValue, vm := .none } = T1 at X₁ st1
  have hcat : (Value.ref T.heap.size).category = 1 := rfl
  have hcellA : T1.heap[T.heap.size]? = some (freshCell cX kX) := by rw [← hT1]; exact State.heap_pushCell_size _ _
  have d3' : decode c.code (pc + 3) = .ok (.dup, 1) := by rw [hb]; exact d3
  have d4' : decode c.code (pc + 4) = .ok (.ldc is, 2) := by rw [hb]; exact d4
  have hstr' : vk_R own is text sa s' := vk_R.warm hW0 hstr
  obtain ⟨U, hsteps, hrun, hend, hW, hsame, ce, hce, hO⟩ := X₁.ctorThrowS hexec htr (own := own) (cls := cls) (names := names) (ic := ic) hown' hcls hnames h (fun x hx => nomatch hx) hfX hkX hcellA (by rw [hhp, hT]; exact Nat.le_refl _) (msg := .ref sa) rfl
    (g := { method := m, pc := pc + 6, locals := ls, stack := .ref sa :: .ref T.heap.size :: .ref T.heap.size :: rest, locked := none }) rfl hsize rfl rfl (rest := rest) rfl
    (by rw [hb]; exact d6) (by rw [hb]; exact d9) hout hRframes (by simp only [List.map_cons, List.sum_cons, hcat]; omega) hlocks
  obtain ⟨f1, f2⟩ := vx_frame hsame
  rw [hhp] at f1 f2
  have hWs : s.WarmedH U.vm := State.WarmedH.trans hW0 hW
  have hcl : s.vm.findClass cls = some ce.cls := by
    have h9 := hO.cls
    rw [hvm] at h9
    exact h9
  have hall : s.sameButNew ({ U with vm := s.vm } : State) locs mc ms := by
    subst hA
    obtain ⟨e1, e2⟩ := hsame
    rw [State.setFrames_setFrames] at e1
    have h2 : (T.setVm s.vm).sameButNew ({ U with vm := s.vm } : State) [] (0 + 1) (0 + 6) := ⟨e1, e2⟩
    have h3 := X.same.trans h2
    rw [List.append_nil] at h3
    exact h3.mono hc hs
  refine ⟨U, ?_, .threw T.heap.size, hrun, hend, Or.inr ⟨T.heap.size, rfl, cls, ce, locs, hx U hWs.alike f1 (fun q hq => f2 q hq (fun z hz => nomatch hz)), hce, hO.vm, hcl, hWs, hall, hf⟩⟩
  refine st1 _ ?_
  show Steps p.tables e below (T1.setTop { method := m, pc := pc + 3, locals := ls, stack := .ref T.heap.size :: rest, locked := none }) _
  jvm_step X₁.here [X₁.here.top, hexec, d3', Value.category]
  exact X₁.ldcString hexec (own := own) (text := text) (index := is) (a := sa) hown' hstr'.1 hstr'.2
    (g := { method := m, pc := pc + 4, locals := ls, stack := .ref T.heap.size :: .ref T.heap.size :: rest, locked := none }) rfl d4' _ hsteps
/-- 'throw new E("text")', the text by a wide index -/
theorem vx_throwSW {cc : ByteArray} {pc : Nat} (hexec : p.tables.exec = Jvm.exec) (hb : c.code = cc) (hl : l.stackTraces = false) {own cls text : String} {names : List String} {ik is ic mc ms sa : Nat} {A : Nat → Prop}
    (hown : s.vm.findClass own = some m.cls) (hcls : Bundle.fit cls = true) (hnames : ∀ n ∈ names, Bundle.fit n = true)
    (hk : (Cond.classLink own ik cls).before args s = true) (hini : (Cond.initialized cls).before args s = true) (hstr : vk_R own is text sa s) (hat : ∀ w ∈ vx_atS own ic cls names, w.before args s = true)
    (hgood : ∀ w ∈ Cond.classLink own ik cls :: Cond.initialized cls :: vx_atS own ic cls names, vx_ot w = true)
    (hU : vx_Zq Bundle.tN "UNASSIGNED_STACK" Bundle.steD A s s.heap) (hN : vx_Zq Bundle.tN "SUPPRESSED_SENTINEL" Bundle.listD A s s.heap) (hS : va_S A s.heap H locs) (hsize : ls.size = c.maxLocals)
    (d0 : decode cc pc = .ok (.new ik, 3)) (d3 : decode cc (pc + 3) = .ok (.dup, 1)) (d4 : decode cc (pc + 4) = .ok (.ldc_w is, 3)) (d7 : decode cc (pc + 7) = .ok (.invokespecial ic, 3)) (d10 : decode cc (pc + 10) = .ok (.athrow, 1))
    (hout : ∀ x ∈ c.exceptionTable.toList, covers x (pc + 10) = false)
    (hRframes : names.length + 3 < R.frames) (hRlocals : (rest.map fun v => v.category).sum + (13 * (names.length + 1) + 43) ≤ R.locals) (hRcells : cells + 1 ≤ R.cells) (hRslots : slots + 6 ≤ R.slots) (hlocks : meth.locks = false)
    (hx : ∀ t : State, s.vm.Alike t.vm → H.size ≤ t.heap.size → (∀ q : Nat, q < H.size → t.heap[q]? = H[q]?) → XC cls s t)
    (hf : ∀ z ∈ locs, free z.base) (hc : cells + 1 ≤ mc) (hs : slots + 6 ≤ ms) :
    W p l e R s m args below meth c H locs cells slots (vx_MQ below Qc XC args s mc ms free) (F0 m pc ls rest) := by
  intro T hT X
  have htr : e.platform.stackTraces = false := (show e.platform.stackTraces = l.stackTraces by rw [X.admits.platform]).trans hl
  have Y := vx_rebase X (R' := { frames := R.frames, locals := R.locals, cells := 1, slots := 6 }) (Nat.le_refl _) (Nat.le_refl _) hRcells hRslots
  obtain ⟨s', hA⟩ : ∃ z, z = (T.setVm s.vm).setFrames (.invoking m args :: below) := ⟨_, rfl⟩
  rw [← hA] at Y
  have hvm : s'.vm = s.vm := by rw [hA]; rfl
  have hhp : s'.heap = H := by rw [hA]; exact hT
  have hW0 : s.WarmedH s'.vm := by rw [hvm]; exact State.WarmedH.refl s
  have hat' : ∀ w ∈ vx_atS own ic cls names, w.before args s' = true := fun w hw => vx_ot_at hW0 hvm.symm (hgood w (List.mem_cons_of_mem _ (List.mem_cons_of_mem _ hw))) (hat w hw)
  have hk' : (Cond.classLink own ik cls).before args s' = true := vx_ot_at hW0 hvm.symm (hgood _ List.mem_cons_self) hk
  have hini' : (Cond.initialized cls).before args s' = true := vx_ot_at hW0 hvm.symm (hgood _ (List.mem_cons_of_mem _ List.mem_cons_self)) hini
  have hU' : vx_Zq Bundle.tN "UNASSIGNED_STACK" Bundle.steD A s' s'.heap := by rw [hhp]; exact vx_Zq.moved hW0.alike (hU.kept hS.2.1)
  have hN' : vx_Zq Bundle.tN "SUPPRESSED_SENTINEL" Bundle.listD A s' s'.heap := by rw [hhp]; exact vx_Zq.moved hW0.alike (hN.kept hS.2.1)
  have h : ∀ w ∈ Bundle.ownAtoms own ic cls names, w.before args s' = true := vx_own hat' (vx_isRefq hU'.1) (vx_isRefq hN'.1) hU'.2.word hN'.2.word
  have hown' : s'.vm.findClass own = some m.cls := by rw [hvm]; exact hown
  have hins : (Cond.instantiable cls 6).before args s' = true := h _ (by simp [Bundle.ownAtoms])
  obtain ⟨vm₁, cX, kX, hfX, hkX, -, -, X₁, st1⟩ := Y.newCold hexec (own := own) (C := cls) (index := ik) (n := 6) hown' hk' hins hini'
    (g := F0 m pc ls rest) rfl (by rw [hb]; exact d0) (Nat.le_refl _) (Nat.le_refl _)
  generalize hT1 : (T.setVm vm₁).pushCell { cls := cX, slots := kX.instanceTypes.map defaultValue, vm := .none } = T1 at X₁ st1
  have hcat : (Value.ref T.heap.size).category = 1 := rfl
  have hcellA : T1.heap[T.heap.size]? = some (freshCell cX kX) := by rw [← hT1]; exact State.heap_pushCell_size _ _
  have d3' : decode c.code (pc + 3) = .ok (.dup, 1) := by rw [hb]; exact d3
  have d4' : decode c.code (pc + 4) = .ok (.ldc_w is, 3) := by rw [hb]; exact d4
  have hstr' : vk_R own is text sa s' := vk_R.warm hW0 hstr
  obtain ⟨U, hsteps, hrun, hend, hW, hsame, ce, hce, hO⟩ := X₁.ctorThrowS hexec htr (own := own) (cls := cls) (names := names) (ic := ic) hown' hcls hnames h (fun x hx => nomatch hx) hfX hkX hcellA (by rw [hhp, hT]; exact Nat.le_refl _) (msg := .ref sa) rfl
    (g := { method := m, pc := pc + 7, locals := ls, stack := .ref sa :: .ref T.heap.size :: .ref T.heap.size :: rest, locked := none }) rfl hsize rfl rfl (rest := rest) rfl
    (by rw [hb]; exact d7) (by rw [hb]; exact d10) hout hRframes (by simp only [List.map_cons, List.sum_cons, hcat]; omega) hlocks
  obtain ⟨f1, f2⟩ := vx_frame hsame
  rw [hhp] at f1 f2
  have hWs : s.WarmedH U.vm := State.WarmedH.trans hW0 hW
  have hcl : s.vm.findClass cls = some ce.cls := by
    have h9 := hO.cls
    rw [hvm] at h9
    exact h9
  have hall : s.sameButNew ({ U with vm := s.vm } : State) locs mc ms := by
    subst hA
    obtain ⟨e1, e2⟩ := hsame
    rw [State.setFrames_setFrames] at e1
    have h2 : (T.setVm s.vm).sameButNew ({ U with vm := s.vm } : State) [] (0 + 1) (0 + 6) := ⟨e1, e2⟩
    have h3 := X.same.trans h2
    rw [List.append_nil] at h3
    exact h3.mono hc hs
  refine ⟨U, ?_, .threw T.heap.size, hrun, hend, Or.inr ⟨T.heap.size, rfl, cls, ce, locs, hx U hWs.alike f1 (fun q hq => f2 q hq (fun z hz => nomatch hz)), hce, hO.vm, hcl, hWs, hall, hf⟩⟩
  refine st1 _ ?_
  show Steps p.tables e below (T1.setTop { method := m, pc := pc + 3, locals := ls, stack := .ref T.heap.size :: rest, locked := none }) _
  jvm_step X₁.here [X₁.here.top, hexec, d3', Value.category]
  exact X₁.ldcStringW hexec (own := own) (text := text) (index := is) (a := sa) hown' hstr'.1 hstr'.2
    (g := { method := m, pc := pc + 4, locals := ls, stack := .ref T.heap.size :: .ref T.heap.size :: rest, locked := none }) rfl d4' _ hsteps
end Ends
section Bodies
variable {l : Launch}
theorem vx_ofW {y : MethodName} {ws ws' : List Cond} {rm : Room} {Pc : Array Value → State → Prop} {Qc : Array Value → State → Outcome → State → Prop} {XC : String → State → State → Prop} {mc ms : Nat} {free : Addr → Prop} {cc : ByteArray} {maxL : Nat} {ret : Option FieldType}
    (hy : plainName y.cls = true) (hw : ws = Cond.code y cc maxL ret :: ws')
    (body : ∀ p e s m args below meth c s₁, BodyLoose p l y (headSpec ws rm) cc maxL ret e s m args below meth c s₁ → c.maxLocals = maxL → (∀ x ∈ c.exceptionTable.toList, False) → Pc args s →
      W p l e (headSpec ws rm).room s m args below meth c s.heap [] 0 0 (vx_MQ below Qc XC args s mc ms free) (entryFrame m args maxL)) : vx_Met l y ws rm Pc Qc XC mc ms free := by
  refine MetFree.of_bodyS (code := cc) (maxLocals := maxL) (ret := ret) hy ?_ ?_
  · intro args s m h hn
    obtain ⟨meth, c, h1, h2, h3, h4, h5, h6, -, -⟩ := Cond.code_spec hn (atoms_spec (ws := ws) h _ (by rw [hw]; exact List.mem_cons_self))
    exact ⟨meth, c, h1, h2, h3, h4, h5, h6⟩
  · intro p e s m args below meth c s₁ B hml hP _
    have hh0 : s₁.heap = s.heap := by rw [B.state]; rfl
    have ht : ∀ x ∈ c.exceptionTable.toList, False := by
      obtain ⟨meth9, c9, h1, h2, -, -, -, -, h7, -⟩ := Cond.code_spec B.named (atoms_spec (ws := ws) B.pre _ (by rw [hw]; exact List.mem_cons_self))
      cases Option.some.inj (h1.symm.trans B.method)
      cases Option.some.inj (h2.symm.trans (Stand.of_body B).code)
      intro x hx
      rw [Array.isEmpty_iff.mp h7] at hx
      cases hx
    obtain ⟨t, a1, o, b1, b2, b3⟩ := body p e s m args below meth c s₁ B hml ht hP s₁ hh0 (Stand.of_body B)
    exact ⟨t, o, a1, b1, b2, b3⟩
/-- the table of a body with handlers -/
theorem vx_table {p : Program} {x y : MethodName} {S : Spec} {cc bytes : ByteArray} {maxL maxL' : Nat} {ret ret' : Option FieldType} {e : Env} {s s₁ : State} {m : MethodId} {args : Array Value} {below : List Frame} {meth : Method} {c : Code} {hh : List (Nat × Nat × Nat × Nat)}
    (B : BodyLoose p l y S cc maxL ret e s m args below meth c s₁) (h : (Cond.codeWith y bytes maxL' ret' hh).before args s = true) : c.exceptionTable.toList = tableOf hh := by
  obtain ⟨m9, meth9, c9, hn9, h1, h2, -, -, h6, -⟩ := Cond.codeWith_spec h
  cases Option.some.inj (hn9.symm.trans B.named)
  cases Option.some.inj (h1.symm.trans B.method)
  cases Option.some.inj (h2.symm.trans (Stand.of_body B).code)
  rw [← h6, table_eq]
end Bodies
end VXA
/-! ===== END ===== -/
/-! ===== BEGIN a static call of a method with an exception table ===== -/
section VXS
variable {p : Program} {l : Launch} {e : Env} {R : Room} {s : State} {m : MethodId} {args : Array Value} {below : List Frame} {meth : Method} {c : Code} {T : State} {H : Heap} {locs : List Loc} {cells slots : Nat}
abbrev vx_CSW (R : Room) (s : State) (args : Array Value) (own : String) (index : Nat) (y : MethodName) (bytes : ByteArray) (maxL : Nat) (ret : Option FieldType) (hh : List (Nat × Nat × Nat × Nat)) (ws : List Cond) (rm : Room) (mc ms n : Nat) : Prop :=
  (rm.cells = mc ∧ rm.slots = ms ∧ rm.frames + 1 ≤ R.frames ∧ 8 + (maxL + 11) + rm.locals ≤ R.locals ∧ (∀ w ∈ ws, ∀ (a' : Array Value) (U : State), s.WarmedH U.vm → w.before a' U = true) ∧ Cond.codeWith y bytes maxL ret hh ∈ ws) ∧
  (Cond.codeWith y bytes maxL ret hh).before args s = true ∧ (Cond.initialized y.cls).before args s = true ∧ (y.cls ≠ "java/lang/invoke/MethodHandle" ∧ y.cls ≠ "java/lang/invoke/VarHandle") ∧
  (∀ sig, parseMethodDescriptor y.desc = some sig → n = sig.parameters.length) ∧ (Cond.methodLink own index y).before args s = true ∧ (Cond.static y).before args s = true
theorem vx_cwSW {own : String} {index maxL mc ms : Nat} {y : MethodName} {bytes : ByteArray} {ret : Option FieldType} {hh : List (Nat × Nat × Nat × Nat)} {Ts ws ws' : List Cond} {rm : Room} (n : Nat) (ht : ∀ w ∈ Ts, w.before args s = true) (hT : GoodIn Ts (va_wsS own index y ws)) (hw : ws = Cond.codeWith y bytes maxL ret hh :: ws') (hrc : rm.cells = mc) (hrs : rm.slots = ms)
    (hd : y.cls ≠ "java/lang/invoke/MethodHandle" ∧ y.cls ≠ "java/lang/invoke/VarHandle" ∧ (parseMethodDescriptor y.desc).map (fun d => d.parameters.length) = some n) (hR : rm.frames + 1 ≤ R.frames ∧ 8 + (maxL + 11) + rm.locals ≤ R.locals) :
    vx_CSW R s args own index y bytes maxL ret hh ws rm mc ms n := by
  have ok : ∀ w ∈ va_wsS own index y ws, w.before args s = true := fun w h => ht w (hT w h).1
  have hG : GoodIn Ts ws := fun w h => hT w (by unfold va_wsS; exact List.mem_append_right _ h)
  have hc : Cond.codeWith y bytes maxL ret hh ∈ ws := by rw [hw]; exact List.mem_cons_self
  refine ⟨⟨hrc, hrs, hR.1, hR.2, pay_in ht hG, hc⟩, ht _ (hG _ hc).1, ok _ (by simp [va_wsS]), ⟨hd.1, hd.2.1⟩, fun sig h => ?_, ok _ (by simp [va_wsS]), ok _ (by simp [va_wsS])⟩
  have h2 := hd.2.2
  rw [h] at h2
  exact (Option.some.inj h2).symm
theorem vx_callSW (X : Stand p l e R s m args below meth c T locs cells slots) (hexec : p.tables.exec = Jvm.exec) {own : String} {index : Nat} {y : MethodName} {bytes : ByteArray} {maxL : Nat} {ret : Option FieldType} {hh : List (Nat × Nat × Nat × Nat)}
    (hown : s.vm.findClass own = some m.cls) (hlink : (Cond.methodLink own index y).before args s = true) (hstat : (Cond.static y).before args s = true) (hinit : (Cond.initialized y.cls).before args s = true)
    (hcode : (Cond.codeWith y bytes maxL ret hh).before args s = true) (hy : y.cls ≠ "java/lang/invoke/MethodHandle" ∧ y.cls ≠ "java/lang/invoke/VarHandle")
    {W9 : Nat} {Pre : Pt → Array Value → Prop} {Post : Pt → Array Value → Option Value → Pt → Prop} (hK : Back l R p e below s args y 3 W9 Pre Post)
    {g : JFrame} (hg : g.method = m) (hsize : g.locals.size = c.maxLocals) {argsL rest : List Value} (hlen : ∀ sig, parseMethodDescriptor y.desc = some sig → argsL.length = sig.parameters.length)
    (hstack : g.stack = argsL.reverse ++ rest) (hW : 2 * g.monitorRoom + (rest.map fun v => v.category).sum ≤ W9) (hdg : decode c.code g.pc = .ok (.invokestatic index, 3))
    (hpre : ∀ vm₁, s.WarmedH vm₁ → Pre ⟨T.setVm vm₁, locs, cells, slots⟩ argsL.toArray) :
    ∃ (v : Option Value) (vm₁ : Vm) (B : Pt), s.WarmedH vm₁ ∧ Stand p l e R s m args below meth c B.U B.locs B.cells B.slots ∧ Post ⟨T.setVm vm₁, locs, cells, slots⟩ argsL.toArray v B ∧
      ∀ target, Steps p.tables e below (B.U.setTop { g with pc := g.pc + 3, stack := v.toList ++ rest }) target → Steps p.tables e below (T.setTop g) target := by
  obtain ⟨mk, methM, cM, hnamed, hmethM, -, -, -, -, -, -, hsigM⟩ := Cond.codeWith_spec hcode
  have hstatic : methM.isStatic = true := Cond.static_spec hnamed hmethM hstat
  obtain ⟨kP, hkP, -⟩ := className_of_methodNamed hnamed
  have hinitP : kP.init = .initialized := Cond.initialized_spec (findClass_of_methodNamed hnamed) hkP hinit
  obtain ⟨vm₁, X₁, hstep₁⟩ := X.invokestatic hexec hown hlink hnamed hmethM hstatic hkP hinitP hy (g := g) hg (argsL := argsL) (rest := rest) (hlen _ hsigM) hstack hdg
  obtain ⟨v, B, X', hpost, hsteps⟩ := hK m meth c ⟨T.setVm vm₁, locs, cells, slots⟩ { g with stack := rest } (.invokestatic index) mk argsL.toArray X₁ hg hsize hdg hW (X₁.named hnamed) (hpre vm₁ X₁.warmed)
  exact ⟨v, vm₁, B, X₁.warmed, X', hpost, fun target h => hstep₁ _ fun acts => by rw [doInvoke_state]; exact hsteps.trans h⟩
theorem vx_runSW {y : MethodName} {bytes cc : ByteArray} {maxL nL mc ms n index : Nat} {ret : Option FieldType} {hh : List (Nat × Nat × Nat × Nat)} {ws : List Cond} {rm : Room} {Pc : Array Value → State → Prop} {Qc : Array Value → State → Outcome → State → Prop} {free : Addr → Prop} {Ts : List Cond} {own : String} {As rest : List Value} {g : JFrame}
    (S : CallFix p m c cc nL s args Ts own) (hM : Met l y ws rm Pc Qc mc ms free) (cw : vx_CSW R s args own index y bytes maxL ret hh ws rm mc ms n) (hp : PreS s H Pc As)
    (hg : g.method = m) (hn : As.length = n) (hsize : g.locals.size = nL) (hstack : g.stack = As.reverse ++ rest) (hW : 2 * g.monitorRoom + (rest.map fun v => v.category).sum ≤ 8) (hdg : decode cc g.pc = .ok (.invokestatic index, 3)) (hf : cells + mc ≤ R.cells ∧ slots + ms ≤ R.slots) :
    va_Run p l e R s m args below meth c H locs cells slots mc ms g rest (Qc As.toArray) (free) := by
  obtain ⟨⟨hrc, hrs, hfr, hlo, hws, hcw⟩, hcode, hini, hy, hlen, hl, hstt⟩ := cw
  have hK : Back l R p e below s args y 3 8 (PreOf R mc ms Pc) (PostOf Qc mc ms free) := va_backW (hh := hh) (bytes := bytes) (maxL := maxL) (ret := ret) hM hp.1 hrc hrs hfr hlo hws hcw (fun a' U hW => word_at hW (Or.inl (by first | rfl | simp [Cond.onTables, Cond.keeps, Cond.steady])) hini)
  obtain ⟨hx, hb, hml, ho, -⟩ := S
  intro T hT X
  obtain ⟨v, vm₁, ⟨U', l2, c2, s2⟩, hW₁, X', ⟨g', mk, t, L, e1, e2, hq, h1, hL, h2, h3⟩, st⟩ := vx_callSW X hx (hh := hh) (bytes := bytes) (maxL := maxL) (ret := ret) ho hl hstt hini hcode hy hK hg (hsize.trans hml.symm) (argsL := As) (rest := rest) (fun sig h => hn.trans (hlen sig h)) hstack hW (by rw [hb]; exact hdg)
    (fun vm₁ hW₁ => ⟨hf.1, hf.2, hp.2 (T.setVm vm₁) hT hW₁⟩)
  dsimp only [Pt.U, Pt.locs, Pt.cells, Pt.slots] at X' e1 e2 h1 h2 h3 st
  subst h1; subst h2; subst h3
  exact ⟨v, (T.setVm vm₁).calling g' mk As.toArray, t, U', L, hT, X', hL, e1, e2, hq, st⟩
/-- not caught here, past rows that name other classes: it goes on to the caller -/
theorem vx_outP {p : Program} {l : Launch} {e : Env} {R : Room} {s : State} {m : MethodId} {args : Array Value} {below : List Frame} {meth : Method} {c : Code} {H : Heap} {locs : List Loc} {cells slots : Nat} {free : Addr → Prop} {ls : Array Slot} {rest : List Value} {Qc : Array Value → State → Outcome → State → Prop} {XC : String → State → State → Prop}
    {pc : Nat} {own E : String} {ce : Cell} {q : Addr} {mc ms : Nat} (hown : s.vm.findClass own = some m.cls) (hlocks : meth.locks = false)
    (hpass : ∀ z ∈ c.exceptionTable.toList, covers z pc = false ∨ (z.catchType ≠ 0 ∧ ∃ nm : String, (Cond.classLink own z.catchType nm).before args s = true ∧ va_Nc E nm s)) (hcell : H[q]? = some ce) (hv : ce.vm = .none) (hcl : s.vm.findClass E = some ce.cls)
    (hx : ∀ t : State, t.heap = H → s.vm.Alike t.vm → XC E s t) (hf : ∀ z ∈ locs, free z.base) (hc : cells ≤ mc) (hs : slots ≤ ms) :
    vx_W p l e R s m args below meth c H locs cells slots (vx_MQ below Qc XC args s mc ms free) (F0 m pc ls rest) q := by
  intro T hT X
  have hpl : e.platform.magicAccessors = ({} : Platform).magicAccessors := by rw [X.admits.platform]
  obtain ⟨vm', hW', X', st⟩ := X.outThrough hlocks q (g := F0 m pc ls rest) rfl rfl rfl (cell := ce) (by rw [hT]; exact hcell) (by rw [hv]; rfl)
    (by obtain ⟨k9, h9, -⟩ := Vm.findClass_spec hcl; exact ⟨k9, h9⟩) (fun z hz => by
      rcases hpass z hz with h | ⟨hz0, nm, hl1, hn1⟩
      · exact Or.inl h
      · obtain ⟨c6, hc6, hcl6⟩ := Cond.classLink_spec hown hl1 e.platform hpl
        obtain ⟨a8, b8, h1, h2, h3⟩ := hn1
        cases Option.some.inj (h1.symm.trans hcl)
        cases Option.some.inj (h2.symm.trans hc6)
        exact Or.inr ⟨hz0, _, hcl6, h3⟩)
  obtain ⟨g₀, hfr⟩ := X'.frames_eq
  have hcell9 : ((T.setVm vm').setFrames (.throwing q :: below)).heap[q]? = some ce := by
    show T.heap[q]? = some ce
    rw [hT]; exact hcell
  have hend : Ended ((T.setVm vm').setFrames (.throwing q :: below)) below (.threw q) := State.frames_setFrames _ (State.cur_lt_of_frames hfr)
  refine ⟨(T.setVm vm').setFrames (.throwing q :: below), ?_, .threw q, X'.here.running, hend, Or.inr ⟨q, rfl, E, ce, locs, hx _ hT (X'.ends _).1.alike, hcell9, hv, hcl, (X'.ends _).1, (X'.ends _).2.mono hc hs, hf⟩⟩
  rw [X.pushThrowing_eq]
  exact st
/-- a thing of a world lies in the heap -/
theorem vx_lt {D : va_G} {cl : List vw_C} {ws : va_W} {H1 : Heap} (h : va_P D cl ws H1) {k : Nat} {q : Nat × va_E} (hk : ws[k]? = some q) : q.1 < H1.size := (h k q hk).lt
end VXS
/-! ===== END ===== -/
/-! ===== BEGIN methods with a table of their own: called by a name, returning or throwing ===== -/
section VXH
/-! vx_backW, vx_callVX, vx_callSX, vx_callVW, vx_runVW, vx_runVX, vx_runSX, vx_ofWH follow the same proofs as their sisters above (Free/Laws.lean, Shelf42/LK1.lean); vx_outP calls Shelf42/NT130.lean (outThrough). -/
section
variable {l : Launch} {R : Room} {p : Program} {e : Env} {below : List Frame} {s : State} {sargs : Array Value} {y : MethodName} {len W9 : Nat}
theorem vx_backW {ws : List Cond} {rm : Room} {Pc : Array Value → State → Prop} {Qc : Array Value → State → Outcome → State → Prop} {XC : String → State → State → Prop} {mc ms : Nat} {free : Addr → Prop} {bytes : ByteArray} {maxL : Nat} {ret : Option FieldType} {hh : List (Nat × Nat × Nat × Nat)}
    (hM : vx_Met l y ws rm Pc Qc XC mc ms free) (hblind : FrameBlind Pc) (hrc : rm.cells = mc) (hrs : rm.slots = ms)
    (hframes : rm.frames + 1 ≤ R.frames) (hlocals : W9 + (maxL + 11) + rm.locals ≤ R.locals)
    (hws : ∀ w ∈ ws, ∀ a' U, s.WarmedH U.vm → w.before a' U = true) (hcode : Cond.codeWith y bytes maxL ret hh ∈ ws) (hinit : ∀ a' U, s.WarmedH U.vm → (Cond.initialized y.cls).before a' U = true) :
    vx_Back l R p e below s sargs y len W9 (PreOf R mc ms Pc) (PostOf Qc mc ms free) (vx_Post XC mc ms free) := by
  intro m meth c A g ig mk a X hg hsize hdg hW hn hp
  have h1 : (headSpec ws rm).pre.before a A.U = true := atoms_intro fun w hw => hws w hw _ _ X.warmed
  have h2 : (Cond.codeWith y bytes maxL ret hh).before a A.U = true := hws _ hcode _ _ X.warmed
  have h3 : (Cond.initialized y.cls).before a A.U = true := hinit _ _ X.warmed
  have h4 : A.cells + (headSpec ws rm).room.cells ≤ R.cells := by rw [show (headSpec ws rm).room.cells = mc from hrc]; exact hp.1
  have h5 : A.slots + (headSpec ws rm).room.slots ≤ R.slots := by rw [show (headSpec ws rm).room.slots = ms from hrs]; exact hp.2.1
  have hPc : Pc a (A.U.calling g mk a) := hblind _ _ _ _ hp.2.2
  obtain ⟨U, Ls, c0, s0⟩ := A
  dsimp only [Pt.U, Pt.locs, Pt.cells, Pt.slots] at h1 h2 h3 h4 h5 X hn hPc ⊢
  obtain ⟨m9, methY, cY, hn9, hmY, hcY, -, hlY, -⟩ := Cond.codeWith_spec h2
  cases Option.some.inj (hn9.symm.trans hn)
  obtain ⟨kY, hkY, -⟩ := className_of_methodNamed hn
  have hinitY : kY.init = .initialized := Cond.initialized_spec (findClass_of_methodNamed hn) hkY h3
  have h : At U g.method c below := by rw [hg]; exact X.here
  have hlocals9 : W9 + (maxL + 11) + (headSpec ws rm).room.locals ≤ R.locals := hlocals
  have happ : (headSpec ws rm).appliesLoose y e.platform (U.calling g mk a) = true :=
    Spec.appliesLoose_calling (g := g) h hdg hn hkY hinitY
      (X.room_calling (g := g) (R' := (headSpec ws rm).room) hsize hmY hcY hframes (by rw [hlY]; omega) h4 h5) h1
  obtain ⟨mid, hmid⟩ := h.above
  have hfr : (U.setTop g).frames = (.java g :: mid) ++ below := by rw [State.frames_setTop' g h.top, hmid]; rfl
  obtain ⟨o, s₂, hsteps, -, hend, hq⟩ := Steps.callFree hM p X.admits X.cas X.clock (acts := []) hfr happ hPc trivial
  have hq' : vx_Q Qc XC mc ms free a (U.calling g mk a) o s₂ := hq
  rw [State.frames_setTop' g h.top] at hend
  obtain ⟨g₀, hg0⟩ := Option.isSome_iff_exists.mp h.top
  obtain ⟨r, hr⟩ := State.topJava?_eq_some.mp hg0
  have hr' : (({ U with heap := s₂.heap, slotsUsed := s₂.slotsUsed } : State).setVm s₂.vm).frames = .java g₀ :: r := hr
  rcases hq' with ⟨hqc, L, hfe, hL⟩ | ⟨q, rfl, E, ce, L, hx, hce, hcv, hcl, hW₂, hsm, hL⟩
  · obtain ⟨⟨v, rfl⟩, hW₂, e2, q2, q3, q4, q5, q6⟩ := id hfe
    have e3 : s₂ = ({ (U.calling g mk a).setFrames s₂.frames with heap := s₂.heap, slotsUsed := s₂.slotsUsed } : State).setVm s₂.vm := by
      have : s₂ = ({ s₂ with vm := (U.calling g mk a).vm } : State).setVm s₂.vm := rfl
      rw [e2] at this
      exact this
    obtain ⟨c₂, i₂, len₂, hc₂, hd₂, hf₂⟩ := hend
    have hW' : U.WarmedH s₂.vm := hW₂
    have hcc : c₂ = c := by
      have h1 : s₂.code? g.method = U.code? g.method := by
        rw [State.code?_eq, State.code?_eq, hW'.alike.method?]
      exact Option.some.inj (hc₂.symm.trans (h1.trans h.code))
    subst hcc
    have hlen : len₂ = len := by rw [hdg] at hd₂; cases hd₂; rfl
    subst hlen
    have hs₂ : s₂ = (({ U with heap := s₂.heap, slotsUsed := s₂.slotsUsed } : State).setVm s₂.vm).setTop { g with pc := g.pc + len₂, stack := v.toList ++ g.stack } := by
      refine e3.trans ?_
      rw [hf₂, State.calling_eq h.top, State.setFrames_setFrames, State.setTop_of_frames _ hr', hr]
      rfl
    have hsame : U.sameButNew ({ U with heap := s₂.heap, slotsUsed := s₂.slotsUsed } : State) L mc ms := by
      refine ⟨?_, q2, q3, q4, q5, q6⟩
      obtain ⟨t, ht, -⟩ := State.frames_cons hr
      show ({ U with heap := s₂.heap, slotsUsed := s₂.slotsUsed } : State) = { U.setFrames U.frames with heap := s₂.heap, slotsUsed := s₂.slotsUsed }
      rw [State.setFrames_self ht]
    subst hg
    refine Or.inl ⟨v, ⟨(({ U with heap := s₂.heap, slotsUsed := s₂.slotsUsed } : State).setVm s₂.vm), Ls ++ L, c0 + mc, s0 + ms⟩,
      ⟨X.admits, X.cas, X.clock, X.frames, X.room, X.hears, X.method, X.code, (X.here.setHeapUsed s₂.heap s₂.slotsUsed).setVm hW'.alike, X.tail, State.WarmedH.trans X.warmed hW', X.limits, X.bytes, X.same.trans (hsame.setVm s.vm)⟩,
      ⟨g, mk, s₂, L, rfl, rfl, hqc, rfl, hL, rfl, rfl⟩, ?_⟩
    show Steps p.tables e below _ ((({ U with heap := s₂.heap, slotsUsed := s₂.slotsUsed } : State).setVm s₂.vm).setTop { g with pc := g.pc + len₂, stack := v.toList ++ g.stack })
    rw [← hs₂]
    exact hsteps
  · obtain ⟨e2, q2, q3, q4, q5, q6⟩ := id hsm
    have e3 : s₂ = ({ (U.calling g mk a).setFrames s₂.frames with heap := s₂.heap, slotsUsed := s₂.slotsUsed } : State).setVm s₂.vm := by
      have : s₂ = ({ s₂ with vm := (U.calling g mk a).vm } : State).setVm s₂.vm := rfl
      rw [e2] at this
      exact this
    have hf₂ : s₂.frames = .throwing q :: .java g :: U.frames.tail := hend
    have hW' : U.WarmedH s₂.vm := hW₂
    have hs₂ : s₂ = ((({ U with heap := s₂.heap, slotsUsed := s₂.slotsUsed } : State).setVm s₂.vm).setTop g).pushFrame (.throwing q) := by
      refine e3.trans ?_
      rw [hf₂, State.calling_eq h.top, State.setFrames_setFrames, State.pushFrame, State.frames_setTop _ hr', State.setTop_of_frames _ hr', State.setFrames_setFrames, hr]
      rfl
    have hsame : U.sameButNew ({ U with heap := s₂.heap, slotsUsed := s₂.slotsUsed } : State) L mc ms := by
      refine ⟨?_, q2, q3, q4, q5, q6⟩
      obtain ⟨t, ht, -⟩ := State.frames_cons hr
      show ({ U with heap := s₂.heap, slotsUsed := s₂.slotsUsed } : State) = { U.setFrames U.frames with heap := s₂.heap, slotsUsed := s₂.slotsUsed }
      rw [State.setFrames_self ht]
    subst hg
    refine Or.inr ⟨q, ⟨(({ U with heap := s₂.heap, slotsUsed := s₂.slotsUsed } : State).setVm s₂.vm), Ls ++ L, c0 + mc, s0 + ms⟩,
      ⟨X.admits, X.cas, X.clock, X.frames, X.room, X.hears, X.method, X.code, (X.here.setHeapUsed s₂.heap s₂.slotsUsed).setVm hW'.alike, X.tail, State.WarmedH.trans X.warmed hW', X.limits, X.bytes, X.same.trans (hsame.setVm s.vm)⟩,
      ⟨g, mk, s₂, L, E, ce, rfl, rfl, hx, hce, hcv, hcl, rfl, hL, rfl, rfl⟩, ?_⟩
    show Steps p.tables e below _ (((({ U with heap := s₂.heap, slotsUsed := s₂.slotsUsed } : State).setVm s₂.vm).setTop g).pushFrame (.throwing q))
    rw [← hs₂]
    exact hsteps
end
variable {p : Program} {l : Launch} {e : Env} {R : Room} {s : State} {m : MethodId} {args : Array Value} {below : List Frame} {meth : Method} {c : Code} {T : State} {H : Heap} {locs : List Loc} {cells slots : Nat}
theorem vx_callVX (X : Stand p l e R s m args below meth c T locs cells slots) (hexec : p.tables.exec = Jvm.exec) {own C : String} {index : Nat} {y : MethodName} {bytes : ByteArray} {maxL : Nat} {ret : Option FieldType} {hh : List (Nat × Nat × Nat × Nat)}
    (hown : s.vm.findClass own = some m.cls) (hlink : (Cond.methodLink own index y).before args s = true) (hinst : (Cond.instanceMethod y).before args s = true) (hsel : (Cond.selects C y y).before args s = true)
    (hcode : (Cond.codeWith y bytes maxL ret hh).before args s = true) (hy : y.cls ≠ "java/lang/invoke/MethodHandle" ∧ y.cls ≠ "java/lang/invoke/VarHandle")
    {W9 : Nat} {Pre : Pt → Array Value → Prop} {Post : Pt → Array Value → Option Value → Pt → Prop} {PostX : Pt → Array Value → Addr → Pt → Prop} (hK : vx_Back l R p e below s args y 3 W9 Pre Post PostX)
    {b : Addr} {cellB : Cell} (hcell : T.heap[b]? = some cellB) (hobj : cellB.vm.isStatics = false) (hcls : s.vm.findClass C = some cellB.cls)
    {g : JFrame} (hg : g.method = m) (hsize : g.locals.size = c.maxLocals) {argsL rest : List Value} (hlen : ∀ sig, parseMethodDescriptor y.desc = some sig → argsL.length = sig.parameters.length)
    (hstack : g.stack = argsL.reverse ++ .ref b :: rest) (hW : 2 * g.monitorRoom + (rest.map fun v => v.category).sum ≤ W9) (hdg : decode c.code g.pc = .ok (.invokevirtual index, 3))
    (hpre : ∀ vm₁, s.WarmedH vm₁ → Pre ⟨T.setVm vm₁, locs, cells, slots⟩ (Value.ref b :: argsL).toArray) :
    (∃ (v : Option Value) (vm₁ : Vm) (B : Pt), s.WarmedH vm₁ ∧ Stand p l e R s m args below meth c B.U B.locs B.cells B.slots ∧ Post ⟨T.setVm vm₁, locs, cells, slots⟩ (Value.ref b :: argsL).toArray v B ∧
      ∀ target, Steps p.tables e below (B.U.setTop { g with pc := g.pc + 3, stack := v.toList ++ rest }) target → Steps p.tables e below (T.setTop g) target) ∨
    (∃ (q : Addr) (vm₁ : Vm) (B : Pt), s.WarmedH vm₁ ∧ Stand p l e R s m args below meth c B.U B.locs B.cells B.slots ∧ PostX ⟨T.setVm vm₁, locs, cells, slots⟩ (Value.ref b :: argsL).toArray q B ∧
      Steps p.tables e below (T.setTop g) ((B.U.setTop { g with stack := rest }).pushFrame (.throwing q))) := by
  obtain ⟨mk, methM, hnamed, hmethM, hstM, habM⟩ := Cond.instanceMethod_spec hinst
  obtain ⟨m8, methM', cM, hn8, hmethM', -, -, -, -, -, -, hsigM⟩ := Cond.codeWith_spec hcode
  cases Option.some.inj (hn8.symm.trans hnamed)
  cases hmethM.symm.trans hmethM'
  obtain ⟨c2, r2, m2, q1, q2, q3, q4, kP, hkP, hkPi⟩ := Cond.selects_spec hsel
  cases hcls.symm.trans q1
  cases (State.methodFound?_of_named hnamed hy).symm.trans q2
  cases hnamed.symm.trans q3
  have hselP : selectMethod e.platform s.vm cellB.cls mk = .method mk := by rw [Launch.admits_selectMethod X.admits]; exact q4
  obtain ⟨vm₁, X₁, hstep₁⟩ := X.invokevirtual hexec hown hlink hnamed hmethM hstM hkP hkPi hy (a := b) (cell := cellB) hcell
    (fun z h => by rw [h] at hobj; cases hobj) hselP hmethM habM hkP hkPi (g := g) hg (argsL := argsL) (rest := rest) (hlen _ hsigM) hstack hdg
  rcases hK m meth c ⟨T.setVm vm₁, locs, cells, slots⟩ { g with stack := rest } (.invokevirtual index) mk (Value.ref b :: argsL).toArray X₁ hg hsize hdg hW (X₁.named hnamed) (hpre vm₁ X₁.warmed) with ⟨v, B, X', hpost, hsteps⟩ | ⟨q, B, X', hpost, hsteps⟩
  · exact Or.inl ⟨v, vm₁, B, X₁.warmed, X', hpost, fun target h => hstep₁ _ fun acts => by rw [doInvoke_state]; exact hsteps.trans h⟩
  · exact Or.inr ⟨q, vm₁, B, X₁.warmed, X', hpost, hstep₁ _ fun acts => by rw [doInvoke_state]; exact hsteps⟩
theorem vx_callSX (X : Stand p l e R s m args below meth c T locs cells slots) (hexec : p.tables.exec = Jvm.exec) {own : String} {index : Nat} {y : MethodName} {bytes : ByteArray} {maxL : Nat} {ret : Option FieldType} {hh : List (Nat × Nat × Nat × Nat)}
    (hown : s.vm.findClass own = some m.cls) (hlink : (Cond.methodLink own index y).before args s = true) (hstat : (Cond.static y).before args s = true) (hinit : (Cond.initialized y.cls).before args s = true)
    (hcode : (Cond.codeWith y bytes maxL ret hh).before args s = true) (hy : y.cls ≠ "java/lang/invoke/MethodHandle" ∧ y.cls ≠ "java/lang/invoke/VarHandle")
    {W9 : Nat} {Pre : Pt → Array Value → Prop} {Post : Pt → Array Value → Option Value → Pt → Prop} {PostX : Pt → Array Value → Addr → Pt → Prop} (hK : vx_Back l R p e below s args y 3 W9 Pre Post PostX)
    {g : JFrame} (hg : g.method = m) (hsize : g.locals.size = c.maxLocals) {argsL rest : List Value} (hlen : ∀ sig, parseMethodDescriptor y.desc = some sig → argsL.length = sig.parameters.length)
    (hstack : g.stack = argsL.reverse ++ rest) (hW : 2 * g.monitorRoom + (rest.map fun v => v.category).sum ≤ W9) (hdg : decode c.code g.pc = .ok (.invokestatic index, 3))
    (hpre : ∀ vm₁, s.WarmedH vm₁ → Pre ⟨T.setVm vm₁, locs, cells, slots⟩ argsL.toArray) :
    (∃ (v : Option Value) (vm₁ : Vm) (B : Pt), s.WarmedH vm₁ ∧ Stand p l e R s m args below meth c B.U B.locs B.cells B.slots ∧ Post ⟨T.setVm vm₁, locs, cells, slots⟩ argsL.toArray v B ∧
      ∀ target, Steps p.tables e below (B.U.setTop { g with pc := g.pc + 3, stack := v.toList ++ rest }) target → Steps p.tables e below (T.setTop g) target) ∨
    (∃ (q : Addr) (vm₁ : Vm) (B : Pt), s.WarmedH vm₁ ∧ Stand p l e R s m args below meth c B.U B.locs B.cells B.slots ∧ PostX ⟨T.setVm vm₁, locs, cells, slots⟩ argsL.toArray q B ∧
      Steps p.tables e below (T.setTop g) ((B.U.setTop { g with stack := rest }).pushFrame (.throwing q))) := by
  obtain ⟨mk, methM, cM, hnamed, hmethM, -, -, -, -, -, -, hsigM⟩ := Cond.codeWith_spec hcode
  have hstatic : methM.isStatic = true := Cond.static_spec hnamed hmethM hstat
  obtain ⟨kP, hkP, -⟩ := className_of_methodNamed hnamed
  have hinitP : kP.init = .initialized := Cond.initialized_spec (findClass_of_methodNamed hnamed) hkP hinit
  obtain ⟨vm₁, X₁, hstep₁⟩ := X.invokestatic hexec hown hlink hnamed hmethM hstatic hkP hinitP hy (g := g) hg (argsL := argsL) (rest := rest) (hlen _ hsigM) hstack hdg
  rcases hK m meth c ⟨T.setVm vm₁, locs, cells, slots⟩ { g with stack := rest } (.invokestatic index) mk argsL.toArray X₁ hg hsize hdg hW (X₁.named hnamed) (hpre vm₁ X₁.warmed) with ⟨v, B, X', hpost, hsteps⟩ | ⟨q, B, X', hpost, hsteps⟩
  · exact Or.inl ⟨v, vm₁, B, X₁.warmed, X', hpost, fun target h => hstep₁ _ fun acts => by rw [doInvoke_state]; exact hsteps.trans h⟩
  · exact Or.inr ⟨q, vm₁, B, X₁.warmed, X', hpost, hstep₁ _ fun acts => by rw [doInvoke_state]; exact hsteps⟩
theorem vx_callVW (X : Stand p l e R s m args below meth c T locs cells slots) (hexec : p.tables.exec = Jvm.exec) {own C : String} {index : Nat} {y : MethodName} {bytes : ByteArray} {maxL : Nat} {ret : Option FieldType} {hh : List (Nat × Nat × Nat × Nat)}
    (hown : s.vm.findClass own = some m.cls) (hlink : (Cond.methodLink own index y).before args s = true) (hinst : (Cond.instanceMethod y).before args s = true) (hsel : (Cond.selects C y y).before args s = true)
    (hcode : (Cond.codeWith y bytes maxL ret hh).before args s = true) (hy : y.cls ≠ "java/lang/invoke/MethodHandle" ∧ y.cls ≠ "java/lang/invoke/VarHandle")
    {W9 : Nat} {Pre : Pt → Array Value → Prop} {Post : Pt → Array Value → Option Value → Pt → Prop} (hK : Back l R p e below s args y 3 W9 Pre Post)
    {b : Addr} {cellB : Cell} (hcell : T.heap[b]? = some cellB) (hobj : cellB.vm.isStatics = false) (hcls : s.vm.findClass C = some cellB.cls)
    {g : JFrame} (hg : g.method = m) (hsize : g.locals.size = c.maxLocals) {argsL rest : List Value} (hlen : ∀ sig, parseMethodDescriptor y.desc = some sig → argsL.length = sig.parameters.length)
    (hstack : g.stack = argsL.reverse ++ .ref b :: rest) (hW : 2 * g.monitorRoom + (rest.map fun v => v.category).sum ≤ W9) (hdg : decode c.code g.pc = .ok (.invokevirtual index, 3))
    (hpre : ∀ vm₁, s.WarmedH vm₁ → Pre ⟨T.setVm vm₁, locs, cells, slots⟩ (Value.ref b :: argsL).toArray) :
    ∃ (v : Option Value) (vm₁ : Vm) (B : Pt), s.WarmedH vm₁ ∧ Stand p l e R s m args below meth c B.U B.locs B.cells B.slots ∧ Post ⟨T.setVm vm₁, locs, cells, slots⟩ (Value.ref b :: argsL).toArray v B ∧
      ∀ target, Steps p.tables e below (B.U.setTop { g with pc := g.pc + 3, stack := v.toList ++ rest }) target → Steps p.tables e below (T.setTop g) target := by
  obtain ⟨mk, methM, hnamed, hmethM, hstM, habM⟩ := Cond.instanceMethod_spec hinst
  obtain ⟨m8, methM', cM, hn8, hmethM', -, -, -, -, -, -, hsigM⟩ := Cond.codeWith_spec hcode
  cases Option.some.inj (hn8.symm.trans hnamed)
  cases hmethM.symm.trans hmethM'
  obtain ⟨c2, r2, m2, q1, q2, q3, q4, kP, hkP, hkPi⟩ := Cond.selects_spec hsel
  cases hcls.symm.trans q1
  cases (State.methodFound?_of_named hnamed hy).symm.trans q2
  cases hnamed.symm.trans q3
  have hselP : selectMethod e.platform s.vm cellB.cls mk = .method mk := by rw [Launch.admits_selectMethod X.admits]; exact q4
  obtain ⟨vm₁, X₁, hstep₁⟩ := X.invokevirtual hexec hown hlink hnamed hmethM hstM hkP hkPi hy (a := b) (cell := cellB) hcell
    (fun z h => by rw [h] at hobj; cases hobj) hselP hmethM habM hkP hkPi (g := g) hg (argsL := argsL) (rest := rest) (hlen _ hsigM) hstack hdg
  obtain ⟨v, B, X', hpost, hsteps⟩ := hK m meth c ⟨T.setVm vm₁, locs, cells, slots⟩ { g with stack := rest } (.invokevirtual index) mk (Value.ref b :: argsL).toArray X₁ hg hsize hdg hW (X₁.named hnamed) (hpre vm₁ X₁.warmed)
  exact ⟨v, vm₁, B, X₁.warmed, X', hpost, fun target h => hstep₁ _ fun acts => by rw [doInvoke_state]; exact hsteps.trans h⟩
abbrev vx_CVW (R : Room) (s : State) (args : Array Value) (own C : String) (index : Nat) (y : MethodName) (bytes : ByteArray) (maxL : Nat) (ret : Option FieldType) (hh : List (Nat × Nat × Nat × Nat)) (ws : List Cond) (rm : Room) (mc ms n : Nat) : Prop :=
  (rm.cells = mc ∧ rm.slots = ms ∧ rm.frames + 1 ≤ R.frames ∧ 8 + (maxL + 11) + rm.locals ≤ R.locals ∧ (∀ w ∈ ws, ∀ (a' : Array Value) (U : State), s.WarmedH U.vm → w.before a' U = true) ∧ Cond.codeWith y bytes maxL ret hh ∈ ws) ∧
  (Cond.codeWith y bytes maxL ret hh).before args s = true ∧ (Cond.initialized y.cls).before args s = true ∧ (y.cls ≠ "java/lang/invoke/MethodHandle" ∧ y.cls ≠ "java/lang/invoke/VarHandle") ∧
  (∀ sig, parseMethodDescriptor y.desc = some sig → n = sig.parameters.length) ∧ (Cond.methodLink own index y).before args s = true ∧ (Cond.instanceMethod y).before args s = true ∧ (Cond.selects C y y).before args s = true
theorem vx_cwVW {own C : String} {index maxL mc ms : Nat} {y : MethodName} {bytes : ByteArray} {ret : Option FieldType} {hh : List (Nat × Nat × Nat × Nat)} {Ts ws ws' : List Cond} {rm : Room} (n : Nat) (ht : ∀ w ∈ Ts, w.before args s = true) (hT : GoodIn Ts (wsV own index C y ws)) (hw : ws = Cond.codeWith y bytes maxL ret hh :: ws') (hrc : rm.cells = mc) (hrs : rm.slots = ms)
    (hd : y.cls = C ∧ y.cls ≠ "java/lang/invoke/MethodHandle" ∧ y.cls ≠ "java/lang/invoke/VarHandle" ∧ (parseMethodDescriptor y.desc).map (fun d => d.parameters.length) = some n) (hR : rm.frames + 1 ≤ R.frames ∧ 8 + (maxL + 11) + rm.locals ≤ R.locals) :
    vx_CVW R s args own C index y bytes maxL ret hh ws rm mc ms n := by
  obtain ⟨hC, hd⟩ := hd
  subst hC
  have ok : ∀ w ∈ wsV own index y.cls y ws, w.before args s = true := fun w h => ht w (hT w h).1
  have hG : GoodIn Ts ws := fun w h => hT w (by unfold wsV; exact List.mem_append_right _ h)
  have hc : Cond.codeWith y bytes maxL ret hh ∈ ws := by rw [hw]; exact List.mem_cons_self
  refine ⟨⟨hrc, hrs, hR.1, hR.2, pay_in ht hG, hc⟩, ht _ (hG _ hc).1, ok _ (by simp [wsV]), ⟨hd.1, hd.2.1⟩, fun sig h => ?_, ok _ (by simp [wsV]), ok _ (by simp [wsV]), ok _ (by simp [wsV])⟩
  have h2 := hd.2.2
  rw [h] at h2
  exact (Option.some.inj h2).symm
theorem vx_runVW {y : MethodName} {bytes cc : ByteArray} {maxL nL mc ms n index : Nat} {ret : Option FieldType} {hh : List (Nat × Nat × Nat × Nat)} {ws : List Cond} {rm : Room} {Pc : Array Value → State → Prop} {Qc : Array Value → State → Outcome → State → Prop} {free : Addr → Prop} {Ts : List Cond} {own C : String} {b : Addr} {As rest : List Value} {g : JFrame}
    (S : CallFix p m c cc nL s args Ts own) (hM : Met l y ws rm Pc Qc mc ms free) (cw : vx_CVW R s args own C index y bytes maxL ret hh ws rm mc ms n) (hp : PreV s H C b Pc As)
    (hg : g.method = m) (hn : As.length = n) (hsize : g.locals.size = nL) (hstack : g.stack = As.reverse ++ .ref b :: rest) (hW : 2 * g.monitorRoom + (rest.map fun v => v.category).sum ≤ 8) (hdg : decode cc g.pc = .ok (.invokevirtual index, 3)) (hf : cells + mc ≤ R.cells ∧ slots + ms ≤ R.slots) :
    va_Run p l e R s m args below meth c H locs cells slots mc ms g rest (Qc (Value.ref b :: As).toArray) free := by
  obtain ⟨⟨hrc, hrs, hfr, hlo, hws, hcw⟩, hcode, hini, hy, hlen, hl, hin, hse⟩ := cw
  have hK : Back l R p e below s args y 3 8 (PreOf R mc ms Pc) (PostOf Qc mc ms free) := va_backW (hh := hh) (bytes := bytes) (maxL := maxL) (ret := ret) hM hp.1 hrc hrs hfr hlo hws hcw (fun a' U hW => word_at hW (Or.inl (by first | rfl | simp [Cond.onTables, Cond.keeps, Cond.steady])) hini)
  obtain ⟨hx, hb, hml, ho, -⟩ := S
  obtain ⟨-, ⟨cellB, hcB, hoB, hclB⟩, hPc⟩ := hp
  intro T hT X
  obtain ⟨v, vm₁, ⟨U', l2, c2, s2⟩, hW₁, X', ⟨g', mk, t, L, e1, e2, hq, h1, hL, h2, h3⟩, st⟩ := vx_callVW X hx (C := C) (hh := hh) (bytes := bytes) (maxL := maxL) (ret := ret) ho hl hin hse hcode hy hK (by rw [hT]; exact hcB) hoB hclB hg (hsize.trans hml.symm) (argsL := As) (rest := rest) (fun sig h => hn.trans (hlen sig h)) hstack hW (by rw [hb]; exact hdg)
    (fun vm₁ hW₁ => ⟨hf.1, hf.2, hPc (T.setVm vm₁) hT hW₁⟩)
  dsimp only [Pt.U, Pt.locs, Pt.cells, Pt.slots] at X' e1 e2 h1 h2 h3 st
  subst h1; subst h2; subst h3
  exact ⟨v, (T.setVm vm₁).calling g' mk (Value.ref b :: As).toArray, t, U', L, hT, X', hL, e1, e2, hq, st⟩
section
variable {y : MethodName} {bytes cc : ByteArray} {maxL nL mc ms n index : Nat} {ret : Option FieldType} {ws : List Cond} {rm : Room} {Pc : Array Value → State → Prop} {Qc : Array Value → State → Outcome → State → Prop} {XC : String → State → State → Prop} {free : Addr → Prop} {Ts : List Cond} {own C : String} {b : Addr} {As rest : List Value} {g : JFrame}
theorem vx_runVX {hh : List (Nat × Nat × Nat × Nat)} (S : CallFix p m c cc nL s args Ts own) (hM : vx_Met l y ws rm Pc Qc XC mc ms free) (cw : vx_CVW R s args own C index y bytes maxL ret hh ws rm mc ms n) (hp : PreV s H C b Pc As)
    (hg : g.method = m) (hn : As.length = n) (hsize : g.locals.size = nL) (hstack : g.stack = As.reverse ++ .ref b :: rest) (hW : 2 * g.monitorRoom + (rest.map fun v => v.category).sum ≤ 8) (hdg : decode cc g.pc = .ok (.invokevirtual index, 3)) (hf : cells + mc ≤ R.cells ∧ slots + ms ≤ R.slots) :
    vx_Run p l e R s m args below meth c H locs cells slots mc ms g rest (Qc (Value.ref b :: As).toArray) XC free := by
  obtain ⟨⟨hrc, hrs, hfr, hlo, hws, hcw⟩, hcode, hini, hy, hlen, hl, hin, hse⟩ := cw
  have hK : vx_Back l R p e below s args y 3 8 (PreOf R mc ms Pc) (PostOf Qc mc ms free) (vx_Post XC mc ms free) := vx_backW (hh := hh) (bytes := bytes) (maxL := maxL) (ret := ret) hM hp.1 hrc hrs hfr hlo hws hcw (fun a' U hW => word_at hW (Or.inl (by first | rfl | simp [Cond.onTables, Cond.keeps, Cond.steady])) hini)
  obtain ⟨hx, hb, hml, ho, -⟩ := S
  obtain ⟨-, ⟨cellB, hcB, hoB, hclB⟩, hPc⟩ := hp
  intro T hT X
  rcases vx_callVX X hx (C := C) (hh := hh) (bytes := bytes) (maxL := maxL) (ret := ret) ho hl hin hse hcode hy hK (by rw [hT]; exact hcB) hoB hclB hg (hsize.trans hml.symm) (argsL := As) (rest := rest) (fun sig h => hn.trans (hlen sig h)) hstack hW (by rw [hb]; exact hdg)
    (fun vm₁ hW₁ => ⟨hf.1, hf.2, hPc (T.setVm vm₁) hT hW₁⟩) with ⟨v, vm₁, ⟨U', l2, c2, s2⟩, hW₁, X', ⟨g', mk, t, L, e1, e2, hq, h1, hL, h2, h3⟩, st⟩ | ⟨q, vm₁, ⟨U', l2, c2, s2⟩, hW₁, X', ⟨g', mk, t, L, E, ce, e1, e2, hq, hce, hcv, hcl, h1, hL, h2, h3⟩, st⟩
  · dsimp only [Pt.U, Pt.locs, Pt.cells, Pt.slots] at X' e1 e2 h1 h2 h3 st
    subst h1; subst h2; subst h3
    exact Or.inl ⟨v, (T.setVm vm₁).calling g' mk (Value.ref b :: As).toArray, t, U', L, hT, X', hL, e1, e2, hq, st⟩
  · dsimp only [Pt.U, Pt.locs, Pt.cells, Pt.slots] at X' e1 e2 h1 h2 h3 st hcl
    subst h1; subst h2; subst h3
    exact Or.inr ⟨q, (T.setVm vm₁).calling g' mk (Value.ref b :: As).toArray, t, U', L, E, ce, hT, X', hL, e1, e2, hq, hce, hcv, vx_cls hW₁ hcl, st⟩
theorem vx_runSX {hh : List (Nat × Nat × Nat × Nat)} (S : CallFix p m c cc nL s args Ts own) (hM : vx_Met l y ws rm Pc Qc XC mc ms free) (cw : vx_CSW R s args own index y bytes maxL ret hh ws rm mc ms n) (hp : PreS s H Pc As)
    (hg : g.method = m) (hn : As.length = n) (hsize : g.locals.size = nL) (hstack : g.stack = As.reverse ++ rest) (hW : 2 * g.monitorRoom + (rest.map fun v => v.category).sum ≤ 8) (hdg : decode cc g.pc = .ok (.invokestatic index, 3)) (hf : cells + mc ≤ R.cells ∧ slots + ms ≤ R.slots) :
    vx_Run p l e R s m args below meth c H locs cells slots mc ms g rest (Qc As.toArray) XC free := by
  obtain ⟨⟨hrc, hrs, hfr, hlo, hws, hcw⟩, hcode, hini, hy, hlen, hl, hstt⟩ := cw
  have hK : vx_Back l R p e below s args y 3 8 (PreOf R mc ms Pc) (PostOf Qc mc ms free) (vx_Post XC mc ms free) := vx_backW (hh := hh) (bytes := bytes) (maxL := maxL) (ret := ret) hM hp.1 hrc hrs hfr hlo hws hcw (fun a' U hW => word_at hW (Or.inl (by first | rfl | simp [Cond.onTables, Cond.keeps, Cond.steady])) hini)
  obtain ⟨hx, hb, hml, ho, -⟩ := S
  intro T hT X
  rcases vx_callSX X hx (hh := hh) (bytes := bytes) (maxL := maxL) (ret := ret) ho hl hstt hini hcode hy hK hg (hsize.trans hml.symm) (argsL := As) (rest := rest) (fun sig h => hn.trans (hlen sig h)) hstack hW (by rw [hb]; exact hdg)
    (fun vm₁ hW₁ => ⟨hf.1, hf.2, hp.2 (T.setVm vm₁) hT hW₁⟩) with ⟨v, vm₁, ⟨U', l2, c2, s2⟩, hW₁, X', ⟨g', mk, t, L, e1, e2, hq, h1, hL, h2, h3⟩, st⟩ | ⟨q, vm₁, ⟨U', l2, c2, s2⟩, hW₁, X', ⟨g', mk, t, L, E, ce, e1, e2, hq, hce, hcv, hcl, h1, hL, h2, h3⟩, st⟩
  · dsimp only [Pt.U, Pt.locs, Pt.cells, Pt.slots] at X' e1 e2 h1 h2 h3 st
    subst h1; subst h2; subst h3
    exact Or.inl ⟨v, (T.setVm vm₁).calling g' mk As.toArray, t, U', L, hT, X', hL, e1, e2, hq, st⟩
  · dsimp only [Pt.U, Pt.locs, Pt.cells, Pt.slots] at X' e1 e2 h1 h2 h3 st hcl
    subst h1; subst h2; subst h3
    exact Or.inr ⟨q, (T.setVm vm₁).calling g' mk As.toArray, t, U', L, E, ce, hT, X', hL, e1, e2, hq, hce, hcv, vx_cls hW₁ hcl, st⟩
end
end VXH
theorem vx_ofWH {l : Launch} {y : MethodName} {ws ws' : List Cond} {rm : Room} {Pc : Array Value → State → Prop} {Qc : Array Value → State → Outcome → State → Prop} {XC : String → State → State → Prop} {mc ms : Nat} {free : Addr → Prop} {cc : ByteArray} {maxL : Nat} {ret : Option FieldType} {hh : List (Nat × Nat × Nat × Nat)}
    (hy : plainName y.cls = true) (hw : ws = Cond.codeWith y cc maxL ret hh :: ws')
    (body : ∀ p e s m args below meth c s₁, BodyLoose p l y (headSpec ws rm) cc maxL ret e s m args below meth c s₁ → c.maxLocals = maxL → Pc args s →
      W p l e (headSpec ws rm).room s m args below meth c s.heap [] 0 0 (vx_MQ below Qc XC args s mc ms free) (entryFrame m args maxL)) : vx_Met l y ws rm Pc Qc XC mc ms free := by
  refine MetFree.of_bodyS (code := cc) (maxLocals := maxL) (ret := ret) hy ?_ ?_
  · intro args s m h hn
    obtain ⟨m9, meth, c, hn9, h1, h2, h3, h4, -, h5, h6, -⟩ := Cond.codeWith_spec (atoms_spec (ws := ws) h _ (by rw [hw]; exact List.mem_cons_self))
    cases hn.symm.trans hn9
    exact ⟨meth, c, h1, h2, h3, h4, h5, h6⟩
  · intro p e s m args below meth c s₁ B hml hP _
    have hh0 : s₁.heap = s.heap := by rw [B.state]; rfl
    obtain ⟨t, a1, o, b1, b2, b3⟩ := body p e s m args below meth c s₁ B hml hP s₁ hh0 (Stand.of_body B)
    exact ⟨t, o, a1, b1, b2, b3⟩
/-! ===== END ===== -/
end
section
/-! ===== BEGIN printed: names, fields, word lists, decode rows ===== -/
def RX0 : String := "ParrotJury$Halves"
def TX0 : u_T := fun k => match k with
  | 0 => ("ParrotJury$Halves", "value", "LParrotJury$Row;", true)
  | 1 => ("ParrotJury$Halves", "from", "LParrotJury$Row;", true)
  | _ => ("ParrotJury$Halves", "over", "LParrotJury$Row;", true)
def tyX0 : Nat → FieldType := fun k => match k with
  | 0 => .object "ParrotJury$Row"
  | 1 => .object "ParrotJury$Row"
  | _ => .object "ParrotJury$Row"
abbrev wsX00 : List Cond := u_ws RX0 TX0 3
theorem nmX0 : ∀ a, a < 3 → ∀ b, b < 3 → a ≠ b → (TX0 a).2.1 ≠ (TX0 b).2.1 := by decide +kernel
theorem tyX0_ok : ∀ k, k < 3 → parseFieldDescriptor (TX0 k).2.2.1 = some (tyX0 k) := by decide +kernel
abbrev cX0_init : ByteArray := prog_2_method_1_code
def yX0_init : MethodName := ⟨RX0, "<init>", "()V"⟩
abbrev cX0_value : ByteArray := prog_2_method_2_code
def yX0_value : MethodName := ⟨RX0, "value", "(I)I"⟩
abbrev cX0_from : ByteArray := prog_2_method_3_code
def yX0_from : MethodName := ⟨RX0, "from", "(I)I"⟩
abbrev cX0_over : ByteArray := prog_2_method_4_code
def yX0_over : MethodName := ⟨RX0, "over", "(I)I"⟩
abbrev cX0_takeFromCourt : ByteArray := prog_2_method_5_code
def yX0_takeFromCourt : MethodName := ⟨RX0, "takeFromCourt", "(II)V"⟩
abbrev cX0_takeFrom : ByteArray := prog_2_method_6_code
def yX0_takeFrom : MethodName := ⟨RX0, "takeFrom", "(IILParrotJury$Halves;)V"⟩
abbrev cX0_copyFrom : ByteArray := prog_2_method_7_code
def yX0_copyFrom : MethodName := ⟨RX0, "copyFrom", "(LParrotJury$Halves;)V"⟩
def RX1 : String := "ParrotJury$Row"
def TX1 : u_T := fun k => match k with
  | _ => ("ParrotJury$Row", "cells", "[I", true)
def tyX1 : Nat → FieldType := fun k => match k with
  | _ => .array .int
abbrev wsX10 : List Cond := u_ws RX1 TX1 1
theorem nmX1 : ∀ a, a < 1 → ∀ b, b < 1 → a ≠ b → (TX1 a).2.1 ≠ (TX1 b).2.1 := by decide +kernel
theorem tyX1_ok : ∀ k, k < 1 → parseFieldDescriptor (TX1 k).2.2.1 = some (tyX1 k) := by decide +kernel
abbrev cX1_init : ByteArray := prog_3_method_1_code
def yX1_init : MethodName := ⟨RX1, "<init>", "(I)V"⟩
abbrev cX1_at : ByteArray := prog_3_method_2_code
def yX1_at : MethodName := ⟨RX1, "at", "(I)I"⟩
abbrev cX1_put : ByteArray := prog_3_method_3_code
def yX1_put : MethodName := ⟨RX1, "put", "(II)V"⟩
abbrev cX1_copyFrom : ByteArray := prog_3_method_4_code
def yX1_copyFrom : MethodName := ⟨RX1, "copyFrom", "(LParrotJury$Row;)V"⟩
def RX2 : String := "ParrotJury$Seats"
def TX2 : u_T := fun k => match k with
  | 0 => ("ParrotJury$Seats", "size", "I", false)
  | 1 => ("ParrotJury$Seats", "memory", "LParrotJury$Row;", true)
  | 2 => ("ParrotJury$Seats", "loud", "LParrotJury$Row;", true)
  | 3 => ("ParrotJury$Seats", "listening", "LParrotJury$Row;", true)
  | _ => ("ParrotJury$Seats", "others", "LParrotJury$Row;", true)
def tyX2 : Nat → FieldType := fun k => match k with
  | 0 => .int
  | 1 => .object "ParrotJury$Row"
  | 2 => .object "ParrotJury$Row"
  | 3 => .object "ParrotJury$Row"
  | _ => .object "ParrotJury$Row"
abbrev wsX20 : List Cond := u_ws RX2 TX2 5
theorem nmX2 : ∀ a, a < 5 → ∀ b, b < 5 → a ≠ b → (TX2 a).2.1 ≠ (TX2 b).2.1 := by decide +kernel
theorem tyX2_ok : ∀ k, k < 5 → parseFieldDescriptor (TX2 k).2.2.1 = some (tyX2 k) := by decide +kernel
abbrev cX2_init : ByteArray := prog_4_method_1_code
def yX2_init : MethodName := ⟨RX2, "<init>", "()V"⟩
abbrev cX2_size : ByteArray := prog_4_method_2_code
def yX2_size : MethodName := ⟨RX2, "size", "()I"⟩
abbrev cX2_memory : ByteArray := prog_4_method_3_code
def yX2_memory : MethodName := ⟨RX2, "memory", "(I)I"⟩
abbrev cX2_loud : ByteArray := prog_4_method_4_code
def yX2_loud : MethodName := ⟨RX2, "loud", "(I)I"⟩
abbrev cX2_setLoud : ByteArray := prog_4_method_5_code
def yX2_setLoud : MethodName := ⟨RX2, "setLoud", "(II)V"⟩
abbrev cX2_listening : ByteArray := prog_4_method_6_code
def yX2_listening : MethodName := ⟨RX2, "listening", "(I)I"⟩
abbrev cX2_other : ByteArray := prog_4_method_7_code
def yX2_other : MethodName := ⟨RX2, "other", "(II)I"⟩
abbrev cX2_seat : ByteArray := prog_4_method_8_code
def yX2_seat : MethodName := ⟨RX2, "seat", "(II)I"⟩
abbrev cX2_placeOf : ByteArray := prog_4_method_9_code
def yX2_placeOf : MethodName := ⟨RX2, "placeOf", "(II)I"⟩
abbrev cX2_addOther : ByteArray := prog_4_method_10_code
def yX2_addOther : MethodName := ⟨RX2, "addOther", "(II)V"⟩
abbrev cX2_dropOther : ByteArray := prog_4_method_11_code
def yX2_dropOther : MethodName := ⟨RX2, "dropOther", "(II)V"⟩
abbrev cX2_listeners : ByteArray := prog_4_method_12_code
def yX2_listeners : MethodName := ⟨RX2, "listeners", "(I)I"⟩
abbrev cX2_heard : ByteArray := prog_4_method_13_code
def yX2_heard : MethodName := ⟨RX2, "heard", "(I)I"⟩
abbrev cX2_othersAsSet : ByteArray := prog_4_method_14_code
def yX2_othersAsSet : MethodName := ⟨RX2, "othersAsSet", "(I)I"⟩
abbrev cX2_othersOfAll : ByteArray := prog_4_method_15_code
def yX2_othersOfAll : MethodName := ⟨RX2, "othersOfAll", "(I)I"⟩
def RX3 : String := "ParrotJury$Talk"
def TX3 : u_T := fun k => match k with
  | 0 => ("ParrotJury$Talk", "round", "I", false)
  | 1 => ("ParrotJury$Talk", "taken", "I", false)
  | 2 => ("ParrotJury$Talk", "sure", "LParrotJury$Row;", true)
  | 3 => ("ParrotJury$Talk", "firsts", "LParrotJury$Halves;", true)
  | _ => ("ParrotJury$Talk", "lasts", "LParrotJury$Halves;", true)
def tyX3 : Nat → FieldType := fun k => match k with
  | 0 => .int
  | 1 => .int
  | 2 => .object "ParrotJury$Row"
  | 3 => .object "ParrotJury$Halves"
  | _ => .object "ParrotJury$Halves"
abbrev wsX30 : List Cond := u_ws RX3 TX3 5
theorem nmX3 : ∀ a, a < 5 → ∀ b, b < 5 → a ≠ b → (TX3 a).2.1 ≠ (TX3 b).2.1 := by decide +kernel
theorem tyX3_ok : ∀ k, k < 5 → parseFieldDescriptor (TX3 k).2.2.1 = some (tyX3 k) := by decide +kernel
abbrev cX3_init : ByteArray := prog_5_method_1_code
def yX3_init : MethodName := ⟨RX3, "<init>", "()V"⟩
abbrev cX3_round : ByteArray := prog_5_method_2_code
def yX3_round : MethodName := ⟨RX3, "round", "()I"⟩
abbrev cX3_taken : ByteArray := prog_5_method_3_code
def yX3_taken : MethodName := ⟨RX3, "taken", "()I"⟩
abbrev cX3_sure : ByteArray := prog_5_method_4_code
def yX3_sure : MethodName := ⟨RX3, "sure", "(I)I"⟩
abbrev cX3_halves : ByteArray := prog_5_method_5_code
def yX3_halves : MethodName := ⟨RX3, "halves", "(Z)LParrotJury$Halves;"⟩
abbrev cX3_word : ByteArray := prog_5_method_6_code
def yX3_word : MethodName := ⟨RX3, "word", "(I)I"⟩
abbrev cX3_takeFromCourt : ByteArray := prog_5_method_7_code
def yX3_takeFromCourt : MethodName := ⟨RX3, "takeFromCourt", "(III)V"⟩
abbrev cX3_copyFrom : ByteArray := prog_5_method_8_code
def yX3_copyFrom : MethodName := ⟨RX3, "copyFrom", "(LParrotJury$Talk;)V"⟩
abbrev cX3_goRounds : ByteArray := prog_5_method_9_code
def yX3_goRounds : MethodName := ⟨RX3, "goRounds", "(LParrotJury$Seats;LParrotJury$Talk;I)V"⟩
abbrev cX3_hearAll : ByteArray := prog_5_method_10_code
def yX3_hearAll : MethodName := ⟨RX3, "hearAll", "(LParrotJury$Seats;LParrotJury$Talk;)V"⟩
abbrev cX3_hear : ByteArray := prog_5_method_11_code
def yX3_hear : MethodName := ⟨RX3, "hear", "(IILParrotJury$Talk;)V"⟩
abbrev cX3_forgetAll : ByteArray := prog_5_method_12_code
def yX3_forgetAll : MethodName := ⟨RX3, "forgetAll", "(LParrotJury$Seats;)V"⟩
def RX4 : String := "ParrotJury"
def TX4 : u_T := fun k => match k with
  | 0 => ("ParrotJury", "seats", "LParrotJury$Seats;", true)
  | 1 => ("ParrotJury", "now", "LParrotJury$Talk;", true)
  | 2 => ("ParrotJury", "would", "LParrotJury$Talk;", true)
  | _ => ("ParrotJury", "before", "LParrotJury$Talk;", true)
def tyX4 : Nat → FieldType := fun k => match k with
  | 0 => .object "ParrotJury$Seats"
  | 1 => .object "ParrotJury$Talk"
  | 2 => .object "ParrotJury$Talk"
  | _ => .object "ParrotJury$Talk"
abbrev wsX40 : List Cond := u_ws RX4 TX4 4
theorem nmX4 : ∀ a, a < 4 → ∀ b, b < 4 → a ≠ b → (TX4 a).2.1 ≠ (TX4 b).2.1 := by decide +kernel
theorem tyX4_ok : ∀ k, k < 4 → parseFieldDescriptor (TX4 k).2.2.1 = some (tyX4 k) := by decide +kernel
abbrev cX4_init : ByteArray := prog_1_method_1_code
def yX4_init : MethodName := ⟨RX4, "<init>", "()V"⟩
abbrev cX4_come : ByteArray := prog_1_method_2_code
def yX4_come : MethodName := ⟨RX4, "come", "(II)I"⟩
abbrev cX4_listen : ByteArray := prog_1_method_3_code
def yX4_listen : MethodName := ⟨RX4, "listen", "(II)I"⟩
abbrev cX4_raise : ByteArray := prog_1_method_4_code
def yX4_raise : MethodName := ⟨RX4, "raise", "(II)I"⟩
abbrev cX4_whisper : ByteArray := prog_1_method_5_code
def yX4_whisper : MethodName := ⟨RX4, "whisper", "(III)I"⟩
abbrev cX4_parrot : ByteArray := prog_1_method_6_code
def yX4_parrot : MethodName := ⟨RX4, "parrot", "(II)I"⟩
abbrev cX4_half : ByteArray := prog_1_method_7_code
def yX4_half : MethodName := ⟨RX4, "half", "(IZI)I"⟩
abbrev cX4_hears : ByteArray := prog_1_method_8_code
def yX4_hears : MethodName := ⟨RX4, "hears", "(II)I"⟩
abbrev cX4_votes : ByteArray := prog_1_method_9_code
def yX4_votes : MethodName := ⟨RX4, "votes", "(I)I"⟩
abbrev cX4_verdict : ByteArray := prog_1_method_10_code
def yX4_verdict : MethodName := ⟨RX4, "verdict", "()I"⟩
abbrev cX4_left : ByteArray := prog_1_method_11_code
def yX4_left : MethodName := ⟨RX4, "left", "(I)I"⟩
abbrev cX4_count : ByteArray := prog_1_method_12_code
def yX4_count : MethodName := ⟨RX4, "count", "(I)I"⟩
abbrev cX4_pass : ByteArray := prog_1_method_13_code
def yX4_pass : MethodName := ⟨RX4, "pass", "(I)I"⟩
abbrev cX4_agrees : ByteArray := prog_1_method_14_code
def yX4_agrees : MethodName := ⟨RX4, "agrees", "()I"⟩
abbrev cX4_foresee : ByteArray := prog_1_method_15_code
def yX4_foresee : MethodName := ⟨RX4, "foresee", "(II)I"⟩
abbrev cX4_advise : ByteArray := prog_1_method_16_code
def yX4_advise : MethodName := ⟨RX4, "advise", "(II)I"⟩
abbrev cX4_source : ByteArray := prog_1_method_17_code
def yX4_source : MethodName := ⟨RX4, "source", "(I)I"⟩
abbrev cX4_mean : ByteArray := prog_1_method_18_code
def yX4_mean : MethodName := ⟨RX4, "mean", "()D"⟩
abbrev cX4_digest : ByteArray := prog_1_method_19_code
def yX4_digest : MethodName := ⟨RX4, "digest", "()J"⟩
abbrev cX4_isOutside : ByteArray := prog_1_method_20_code
def yX4_isOutside : MethodName := ⟨RX4, "isOutside", "(III)Z"⟩
abbrev cX4_needParrot : ByteArray := prog_1_method_21_code
def yX4_needParrot : MethodName := ⟨RX4, "needParrot", "(I)V"⟩
abbrev cX4_needWhat : ByteArray := prog_1_method_22_code
def yX4_needWhat : MethodName := ⟨RX4, "needWhat", "(II)V"⟩
abbrev cX4_needLoud : ByteArray := prog_1_method_23_code
def yX4_needLoud : MethodName := ⟨RX4, "needLoud", "(I)V"⟩
abbrev cX4_needWord : ByteArray := prog_1_method_24_code
def yX4_needWord : MethodName := ⟨RX4, "needWord", "(I)V"⟩
abbrev cX4_needRounds : ByteArray := prog_1_method_25_code
def yX4_needRounds : MethodName := ⟨RX4, "needRounds", "(II)V"⟩
abbrev cX4_tellOfParrot : ByteArray := prog_1_method_26_code
def yX4_tellOfParrot : MethodName := ⟨RX4, "tellOfParrot", "(II)I"⟩
abbrev cX4_tellOfHalf : ByteArray := prog_1_method_27_code
def yX4_tellOfHalf : MethodName := ⟨RX4, "tellOfHalf", "(IZI)I"⟩
abbrev cX4_tellOfJury : ByteArray := prog_1_method_28_code
def yX4_tellOfJury : MethodName := ⟨RX4, "tellOfJury", "(I)I"⟩
abbrev cX4_differentWords : ByteArray := prog_1_method_29_code
def yX4_differentWords : MethodName := ⟨RX4, "differentWords", "()I"⟩
abbrev cX4_isFirstWithItsWord : ByteArray := prog_1_method_30_code
def yX4_isFirstWithItsWord : MethodName := ⟨RX4, "isFirstWithItsWord", "(I)Z"⟩
abbrev cX4_halvesFromCourt : ByteArray := prog_1_method_31_code
def yX4_halvesFromCourt : MethodName := ⟨RX4, "halvesFromCourt", "()I"⟩
abbrev cX4_sureOfAll : ByteArray := prog_1_method_32_code
def yX4_sureOfAll : MethodName := ⟨RX4, "sureOfAll", "()I"⟩
abbrev cX4_votesIn : ByteArray := prog_1_method_33_code
def yX4_votesIn : MethodName := ⟨RX4, "votesIn", "(LParrotJury$Talk;I)I"⟩
abbrev cX4_sayTheSame : ByteArray := prog_1_method_34_code
def yX4_sayTheSame : MethodName := ⟨RX4, "sayTheSame", "(LParrotJury$Talk;)Z"⟩
abbrev cX4_mix : ByteArray := prog_1_method_35_code
def yX4_mix : MethodName := ⟨RX4, "mix", "(JI)J"⟩
abbrev cX4_mixParrot : ByteArray := prog_1_method_36_code
def yX4_mixParrot : MethodName := ⟨RX4, "mixParrot", "(JI)J"⟩
abbrev cX4_votesIfWhispered : ByteArray := prog_1_method_37_code
def yX4_votesIfWhispered : MethodName := ⟨RX4, "votesIfWhispered", "(III)I"⟩
def RX5 : String := "ParrotJuryModel"
def TX5 : u_T := fun k => match k with
  | 0 => ("ParrotJuryModel", "thrown", "I", false)
  | 1 => ("ParrotJuryModel", "parrots", "I", false)
  | 2 => ("ParrotJuryModel", "jury", "[I", true)
  | 3 => ("ParrotJuryModel", "before", "[I", true)
  | 4 => ("ParrotJuryModel", "ears", "[I", true)
  | _ => ("ParrotJuryModel", "numbers", "[I", true)
def tyX5 : Nat → FieldType := fun k => match k with
  | 0 => .int
  | 1 => .int
  | 2 => .array .int
  | 3 => .array .int
  | 4 => .array .int
  | _ => .array .int
abbrev wsX50 : List Cond := u_ws RX5 TX5 6
theorem nmX5 : ∀ a, a < 6 → ∀ b, b < 6 → a ≠ b → (TX5 a).2.1 ≠ (TX5 b).2.1 := by decide +kernel
theorem tyX5_ok : ∀ k, k < 6 → parseFieldDescriptor (TX5 k).2.2.1 = some (tyX5 k) := by decide +kernel
abbrev cX5_init : ByteArray := prog_7_method_1_code
def yX5_init : MethodName := ⟨RX5, "<init>", "()V"⟩
abbrev cX5_thrown : ByteArray := prog_7_method_2_code
def yX5_thrown : MethodName := ⟨RX5, "thrown", "()I"⟩
abbrev cX5_fail : ByteArray := prog_7_method_3_code
def yX5_fail : MethodName := ⟨RX5, "fail", "(I)I"⟩
abbrev cX5_isIn : ByteArray := prog_7_method_4_code
def yX5_isIn : MethodName := ⟨RX5, "isIn", "(III)Z"⟩
abbrev cX5_isParrot : ByteArray := prog_7_method_5_code
def yX5_isParrot : MethodName := ⟨RX5, "isParrot", "(I)Z"⟩
abbrev cX5_isWord : ByteArray := prog_7_method_6_code
def yX5_isWord : MethodName := ⟨RX5, "isWord", "(I)Z"⟩
abbrev cX5_ju : ByteArray := prog_7_method_7_code
def yX5_ju : MethodName := ⟨RX5, "ju", "(II)I"⟩
abbrev cX5_put : ByteArray := prog_7_method_8_code
def yX5_put : MethodName := ⟨RX5, "put", "(III)V"⟩
abbrev cX5_word : ByteArray := prog_7_method_9_code
def yX5_word : MethodName := ⟨RX5, "word", "(I)I"⟩
abbrev cX5_come : ByteArray := prog_7_method_10_code
def yX5_come : MethodName := ⟨RX5, "come", "(II)I"⟩
abbrev cX5_place : ByteArray := prog_7_method_11_code
def yX5_place : MethodName := ⟨RX5, "place", "(II)I"⟩
abbrev cX5_listen : ByteArray := prog_7_method_12_code
def yX5_listen : MethodName := ⟨RX5, "listen", "(II)I"⟩
abbrev cX5_raise : ByteArray := prog_7_method_13_code
def yX5_raise : MethodName := ⟨RX5, "raise", "(II)I"⟩
abbrev cX5_say : ByteArray := prog_7_method_14_code
def yX5_say : MethodName := ⟨RX5, "say", "(III)V"⟩
abbrev cX5_whisper : ByteArray := prog_7_method_15_code
def yX5_whisper : MethodName := ⟨RX5, "whisper", "(III)I"⟩
abbrev cX5_heard : ByteArray := prog_7_method_16_code
def yX5_heard : MethodName := ⟨RX5, "heard", "(I)I"⟩
abbrev cX5_parrotTold : ByteArray := prog_7_method_17_code
def yX5_parrotTold : MethodName := ⟨RX5, "parrotTold", "(II)I"⟩
abbrev cX5_parrot : ByteArray := prog_7_method_18_code
def yX5_parrot : MethodName := ⟨RX5, "parrot", "(II)I"⟩
abbrev cX5_halfTold : ByteArray := prog_7_method_19_code
def yX5_halfTold : MethodName := ⟨RX5, "halfTold", "(III)I"⟩
abbrev cX5_half : ByteArray := prog_7_method_20_code
def yX5_half : MethodName := ⟨RX5, "half", "(IZI)I"⟩
abbrev cX5_hears : ByteArray := prog_7_method_21_code
def yX5_hears : MethodName := ⟨RX5, "hears", "(II)I"⟩
abbrev cX5_votesFor : ByteArray := prog_7_method_22_code
def yX5_votesFor : MethodName := ⟨RX5, "votesFor", "(I)I"⟩
abbrev cX5_votes : ByteArray := prog_7_method_23_code
def yX5_votes : MethodName := ⟨RX5, "votes", "(I)I"⟩
abbrev cX5_verdict : ByteArray := prog_7_method_24_code
def yX5_verdict : MethodName := ⟨RX5, "verdict", "()I"⟩
abbrev cX5_left : ByteArray := prog_7_method_25_code
def yX5_left : MethodName := ⟨RX5, "left", "(I)I"⟩
abbrev cX5_counted : ByteArray := prog_7_method_26_code
def yX5_counted : MethodName := ⟨RX5, "counted", "(I)I"⟩
abbrev cX5_count : ByteArray := prog_7_method_27_code
def yX5_count : MethodName := ⟨RX5, "count", "(I)I"⟩
abbrev cX5_be : ByteArray := prog_7_method_28_code
def yX5_be : MethodName := ⟨RX5, "be", "(II)I"⟩
abbrev cX5_takes : ByteArray := prog_7_method_29_code
def yX5_takes : MethodName := ⟨RX5, "takes", "(I)Z"⟩
abbrev cX5_roundOn : ByteArray := prog_7_method_30_code
def yX5_roundOn : MethodName := ⟨RX5, "roundOn", "()V"⟩
abbrev cX5_roundsOn : ByteArray := prog_7_method_31_code
def yX5_roundsOn : MethodName := ⟨RX5, "roundsOn", "(I)V"⟩
abbrev cX5_pass : ByteArray := prog_7_method_32_code
def yX5_pass : MethodName := ⟨RX5, "pass", "(I)I"⟩
abbrev cX5_kept : ByteArray := prog_7_method_33_code
def yX5_kept : MethodName := ⟨RX5, "kept", "()[[I"⟩
abbrev cX5_bringBack : ByteArray := prog_7_method_34_code
def yX5_bringBack : MethodName := ⟨RX5, "bringBack", "([[I)V"⟩
abbrev cX5_agrees : ByteArray := prog_7_method_35_code
def yX5_agrees : MethodName := ⟨RX5, "agrees", "()I"⟩
abbrev cX5_foresee : ByteArray := prog_7_method_36_code
def yX5_foresee : MethodName := ⟨RX5, "foresee", "(II)I"⟩
abbrev cX5_advise : ByteArray := prog_7_method_37_code
def yX5_advise : MethodName := ⟨RX5, "advise", "(II)I"⟩
abbrev cX5_source : ByteArray := prog_7_method_38_code
def yX5_source : MethodName := ⟨RX5, "source", "(I)I"⟩
abbrev cX5_mean : ByteArray := prog_7_method_39_code
def yX5_mean : MethodName := ⟨RX5, "mean", "()D"⟩
abbrev cX5_digest : ByteArray := prog_7_method_40_code
def yX5_digest : MethodName := ⟨RX5, "digest", "()J"⟩
def RJx8e188 : String := "java/lang/Cloneable"
def TJx8e188 : u_T := fun k => match k with
  | _ => ("", "", "", false)
def tyJx8e188 : Nat → FieldType := fun k => match k with
  | _ => .int
abbrev wsJx8e1880 : List Cond := u_ws RJx8e188 TJx8e188 0
theorem nmJx8e188 : ∀ a, a < 0 → ∀ b, b < 0 → a ≠ b → (TJx8e188 a).2.1 ≠ (TJx8e188 b).2.1 := by decide +kernel
theorem tyJx8e188_ok : ∀ k, k < 0 → parseFieldDescriptor (TJx8e188 k).2.2.1 = some (tyJx8e188 k) := by decide +kernel
def RJ9 : String := "java/lang/Math"
def TJ9 : u_T := fun k => match k with
  | _ => ("", "", "", false)
def tyJ9 : Nat → FieldType := fun k => match k with
  | _ => .int
abbrev wsJ90 : List Cond := u_ws RJ9 TJ9 0
theorem nmJ9 : ∀ a, a < 0 → ∀ b, b < 0 → a ≠ b → (TJ9 a).2.1 ≠ (TJ9 b).2.1 := by decide +kernel
theorem tyJ9_ok : ∀ k, k < 0 → parseFieldDescriptor (TJ9 k).2.2.1 = some (tyJ9 k) := by decide +kernel
abbrev cJ9_max_7cf53 : ByteArray := prog_13_method_65_code
def yJ9_max_7cf53 : MethodName := ⟨RJ9, "max", "(II)I"⟩
abbrev cJ9_min_7cf53 : ByteArray := prog_13_method_69_code
def yJ9_min_7cf53 : MethodName := ⟨RJ9, "min", "(II)I"⟩
def RJ0 : String := "java/lang/String"
def TJ0 : u_T := fun k => match k with
  | _ => ("", "", "", false)
def tyJ0 : Nat → FieldType := fun k => match k with
  | _ => .int
abbrev wsJ00 : List Cond := u_ws RJ0 TJ0 0
theorem nmJ0 : ∀ a, a < 0 → ∀ b, b < 0 → a ≠ b → (TJ0 a).2.1 ≠ (TJ0 b).2.1 := by decide +kernel
theorem tyJ0_ok : ∀ k, k < 0 → parseFieldDescriptor (TJ0 k).2.2.1 = some (tyJ0 k) := by decide +kernel
def RJ10 : String := "java/lang/System"
def TJ10 : u_T := fun k => match k with
  | _ => ("", "", "", false)
def tyJ10 : Nat → FieldType := fun k => match k with
  | _ => .int
abbrev wsJ100 : List Cond := u_ws RJ10 TJ10 0
theorem nmJ10 : ∀ a, a < 0 → ∀ b, b < 0 → a ≠ b → (TJ10 a).2.1 ≠ (TJ10 b).2.1 := by decide +kernel
theorem tyJ10_ok : ∀ k, k < 0 → parseFieldDescriptor (TJ10 k).2.2.1 = some (tyJ10 k) := by decide +kernel
def RL : String := "ParrotJuryLaw"
abbrev cL_come : ByteArray := method_3_code
def yL_come : MethodName := ⟨RL, "come", "(LParrotJury;II[J)I"⟩
abbrev cL_listen : ByteArray := method_4_code
def yL_listen : MethodName := ⟨RL, "listen", "(LParrotJury;II[J)I"⟩
abbrev cL_raise : ByteArray := method_5_code
def yL_raise : MethodName := ⟨RL, "raise", "(LParrotJury;II[J)I"⟩
abbrev cL_whisper : ByteArray := method_6_code
def yL_whisper : MethodName := ⟨RL, "whisper", "(LParrotJury;III[J)I"⟩
abbrev cL_parrot : ByteArray := method_7_code
def yL_parrot : MethodName := ⟨RL, "parrot", "(LParrotJury;II[J)I"⟩
abbrev cL_half : ByteArray := method_8_code
def yL_half : MethodName := ⟨RL, "half", "(LParrotJury;IZI[J)I"⟩
abbrev cL_hears : ByteArray := method_9_code
def yL_hears : MethodName := ⟨RL, "hears", "(LParrotJury;II[J)I"⟩
abbrev cL_votes : ByteArray := method_10_code
def yL_votes : MethodName := ⟨RL, "votes", "(LParrotJury;I[J)I"⟩
abbrev cL_left : ByteArray := method_11_code
def yL_left : MethodName := ⟨RL, "left", "(LParrotJury;I[J)I"⟩
abbrev cL_count : ByteArray := method_12_code
def yL_count : MethodName := ⟨RL, "count", "(LParrotJury;I[J)I"⟩
abbrev cL_pass : ByteArray := method_13_code
def yL_pass : MethodName := ⟨RL, "pass", "(LParrotJury;I[J)I"⟩
abbrev cL_foresee : ByteArray := method_14_code
def yL_foresee : MethodName := ⟨RL, "foresee", "(LParrotJury;II[J)I"⟩
abbrev cL_advise : ByteArray := method_15_code
def yL_advise : MethodName := ⟨RL, "advise", "(LParrotJury;II[J)I"⟩
abbrev cL_source : ByteArray := method_16_code
def yL_source : MethodName := ⟨RL, "source", "(LParrotJury;I[J)I"⟩
abbrev cL_law : ByteArray := code
def yL_law : MethodName := ⟨RL, "law", "([I)Z"⟩
def wsX1_init : List Cond := .code yX1_init cX1_init 2 none :: ([.methodLink RX1 1 objectInit, .instanceMethod objectInit, .code objectInit ⟨#[0xb1]⟩ 1 none, .methodLink RX1 7 Lib.Math.max.name, .static Lib.Math.max.name, .initialized "java/lang/Math", .code Lib.Math.max.name Lib.Math.max.code 2 (some .int), .arrayClass .int, .fieldLink RX1 13 "ParrotJury$Row" "cells" "[I"] ++ wsX10)
def wsX0_init : List Cond := .code yX0_init cX0_init 1 none :: ([.methodLink RX0 3 objectInit, .instanceMethod objectInit, .code objectInit ⟨#[0xb1]⟩ 1 none, .classLink RX0 9 RX1, .instantiable RX1 1, .initialized RX1, .fieldLink RX0 14 "ParrotJury$Halves" "value" "LParrotJury$Row;", .fieldLink RX0 20 "ParrotJury$Halves" "from" "LParrotJury$Row;", .fieldLink RX0 23 "ParrotJury$Halves" "over" "LParrotJury$Row;", .methodLink RX0 11 yX1_init, .instanceMethod yX1_init, .code yX1_init cX1_init 2 none, .methodLink RX1 1 objectInit, .methodLink RX1 7 Lib.Math.max.name, .static Lib.Math.max.name, .initialized "java/lang/Math", .code Lib.Math.max.name Lib.Math.max.code 2 (some .int), .arrayClass .int, .fieldLink RX1 13 "ParrotJury$Row" "cells" "[I"] ++ wsX10 ++ wsX00)
def wsX1_at : List Cond := .code yX1_at cX1_at 2 (some .int) :: ([.fieldLink RX1 13 "ParrotJury$Row" "cells" "[I"] ++ wsX10)
def wsX0_value : List Cond := .code yX0_value cX0_value 2 (some .int) :: ([.fieldLink RX0 14 "ParrotJury$Halves" "value" "LParrotJury$Row;", .methodLink RX0 26 yX1_at, .instanceMethod yX1_at, .selects RX1 yX1_at yX1_at, .initialized RX1, .code yX1_at cX1_at 2 (some .int), .fieldLink RX1 13 "ParrotJury$Row" "cells" "[I"] ++ wsX00 ++ wsX10)
def wsX0_from : List Cond := .code yX0_from cX0_from 2 (some .int) :: ([.fieldLink RX0 20 "ParrotJury$Halves" "from" "LParrotJury$Row;", .methodLink RX0 26 yX1_at, .instanceMethod yX1_at, .selects RX1 yX1_at yX1_at, .initialized RX1, .code yX1_at cX1_at 2 (some .int), .fieldLink RX1 13 "ParrotJury$Row" "cells" "[I"] ++ wsX00 ++ wsX10)
def wsX0_over : List Cond := .code yX0_over cX0_over 2 (some .int) :: ([.fieldLink RX0 23 "ParrotJury$Halves" "over" "LParrotJury$Row;", .methodLink RX0 26 yX1_at, .instanceMethod yX1_at, .selects RX1 yX1_at yX1_at, .initialized RX1, .code yX1_at cX1_at 2 (some .int), .fieldLink RX1 13 "ParrotJury$Row" "cells" "[I"] ++ wsX00 ++ wsX10)
def wsX1_put : List Cond := .code yX1_put cX1_put 3 none :: ([.fieldLink RX1 13 "ParrotJury$Row" "cells" "[I"] ++ wsX10)
def wsX0_takeFromCourt : List Cond := .code yX0_takeFromCourt cX0_takeFromCourt 3 none :: ([.fieldLink RX0 14 "ParrotJury$Halves" "value" "LParrotJury$Row;", .fieldLink RX0 20 "ParrotJury$Halves" "from" "LParrotJury$Row;", .fieldLink RX0 23 "ParrotJury$Halves" "over" "LParrotJury$Row;", .methodLink RX0 30 yX1_put, .instanceMethod yX1_put, .selects RX1 yX1_put yX1_put, .initialized RX1, .code yX1_put cX1_put 3 none, .fieldLink RX1 13 "ParrotJury$Row" "cells" "[I"] ++ wsX00 ++ wsX10)
def wsX0_takeFrom : List Cond := .code yX0_takeFrom cX0_takeFrom 4 none :: ([.fieldLink RX0 14 "ParrotJury$Halves" "value" "LParrotJury$Row;", .fieldLink RX0 20 "ParrotJury$Halves" "from" "LParrotJury$Row;", .fieldLink RX0 23 "ParrotJury$Halves" "over" "LParrotJury$Row;", .methodLink RX0 34 Lib.Math.min.name, .static Lib.Math.min.name, .initialized "java/lang/Math", .code Lib.Math.min.name Lib.Math.min.code 2 (some .int), .methodLink RX0 26 yX1_at, .instanceMethod yX1_at, .selects RX1 yX1_at yX1_at, .initialized RX1, .code yX1_at cX1_at 2 (some .int), .fieldLink RX1 13 "ParrotJury$Row" "cells" "[I", .methodLink RX0 30 yX1_put, .instanceMethod yX1_put, .selects RX1 yX1_put yX1_put, .code yX1_put cX1_put 3 none] ++ wsX00 ++ wsX10)
def wsX1_copyFrom : List Cond := .code yX1_copyFrom cX1_copyFrom 2 none :: ([.fieldLink RX1 13 "ParrotJury$Row" "cells" "[I", .methodLink RX1 19 Lib.Math.min.name, .static Lib.Math.min.name, .initialized "java/lang/Math", .code Lib.Math.min.name Lib.Math.min.code 2 (some .int), .methodLink RX1 22 arraycopyName, .native arraycopyName, .static arraycopyName, .initialized "java/lang/System"] ++ wsX10)
def wsX0_copyFrom : List Cond := .code yX0_copyFrom cX0_copyFrom 2 none :: ([.fieldLink RX0 14 "ParrotJury$Halves" "value" "LParrotJury$Row;", .fieldLink RX0 20 "ParrotJury$Halves" "from" "LParrotJury$Row;", .fieldLink RX0 23 "ParrotJury$Halves" "over" "LParrotJury$Row;", .methodLink RX0 40 yX1_copyFrom, .instanceMethod yX1_copyFrom, .selects RX1 yX1_copyFrom yX1_copyFrom, .initialized RX1, .code yX1_copyFrom cX1_copyFrom 2 none, .fieldLink RX1 13 "ParrotJury$Row" "cells" "[I", .methodLink RX1 19 Lib.Math.min.name, .static Lib.Math.min.name, .initialized "java/lang/Math", .code Lib.Math.min.name Lib.Math.min.code 2 (some .int), .methodLink RX1 22 arraycopyName, .native arraycopyName, .static arraycopyName, .initialized "java/lang/System"] ++ wsX00 ++ wsX10)
def wsX2_init : List Cond := .code yX2_init cX2_init 1 none :: ([.methodLink RX2 3 objectInit, .instanceMethod objectInit, .code objectInit ⟨#[0xb1]⟩ 1 none, .fieldLink RX2 9 "ParrotJury$Seats" "size" "I", .classLink RX2 15 RX1, .instantiable RX1 1, .initialized RX1, .fieldLink RX2 20 "ParrotJury$Seats" "memory" "LParrotJury$Row;", .fieldLink RX2 24 "ParrotJury$Seats" "loud" "LParrotJury$Row;", .fieldLink RX2 27 "ParrotJury$Seats" "listening" "LParrotJury$Row;", .fieldLink RX2 30 "ParrotJury$Seats" "others" "LParrotJury$Row;", .methodLink RX2 17 yX1_init, .instanceMethod yX1_init, .code yX1_init cX1_init 2 none, .methodLink RX1 1 objectInit, .methodLink RX1 7 Lib.Math.max.name, .static Lib.Math.max.name, .initialized "java/lang/Math", .code Lib.Math.max.name Lib.Math.max.code 2 (some .int), .arrayClass .int, .fieldLink RX1 13 "ParrotJury$Row" "cells" "[I"] ++ wsX20 ++ wsX10)
def wsX2_size : List Cond := .code yX2_size cX2_size 1 (some .int) :: ([.fieldLink RX2 9 "ParrotJury$Seats" "size" "I"] ++ wsX20)
def wsX2_memory : List Cond := .code yX2_memory cX2_memory 2 (some .int) :: ([.fieldLink RX2 20 "ParrotJury$Seats" "memory" "LParrotJury$Row;", .methodLink RX2 33 yX1_at, .instanceMethod yX1_at, .selects RX1 yX1_at yX1_at, .initialized RX1, .code yX1_at cX1_at 2 (some .int), .fieldLink RX1 13 "ParrotJury$Row" "cells" "[I"] ++ wsX20 ++ wsX10)
def wsX2_loud : List Cond := .code yX2_loud cX2_loud 2 (some .int) :: ([.fieldLink RX2 24 "ParrotJury$Seats" "loud" "LParrotJury$Row;", .methodLink RX2 33 yX1_at, .instanceMethod yX1_at, .selects RX1 yX1_at yX1_at, .initialized RX1, .code yX1_at cX1_at 2 (some .int), .fieldLink RX1 13 "ParrotJury$Row" "cells" "[I"] ++ wsX20 ++ wsX10)
def wsX2_setLoud : List Cond := .code yX2_setLoud cX2_setLoud 3 none :: ([.fieldLink RX2 24 "ParrotJury$Seats" "loud" "LParrotJury$Row;", .methodLink RX2 37 yX1_put, .instanceMethod yX1_put, .selects RX1 yX1_put yX1_put, .initialized RX1, .code yX1_put cX1_put 3 none, .fieldLink RX1 13 "ParrotJury$Row" "cells" "[I"] ++ wsX20 ++ wsX10)
def wsX2_listening : List Cond := .code yX2_listening cX2_listening 2 (some .int) :: ([.fieldLink RX2 27 "ParrotJury$Seats" "listening" "LParrotJury$Row;", .methodLink RX2 33 yX1_at, .instanceMethod yX1_at, .selects RX1 yX1_at yX1_at, .initialized RX1, .code yX1_at cX1_at 2 (some .int), .fieldLink RX1 13 "ParrotJury$Row" "cells" "[I"] ++ wsX20 ++ wsX10)
def wsX2_other : List Cond := .code yX2_other cX2_other 3 (some .int) :: ([.fieldLink RX2 30 "ParrotJury$Seats" "others" "LParrotJury$Row;", .methodLink RX2 33 yX1_at, .instanceMethod yX1_at, .selects RX1 yX1_at yX1_at, .initialized RX1, .code yX1_at cX1_at 2 (some .int), .fieldLink RX1 13 "ParrotJury$Row" "cells" "[I"] ++ wsX20 ++ wsX10)
def wsX2_seat : List Cond := .code yX2_seat cX2_seat 4 (some .int) :: ([.fieldLink RX2 9 "ParrotJury$Seats" "size" "I", .fieldLink RX2 20 "ParrotJury$Seats" "memory" "LParrotJury$Row;", .fieldLink RX2 24 "ParrotJury$Seats" "loud" "LParrotJury$Row;", .methodLink RX2 37 yX1_put, .instanceMethod yX1_put, .selects RX1 yX1_put yX1_put, .initialized RX1, .code yX1_put cX1_put 3 none, .fieldLink RX1 13 "ParrotJury$Row" "cells" "[I"] ++ wsX20 ++ wsX10)
def wsX2_placeOf : List Cond := .code yX2_placeOf cX2_placeOf 5 (some .int) :: ([.fieldLink RX2 27 "ParrotJury$Seats" "listening" "LParrotJury$Row;", .methodLink RX2 33 yX1_at, .instanceMethod yX1_at, .selects RX1 yX1_at yX1_at, .initialized RX1, .code yX1_at cX1_at 2 (some .int), .fieldLink RX1 13 "ParrotJury$Row" "cells" "[I", .methodLink RX2 41 yX2_other, .instanceMethod yX2_other, .selects RX2 yX2_other yX2_other, .initialized RX2, .code yX2_other cX2_other 3 (some .int), .fieldLink RX2 30 "ParrotJury$Seats" "others" "LParrotJury$Row;"] ++ wsX20 ++ wsX10)
def wsX2_addOther : List Cond := .code yX2_addOther cX2_addOther 4 none :: ([.fieldLink RX2 27 "ParrotJury$Seats" "listening" "LParrotJury$Row;", .fieldLink RX2 30 "ParrotJury$Seats" "others" "LParrotJury$Row;", .methodLink RX2 33 yX1_at, .instanceMethod yX1_at, .selects RX1 yX1_at yX1_at, .initialized RX1, .code yX1_at cX1_at 2 (some .int), .fieldLink RX1 13 "ParrotJury$Row" "cells" "[I", .methodLink RX2 37 yX1_put, .instanceMethod yX1_put, .selects RX1 yX1_put yX1_put, .code yX1_put cX1_put 3 none] ++ wsX20 ++ wsX10)
def wsX2_dropOther : List Cond := .code yX2_dropOther cX2_dropOther 5 none :: ([.fieldLink RX2 27 "ParrotJury$Seats" "listening" "LParrotJury$Row;", .fieldLink RX2 30 "ParrotJury$Seats" "others" "LParrotJury$Row;", .methodLink RX2 33 yX1_at, .instanceMethod yX1_at, .selects RX1 yX1_at yX1_at, .initialized RX1, .code yX1_at cX1_at 2 (some .int), .fieldLink RX1 13 "ParrotJury$Row" "cells" "[I", .methodLink RX2 41 yX2_other, .instanceMethod yX2_other, .selects RX2 yX2_other yX2_other, .initialized RX2, .code yX2_other cX2_other 3 (some .int), .methodLink RX2 37 yX1_put, .instanceMethod yX1_put, .selects RX1 yX1_put yX1_put, .code yX1_put cX1_put 3 none] ++ wsX20 ++ wsX10)
def wsX2_listeners : List Cond := .code yX2_listeners cX2_listeners 4 (some .int) :: ([.fieldLink RX2 9 "ParrotJury$Seats" "size" "I", .methodLink RX2 45 yX2_placeOf, .instanceMethod yX2_placeOf, .selects RX2 yX2_placeOf yX2_placeOf, .initialized RX2, .code yX2_placeOf cX2_placeOf 5 (some .int), .fieldLink RX2 27 "ParrotJury$Seats" "listening" "LParrotJury$Row;", .methodLink RX2 33 yX1_at, .instanceMethod yX1_at, .selects RX1 yX1_at yX1_at, .initialized RX1, .code yX1_at cX1_at 2 (some .int), .fieldLink RX1 13 "ParrotJury$Row" "cells" "[I", .methodLink RX2 41 yX2_other, .instanceMethod yX2_other, .selects RX2 yX2_other yX2_other, .code yX2_other cX2_other 3 (some .int), .fieldLink RX2 30 "ParrotJury$Seats" "others" "LParrotJury$Row;"] ++ wsX20 ++ wsX10)
def wsX2_heard : List Cond := .code yX2_heard cX2_heard 7 (some .int) :: ([.fieldLink RX2 27 "ParrotJury$Seats" "listening" "LParrotJury$Row;", .fieldLink RX2 24 "ParrotJury$Seats" "loud" "LParrotJury$Row;", .methodLink RX2 33 yX1_at, .instanceMethod yX1_at, .selects RX1 yX1_at yX1_at, .initialized RX1, .code yX1_at cX1_at 2 (some .int), .fieldLink RX1 13 "ParrotJury$Row" "cells" "[I", .methodLink RX2 41 yX2_other, .instanceMethod yX2_other, .selects RX2 yX2_other yX2_other, .initialized RX2, .code yX2_other cX2_other 3 (some .int), .fieldLink RX2 30 "ParrotJury$Seats" "others" "LParrotJury$Row;"] ++ wsX20 ++ wsX10)
def wsX2_othersAsSet : List Cond := .code yX2_othersAsSet cX2_othersAsSet 5 (some .int) :: ([.fieldLink RX2 27 "ParrotJury$Seats" "listening" "LParrotJury$Row;", .methodLink RX2 33 yX1_at, .instanceMethod yX1_at, .selects RX1 yX1_at yX1_at, .initialized RX1, .code yX1_at cX1_at 2 (some .int), .fieldLink RX1 13 "ParrotJury$Row" "cells" "[I", .methodLink RX2 41 yX2_other, .instanceMethod yX2_other, .selects RX2 yX2_other yX2_other, .initialized RX2, .code yX2_other cX2_other 3 (some .int), .fieldLink RX2 30 "ParrotJury$Seats" "others" "LParrotJury$Row;"] ++ wsX20 ++ wsX10)
def wsX2_othersOfAll : List Cond := .code yX2_othersOfAll cX2_othersOfAll 4 (some .int) :: ([.fieldLink RX2 9 "ParrotJury$Seats" "size" "I", .methodLink RX2 48 yX2_othersAsSet, .instanceMethod yX2_othersAsSet, .selects RX2 yX2_othersAsSet yX2_othersAsSet, .initialized RX2, .code yX2_othersAsSet cX2_othersAsSet 5 (some .int), .fieldLink RX2 27 "ParrotJury$Seats" "listening" "LParrotJury$Row;", .methodLink RX2 33 yX1_at, .instanceMethod yX1_at, .selects RX1 yX1_at yX1_at, .initialized RX1, .code yX1_at cX1_at 2 (some .int), .fieldLink RX1 13 "ParrotJury$Row" "cells" "[I", .methodLink RX2 41 yX2_other, .instanceMethod yX2_other, .selects RX2 yX2_other yX2_other, .code yX2_other cX2_other 3 (some .int), .fieldLink RX2 30 "ParrotJury$Seats" "others" "LParrotJury$Row;"] ++ wsX20 ++ wsX10)
def wsX3_init_r1 : List Cond := [Cond.methodLink RX3 3 objectInit, Cond.instanceMethod objectInit, Cond.code objectInit ⟨#[0xb1]⟩ 1 none, Cond.fieldLink RX3 9 "ParrotJury$Talk" "round" "I", Cond.fieldLink RX3 15 "ParrotJury$Talk" "taken" "I", Cond.classLink RX3 18 RX1, Cond.instantiable RX1 1, Cond.initialized RX1, Cond.fieldLink RX3 23 "ParrotJury$Talk" "sure" "LParrotJury$Row;", Cond.classLink RX3 27 RX0, Cond.instantiable RX0 3, Cond.initialized RX0, Cond.fieldLink RX3 30 "ParrotJury$Talk" "firsts" "LParrotJury$Halves;", Cond.fieldLink RX3 34 "ParrotJury$Talk" "lasts" "LParrotJury$Halves;", Cond.methodLink RX3 20 yX1_init, Cond.instanceMethod yX1_init, Cond.code yX1_init cX1_init 2 none, Cond.methodLink RX1 1 objectInit, Cond.methodLink RX1 7 Lib.Math.max.name, Cond.static Lib.Math.max.name, Cond.initialized "java/lang/Math", Cond.code Lib.Math.max.name Lib.Math.max.code 2 (some .int), Cond.arrayClass .int, Cond.fieldLink RX1 13 "ParrotJury$Row" "cells" "[I"]
def wsX3_init_r2 : List Cond := [Cond.methodLink RX3 29 yX0_init, Cond.instanceMethod yX0_init, Cond.code yX0_init cX0_init 1 none, Cond.methodLink RX0 3 objectInit, Cond.classLink RX0 9 RX1, Cond.fieldLink RX0 14 "ParrotJury$Halves" "value" "LParrotJury$Row;", Cond.fieldLink RX0 20 "ParrotJury$Halves" "from" "LParrotJury$Row;", Cond.fieldLink RX0 23 "ParrotJury$Halves" "over" "LParrotJury$Row;", Cond.methodLink RX0 11 yX1_init]
def wsX3_init : List Cond := .code yX3_init cX3_init 1 none :: ((wsX3_init_r1 ++ wsX3_init_r2) ++ wsX30 ++ wsX10 ++ wsX00)
def wsX3_round : List Cond := .code yX3_round cX3_round 1 (some .int) :: ([.fieldLink RX3 9 "ParrotJury$Talk" "round" "I"] ++ wsX30)
def wsX3_taken : List Cond := .code yX3_taken cX3_taken 1 (some .int) :: ([.fieldLink RX3 15 "ParrotJury$Talk" "taken" "I"] ++ wsX30)
def wsX3_sure : List Cond := .code yX3_sure cX3_sure 2 (some .int) :: ([.fieldLink RX3 23 "ParrotJury$Talk" "sure" "LParrotJury$Row;", .methodLink RX3 37 yX1_at, .instanceMethod yX1_at, .selects RX1 yX1_at yX1_at, .initialized RX1, .code yX1_at cX1_at 2 (some .int), .fieldLink RX1 13 "ParrotJury$Row" "cells" "[I"] ++ wsX30 ++ wsX10)
def wsX3_halves : List Cond := .code yX3_halves cX3_halves 2 (some (.object "ParrotJury$Halves")) :: ([.fieldLink RX3 34 "ParrotJury$Talk" "lasts" "LParrotJury$Halves;", .fieldLink RX3 30 "ParrotJury$Talk" "firsts" "LParrotJury$Halves;"] ++ wsX30)
def wsX3_word : List Cond := .code yX3_word cX3_word 2 (some .int) :: ([.fieldLink RX3 30 "ParrotJury$Talk" "firsts" "LParrotJury$Halves;", .fieldLink RX3 34 "ParrotJury$Talk" "lasts" "LParrotJury$Halves;", .methodLink RX3 41 yX0_value, .instanceMethod yX0_value, .selects RX0 yX0_value yX0_value, .initialized RX0, .code yX0_value cX0_value 2 (some .int), .fieldLink RX0 14 "ParrotJury$Halves" "value" "LParrotJury$Row;", .methodLink RX0 26 yX1_at, .instanceMethod yX1_at, .selects RX1 yX1_at yX1_at, .initialized RX1, .code yX1_at cX1_at 2 (some .int), .fieldLink RX1 13 "ParrotJury$Row" "cells" "[I"] ++ wsX30 ++ wsX00 ++ wsX10)
def wsX3_takeFromCourt : List Cond := .code yX3_takeFromCourt cX3_takeFromCourt 4 none :: ([.fieldLink RX3 30 "ParrotJury$Talk" "firsts" "LParrotJury$Halves;", .fieldLink RX3 34 "ParrotJury$Talk" "lasts" "LParrotJury$Halves;", .fieldLink RX3 23 "ParrotJury$Talk" "sure" "LParrotJury$Row;", .methodLink RX3 44 yX0_takeFromCourt, .instanceMethod yX0_takeFromCourt, .selects RX0 yX0_takeFromCourt yX0_takeFromCourt, .initialized RX0, .code yX0_takeFromCourt cX0_takeFromCourt 3 none, .fieldLink RX0 14 "ParrotJury$Halves" "value" "LParrotJury$Row;", .fieldLink RX0 20 "ParrotJury$Halves" "from" "LParrotJury$Row;", .fieldLink RX0 23 "ParrotJury$Halves" "over" "LParrotJury$Row;", .methodLink RX0 30 yX1_put, .instanceMethod yX1_put, .selects RX1 yX1_put yX1_put, .initialized RX1, .code yX1_put cX1_put 3 none, .fieldLink RX1 13 "ParrotJury$Row" "cells" "[I", .methodLink RX3 48 yX1_put] ++ wsX30 ++ wsX00 ++ wsX10)
def wsX3_copyFrom_r1 : List Cond := [Cond.fieldLink RX3 9 "ParrotJury$Talk" "round" "I", Cond.fieldLink RX3 15 "ParrotJury$Talk" "taken" "I", Cond.fieldLink RX3 23 "ParrotJury$Talk" "sure" "LParrotJury$Row;", Cond.fieldLink RX3 30 "ParrotJury$Talk" "firsts" "LParrotJury$Halves;", Cond.fieldLink RX3 34 "ParrotJury$Talk" "lasts" "LParrotJury$Halves;", Cond.methodLink RX3 51 yX1_copyFrom, Cond.instanceMethod yX1_copyFrom, Cond.selects RX1 yX1_copyFrom yX1_copyFrom, Cond.initialized RX1, Cond.code yX1_copyFrom cX1_copyFrom 2 none, Cond.fieldLink RX1 13 "ParrotJury$Row" "cells" "[I", Cond.methodLink RX1 19 Lib.Math.min.name, Cond.static Lib.Math.min.name, Cond.initialized "java/lang/Math", Cond.code Lib.Math.min.name Lib.Math.min.code 2 (some .int), Cond.methodLink RX1 22 arraycopyName, Cond.native arraycopyName, Cond.static arraycopyName, Cond.initialized "java/lang/System", Cond.methodLink RX3 55 yX0_copyFrom, Cond.instanceMethod yX0_copyFrom, Cond.selects RX0 yX0_copyFrom yX0_copyFrom, Cond.initialized RX0, Cond.code yX0_copyFrom cX0_copyFrom 2 none]
def wsX3_copyFrom_r2 : List Cond := [Cond.fieldLink RX0 14 "ParrotJury$Halves" "value" "LParrotJury$Row;", Cond.fieldLink RX0 20 "ParrotJury$Halves" "from" "LParrotJury$Row;", Cond.fieldLink RX0 23 "ParrotJury$Halves" "over" "LParrotJury$Row;", Cond.methodLink RX0 40 yX1_copyFrom]
def wsX3_copyFrom : List Cond := .code yX3_copyFrom cX3_copyFrom 2 none :: ((wsX3_copyFrom_r1 ++ wsX3_copyFrom_r2) ++ wsX30 ++ wsX10 ++ wsX00)
def wsX3_hear_r1 : List Cond := [Cond.fieldLink RX3 23 "ParrotJury$Talk" "sure" "LParrotJury$Row;", Cond.methodLink RX3 87 Lib.Math.min.name, Cond.static Lib.Math.min.name, Cond.initialized "java/lang/Math", Cond.code Lib.Math.min.name Lib.Math.min.code 2 (some .int), Cond.fieldLink RX3 15 "ParrotJury$Talk" "taken" "I", Cond.methodLink RX3 82 yX3_sure, Cond.instanceMethod yX3_sure, Cond.selects RX3 yX3_sure yX3_sure, Cond.initialized RX3, Cond.code yX3_sure cX3_sure 2 (some .int), Cond.methodLink RX3 37 yX1_at, Cond.instanceMethod yX1_at, Cond.selects RX1 yX1_at yX1_at, Cond.initialized RX1, Cond.code yX1_at cX1_at 2 (some .int), Cond.fieldLink RX1 13 "ParrotJury$Row" "cells" "[I", Cond.methodLink RX3 84 yX3_word, Cond.instanceMethod yX3_word, Cond.selects RX3 yX3_word yX3_word, Cond.code yX3_word cX3_word 2 (some .int), Cond.fieldLink RX3 30 "ParrotJury$Talk" "firsts" "LParrotJury$Halves;", Cond.fieldLink RX3 34 "ParrotJury$Talk" "lasts" "LParrotJury$Halves;", Cond.methodLink RX3 41 yX0_value]
def wsX3_hear_r2 : List Cond := [Cond.instanceMethod yX0_value, Cond.selects RX0 yX0_value yX0_value, Cond.initialized RX0, Cond.code yX0_value cX0_value 2 (some .int), Cond.fieldLink RX0 14 "ParrotJury$Halves" "value" "LParrotJury$Row;", Cond.methodLink RX0 26 yX1_at, Cond.methodLink RX3 48 yX1_put, Cond.instanceMethod yX1_put, Cond.selects RX1 yX1_put yX1_put, Cond.code yX1_put cX1_put 3 none, Cond.methodLink RX3 93 yX3_halves, Cond.instanceMethod yX3_halves, Cond.selects RX3 yX3_halves yX3_halves, Cond.code yX3_halves cX3_halves 2 (some (.object "ParrotJury$Halves")), Cond.methodLink RX3 97 yX0_takeFrom, Cond.instanceMethod yX0_takeFrom, Cond.selects RX0 yX0_takeFrom yX0_takeFrom, Cond.code yX0_takeFrom cX0_takeFrom 4 none, Cond.fieldLink RX0 20 "ParrotJury$Halves" "from" "LParrotJury$Row;", Cond.fieldLink RX0 23 "ParrotJury$Halves" "over" "LParrotJury$Row;", Cond.methodLink RX0 34 Lib.Math.min.name, Cond.methodLink RX0 30 yX1_put]
def wsX3_hear : List Cond := .code yX3_hear cX3_hear 6 none :: ((wsX3_hear_r1 ++ wsX3_hear_r2) ++ wsX30 ++ wsX10 ++ wsX00)
def wsX3_hearAll_r1 : List Cond := [Cond.methodLink RX3 69 yX2_size, Cond.instanceMethod yX2_size, Cond.selects RX2 yX2_size yX2_size, Cond.initialized RX2, Cond.code yX2_size cX2_size 1 (some .int), Cond.fieldLink RX2 9 "ParrotJury$Seats" "size" "I", Cond.methodLink RX3 75 yX2_heard, Cond.instanceMethod yX2_heard, Cond.selects RX2 yX2_heard yX2_heard, Cond.code yX2_heard cX2_heard 7 (some .int), Cond.fieldLink RX2 27 "ParrotJury$Seats" "listening" "LParrotJury$Row;", Cond.fieldLink RX2 24 "ParrotJury$Seats" "loud" "LParrotJury$Row;", Cond.methodLink RX2 33 yX1_at, Cond.instanceMethod yX1_at, Cond.selects RX1 yX1_at yX1_at, Cond.initialized RX1, Cond.code yX1_at cX1_at 2 (some .int), Cond.fieldLink RX1 13 "ParrotJury$Row" "cells" "[I", Cond.methodLink RX2 41 yX2_other, Cond.instanceMethod yX2_other, Cond.selects RX2 yX2_other yX2_other, Cond.code yX2_other cX2_other 3 (some .int), Cond.fieldLink RX2 30 "ParrotJury$Seats" "others" "LParrotJury$Row;", Cond.methodLink RX3 78 yX3_hear]
def wsX3_hearAll_r2 : List Cond := [Cond.instanceMethod yX3_hear, Cond.selects RX3 yX3_hear yX3_hear, Cond.initialized RX3, Cond.code yX3_hear cX3_hear 6 none, Cond.fieldLink RX3 23 "ParrotJury$Talk" "sure" "LParrotJury$Row;", Cond.methodLink RX3 87 Lib.Math.min.name, Cond.static Lib.Math.min.name, Cond.initialized "java/lang/Math", Cond.code Lib.Math.min.name Lib.Math.min.code 2 (some .int), Cond.fieldLink RX3 15 "ParrotJury$Talk" "taken" "I", Cond.methodLink RX3 82 yX3_sure, Cond.instanceMethod yX3_sure, Cond.selects RX3 yX3_sure yX3_sure, Cond.code yX3_sure cX3_sure 2 (some .int), Cond.methodLink RX3 37 yX1_at, Cond.methodLink RX3 84 yX3_word, Cond.instanceMethod yX3_word, Cond.selects RX3 yX3_word yX3_word, Cond.code yX3_word cX3_word 2 (some .int), Cond.fieldLink RX3 30 "ParrotJury$Talk" "firsts" "LParrotJury$Halves;", Cond.fieldLink RX3 34 "ParrotJury$Talk" "lasts" "LParrotJury$Halves;", Cond.methodLink RX3 41 yX0_value, Cond.instanceMethod yX0_value, Cond.selects RX0 yX0_value yX0_value]
def wsX3_hearAll_r3 : List Cond := [Cond.initialized RX0, Cond.code yX0_value cX0_value 2 (some .int), Cond.fieldLink RX0 14 "ParrotJury$Halves" "value" "LParrotJury$Row;", Cond.methodLink RX0 26 yX1_at, Cond.methodLink RX3 48 yX1_put, Cond.instanceMethod yX1_put, Cond.selects RX1 yX1_put yX1_put, Cond.code yX1_put cX1_put 3 none, Cond.methodLink RX3 93 yX3_halves, Cond.instanceMethod yX3_halves, Cond.selects RX3 yX3_halves yX3_halves, Cond.code yX3_halves cX3_halves 2 (some (.object "ParrotJury$Halves")), Cond.methodLink RX3 97 yX0_takeFrom, Cond.instanceMethod yX0_takeFrom, Cond.selects RX0 yX0_takeFrom yX0_takeFrom, Cond.code yX0_takeFrom cX0_takeFrom 4 none, Cond.fieldLink RX0 20 "ParrotJury$Halves" "from" "LParrotJury$Row;", Cond.fieldLink RX0 23 "ParrotJury$Halves" "over" "LParrotJury$Row;", Cond.methodLink RX0 34 Lib.Math.min.name, Cond.methodLink RX0 30 yX1_put]
def wsX3_hearAll : List Cond := .code yX3_hearAll cX3_hearAll 6 none :: ((wsX3_hearAll_r1 ++ (wsX3_hearAll_r2 ++ wsX3_hearAll_r3)) ++ wsX20 ++ wsX10 ++ wsX30 ++ wsX00)
def wsX3_forgetAll_r1 : List Cond := [Cond.fieldLink RX3 9 "ParrotJury$Talk" "round" "I", Cond.fieldLink RX3 23 "ParrotJury$Talk" "sure" "LParrotJury$Row;", Cond.methodLink RX3 104 Lib.Math.max.name, Cond.static Lib.Math.max.name, Cond.initialized "java/lang/Math", Cond.code Lib.Math.max.name Lib.Math.max.code 2 (some .int), Cond.methodLink RX3 69 yX2_size, Cond.instanceMethod yX2_size, Cond.selects RX2 yX2_size yX2_size, Cond.initialized RX2, Cond.code yX2_size cX2_size 1 (some .int), Cond.fieldLink RX2 9 "ParrotJury$Seats" "size" "I", Cond.methodLink RX3 101 yX2_memory, Cond.instanceMethod yX2_memory, Cond.selects RX2 yX2_memory yX2_memory, Cond.code yX2_memory cX2_memory 2 (some .int), Cond.fieldLink RX2 20 "ParrotJury$Seats" "memory" "LParrotJury$Row;", Cond.methodLink RX2 33 yX1_at, Cond.instanceMethod yX1_at, Cond.selects RX1 yX1_at yX1_at, Cond.initialized RX1, Cond.code yX1_at cX1_at 2 (some .int), Cond.fieldLink RX1 13 "ParrotJury$Row" "cells" "[I", Cond.methodLink RX3 37 yX1_at]
def wsX3_forgetAll_r2 : List Cond := [Cond.methodLink RX3 48 yX1_put, Cond.instanceMethod yX1_put, Cond.selects RX1 yX1_put yX1_put, Cond.code yX1_put cX1_put 3 none]
def wsX3_forgetAll : List Cond := .code yX3_forgetAll cX3_forgetAll 5 none :: ((wsX3_forgetAll_r1 ++ wsX3_forgetAll_r2) ++ wsX30 ++ wsX20 ++ wsX10)
def wsX3_goRounds_r1 : List Cond := [Cond.fieldLink RX3 9 "ParrotJury$Talk" "round" "I", Cond.methodLink RX3 58 yX3_copyFrom, Cond.instanceMethod yX3_copyFrom, Cond.selects RX3 yX3_copyFrom yX3_copyFrom, Cond.initialized RX3, Cond.code yX3_copyFrom cX3_copyFrom 2 none, Cond.fieldLink RX3 15 "ParrotJury$Talk" "taken" "I", Cond.fieldLink RX3 23 "ParrotJury$Talk" "sure" "LParrotJury$Row;", Cond.fieldLink RX3 30 "ParrotJury$Talk" "firsts" "LParrotJury$Halves;", Cond.fieldLink RX3 34 "ParrotJury$Talk" "lasts" "LParrotJury$Halves;", Cond.methodLink RX3 51 yX1_copyFrom, Cond.instanceMethod yX1_copyFrom, Cond.selects RX1 yX1_copyFrom yX1_copyFrom, Cond.initialized RX1, Cond.code yX1_copyFrom cX1_copyFrom 2 none, Cond.fieldLink RX1 13 "ParrotJury$Row" "cells" "[I", Cond.methodLink RX1 19 Lib.Math.min.name, Cond.static Lib.Math.min.name, Cond.initialized "java/lang/Math", Cond.code Lib.Math.min.name Lib.Math.min.code 2 (some .int), Cond.methodLink RX1 22 arraycopyName, Cond.native arraycopyName, Cond.static arraycopyName, Cond.initialized "java/lang/System"]
def wsX3_goRounds_r2 : List Cond := [Cond.methodLink RX3 55 yX0_copyFrom, Cond.instanceMethod yX0_copyFrom, Cond.selects RX0 yX0_copyFrom yX0_copyFrom, Cond.initialized RX0, Cond.code yX0_copyFrom cX0_copyFrom 2 none, Cond.fieldLink RX0 14 "ParrotJury$Halves" "value" "LParrotJury$Row;", Cond.fieldLink RX0 20 "ParrotJury$Halves" "from" "LParrotJury$Row;", Cond.fieldLink RX0 23 "ParrotJury$Halves" "over" "LParrotJury$Row;", Cond.methodLink RX0 40 yX1_copyFrom, Cond.methodLink RX3 61 yX3_hearAll, Cond.instanceMethod yX3_hearAll, Cond.selects RX3 yX3_hearAll yX3_hearAll, Cond.code yX3_hearAll cX3_hearAll 6 none, Cond.methodLink RX3 69 yX2_size, Cond.instanceMethod yX2_size, Cond.selects RX2 yX2_size yX2_size, Cond.initialized RX2, Cond.code yX2_size cX2_size 1 (some .int), Cond.fieldLink RX2 9 "ParrotJury$Seats" "size" "I", Cond.methodLink RX3 75 yX2_heard, Cond.instanceMethod yX2_heard, Cond.selects RX2 yX2_heard yX2_heard, Cond.code yX2_heard cX2_heard 7 (some .int), Cond.fieldLink RX2 27 "ParrotJury$Seats" "listening" "LParrotJury$Row;"]
def wsX3_goRounds_r3 : List Cond := [Cond.fieldLink RX2 24 "ParrotJury$Seats" "loud" "LParrotJury$Row;", Cond.methodLink RX2 33 yX1_at, Cond.instanceMethod yX1_at, Cond.selects RX1 yX1_at yX1_at, Cond.code yX1_at cX1_at 2 (some .int), Cond.methodLink RX2 41 yX2_other, Cond.instanceMethod yX2_other, Cond.selects RX2 yX2_other yX2_other, Cond.code yX2_other cX2_other 3 (some .int), Cond.fieldLink RX2 30 "ParrotJury$Seats" "others" "LParrotJury$Row;", Cond.methodLink RX3 78 yX3_hear, Cond.instanceMethod yX3_hear, Cond.selects RX3 yX3_hear yX3_hear, Cond.code yX3_hear cX3_hear 6 none, Cond.methodLink RX3 87 Lib.Math.min.name, Cond.methodLink RX3 82 yX3_sure, Cond.instanceMethod yX3_sure, Cond.selects RX3 yX3_sure yX3_sure, Cond.code yX3_sure cX3_sure 2 (some .int), Cond.methodLink RX3 37 yX1_at, Cond.methodLink RX3 84 yX3_word, Cond.instanceMethod yX3_word, Cond.selects RX3 yX3_word yX3_word, Cond.code yX3_word cX3_word 2 (some .int)]
def wsX3_goRounds_r4 : List Cond := [Cond.methodLink RX3 41 yX0_value, Cond.instanceMethod yX0_value, Cond.selects RX0 yX0_value yX0_value, Cond.code yX0_value cX0_value 2 (some .int), Cond.methodLink RX0 26 yX1_at, Cond.methodLink RX3 48 yX1_put, Cond.instanceMethod yX1_put, Cond.selects RX1 yX1_put yX1_put, Cond.code yX1_put cX1_put 3 none, Cond.methodLink RX3 93 yX3_halves, Cond.instanceMethod yX3_halves, Cond.selects RX3 yX3_halves yX3_halves, Cond.code yX3_halves cX3_halves 2 (some (.object "ParrotJury$Halves")), Cond.methodLink RX3 97 yX0_takeFrom, Cond.instanceMethod yX0_takeFrom, Cond.selects RX0 yX0_takeFrom yX0_takeFrom, Cond.code yX0_takeFrom cX0_takeFrom 4 none, Cond.methodLink RX0 34 Lib.Math.min.name, Cond.methodLink RX0 30 yX1_put, Cond.methodLink RX3 65 yX3_forgetAll, Cond.instanceMethod yX3_forgetAll, Cond.selects RX3 yX3_forgetAll yX3_forgetAll, Cond.code yX3_forgetAll cX3_forgetAll 5 none, Cond.methodLink RX3 104 Lib.Math.max.name]
def wsX3_goRounds_r5 : List Cond := [Cond.static Lib.Math.max.name, Cond.code Lib.Math.max.name Lib.Math.max.code 2 (some .int), Cond.methodLink RX3 101 yX2_memory, Cond.instanceMethod yX2_memory, Cond.selects RX2 yX2_memory yX2_memory, Cond.code yX2_memory cX2_memory 2 (some .int), Cond.fieldLink RX2 20 "ParrotJury$Seats" "memory" "LParrotJury$Row;"]
def wsX3_goRounds : List Cond := .code yX3_goRounds cX3_goRounds 5 none :: ((wsX3_goRounds_r1 ++ (wsX3_goRounds_r2 ++ (wsX3_goRounds_r3 ++ (wsX3_goRounds_r4 ++ wsX3_goRounds_r5)))) ++ wsX30 ++ wsX10 ++ wsX00 ++ wsX20)
def wsX4_init_r1 : List Cond := [Cond.methodLink RX4 1 objectInit, Cond.instanceMethod objectInit, Cond.code objectInit ⟨#[0xb1]⟩ 1 none, Cond.classLink RX4 7 RX2, Cond.instantiable RX2 5, Cond.initialized RX2, Cond.fieldLink RX4 10 "ParrotJury" "seats" "LParrotJury$Seats;", Cond.classLink RX4 16 RX3, Cond.instantiable RX3 5, Cond.initialized RX3, Cond.fieldLink RX4 19 "ParrotJury" "now" "LParrotJury$Talk;", Cond.fieldLink RX4 23 "ParrotJury" "would" "LParrotJury$Talk;", Cond.fieldLink RX4 26 "ParrotJury" "before" "LParrotJury$Talk;", Cond.methodLink RX4 9 yX2_init, Cond.instanceMethod yX2_init, Cond.code yX2_init cX2_init 1 none, Cond.methodLink RX2 3 objectInit, Cond.fieldLink RX2 9 "ParrotJury$Seats" "size" "I", Cond.classLink RX2 15 RX1, Cond.instantiable RX1 1, Cond.initialized RX1, Cond.fieldLink RX2 20 "ParrotJury$Seats" "memory" "LParrotJury$Row;", Cond.fieldLink RX2 24 "ParrotJury$Seats" "loud" "LParrotJury$Row;", Cond.fieldLink RX2 27 "ParrotJury$Seats" "listening" "LParrotJury$Row;"]
def wsX4_init_r2 : List Cond := [Cond.fieldLink RX2 30 "ParrotJury$Seats" "others" "LParrotJury$Row;", Cond.methodLink RX2 17 yX1_init, Cond.instanceMethod yX1_init, Cond.code yX1_init cX1_init 2 none, Cond.methodLink RX1 1 objectInit, Cond.methodLink RX1 7 Lib.Math.max.name, Cond.static Lib.Math.max.name, Cond.initialized "java/lang/Math", Cond.code Lib.Math.max.name Lib.Math.max.code 2 (some .int), Cond.arrayClass .int, Cond.fieldLink RX1 13 "ParrotJury$Row" "cells" "[I", Cond.methodLink RX4 18 yX3_init, Cond.instanceMethod yX3_init, Cond.code yX3_init cX3_init 1 none, Cond.methodLink RX3 3 objectInit, Cond.fieldLink RX3 9 "ParrotJury$Talk" "round" "I", Cond.fieldLink RX3 15 "ParrotJury$Talk" "taken" "I", Cond.classLink RX3 18 RX1, Cond.fieldLink RX3 23 "ParrotJury$Talk" "sure" "LParrotJury$Row;", Cond.classLink RX3 27 RX0, Cond.instantiable RX0 3, Cond.initialized RX0, Cond.fieldLink RX3 30 "ParrotJury$Talk" "firsts" "LParrotJury$Halves;", Cond.fieldLink RX3 34 "ParrotJury$Talk" "lasts" "LParrotJury$Halves;"]
def wsX4_init_r3 : List Cond := [Cond.methodLink RX3 20 yX1_init, Cond.methodLink RX3 29 yX0_init, Cond.instanceMethod yX0_init, Cond.code yX0_init cX0_init 1 none, Cond.methodLink RX0 3 objectInit, Cond.classLink RX0 9 RX1, Cond.fieldLink RX0 14 "ParrotJury$Halves" "value" "LParrotJury$Row;", Cond.fieldLink RX0 20 "ParrotJury$Halves" "from" "LParrotJury$Row;", Cond.fieldLink RX0 23 "ParrotJury$Halves" "over" "LParrotJury$Row;", Cond.methodLink RX0 11 yX1_init]
def wsX4_init : List Cond := .code yX4_init cX4_init 1 none :: ((wsX4_init_r1 ++ (wsX4_init_r2 ++ wsX4_init_r3)) ++ wsX20 ++ wsX40 ++ wsX30 ++ wsX10 ++ wsX00)
def wsX4_isOutside : List Cond := .code yX4_isOutside cX4_isOutside 3 (some .boolean) :: ([])
def wsX4_needLoud : List Cond := .code yX4_needLoud cX4_needLoud 1 none :: ([.classLink RX4 33 "java/lang/IllegalArgumentException", .initialized "java/lang/IllegalArgumentException", .methodLink RX4 29 yX4_isOutside, .static yX4_isOutside, .initialized RX4, .code yX4_isOutside cX4_isOutside 3 (some .boolean)] ++ (vx_atS RX4 37 "java/lang/IllegalArgumentException" ["java/lang/RuntimeException", "java/lang/Exception"]).filter goodWord)
def wsX4_come_r1 : List Cond := [Cond.classLink RX4 33 "java/lang/IllegalArgumentException", Cond.initialized "java/lang/IllegalArgumentException", Cond.classLink RX4 48 "java/lang/IllegalStateException", Cond.initialized "java/lang/IllegalStateException", Cond.fieldLink RX4 10 "ParrotJury" "seats" "LParrotJury$Seats;", Cond.fieldLink RX4 19 "ParrotJury" "now" "LParrotJury$Talk;", Cond.methodLink RX4 29 yX4_isOutside, Cond.static yX4_isOutside, Cond.initialized RX4, Cond.code yX4_isOutside cX4_isOutside 3 (some .boolean), Cond.methodLink RX4 40 yX4_needLoud, Cond.static yX4_needLoud, Cond.code yX4_needLoud cX4_needLoud 1 none, Cond.methodLink RX4 44 yX2_size, Cond.instanceMethod yX2_size, Cond.selects RX2 yX2_size yX2_size, Cond.initialized RX2, Cond.code yX2_size cX2_size 1 (some .int), Cond.fieldLink RX2 9 "ParrotJury$Seats" "size" "I", Cond.methodLink RX4 53 yX2_seat, Cond.instanceMethod yX2_seat, Cond.selects RX2 yX2_seat yX2_seat, Cond.code yX2_seat cX2_seat 4 (some .int), Cond.fieldLink RX2 20 "ParrotJury$Seats" "memory" "LParrotJury$Row;"]
def wsX4_come_r2 : List Cond := [Cond.fieldLink RX2 24 "ParrotJury$Seats" "loud" "LParrotJury$Row;", Cond.methodLink RX2 37 yX1_put, Cond.instanceMethod yX1_put, Cond.selects RX1 yX1_put yX1_put, Cond.initialized RX1, Cond.code yX1_put cX1_put 3 none, Cond.fieldLink RX1 13 "ParrotJury$Row" "cells" "[I", Cond.methodLink RX4 57 yX3_takeFromCourt, Cond.instanceMethod yX3_takeFromCourt, Cond.selects RX3 yX3_takeFromCourt yX3_takeFromCourt, Cond.initialized RX3, Cond.code yX3_takeFromCourt cX3_takeFromCourt 4 none, Cond.fieldLink RX3 30 "ParrotJury$Talk" "firsts" "LParrotJury$Halves;", Cond.fieldLink RX3 34 "ParrotJury$Talk" "lasts" "LParrotJury$Halves;", Cond.fieldLink RX3 23 "ParrotJury$Talk" "sure" "LParrotJury$Row;", Cond.methodLink RX3 44 yX0_takeFromCourt, Cond.instanceMethod yX0_takeFromCourt, Cond.selects RX0 yX0_takeFromCourt yX0_takeFromCourt, Cond.initialized RX0, Cond.code yX0_takeFromCourt cX0_takeFromCourt 3 none, Cond.fieldLink RX0 14 "ParrotJury$Halves" "value" "LParrotJury$Row;", Cond.fieldLink RX0 20 "ParrotJury$Halves" "from" "LParrotJury$Row;", Cond.fieldLink RX0 23 "ParrotJury$Halves" "over" "LParrotJury$Row;", Cond.methodLink RX0 30 yX1_put]
def wsX4_come_r3 : List Cond := [Cond.methodLink RX3 48 yX1_put]
def wsX4_come : List Cond := .code yX4_come cX4_come 4 (some .int) :: ((wsX4_come_r1 ++ (wsX4_come_r2 ++ wsX4_come_r3)) ++ wsX40 ++ wsX20 ++ wsX10 ++ wsX30 ++ wsX00 ++ (vx_atS RX4 37 "java/lang/IllegalArgumentException" ["java/lang/RuntimeException", "java/lang/Exception"]).filter goodWord ++ (vx_atS RX4 52 "java/lang/IllegalStateException" ["java/lang/RuntimeException", "java/lang/Exception"]).filter goodWord)
def wsX4_needParrot : List Cond := .code yX4_needParrot cX4_needParrot 2 none :: ([.classLink RX4 106 "java/lang/IndexOutOfBoundsException", .initialized "java/lang/IndexOutOfBoundsException", .fieldLink RX4 10 "ParrotJury" "seats" "LParrotJury$Seats;", .methodLink RX4 44 yX2_size, .instanceMethod yX2_size, .selects RX2 yX2_size yX2_size, .initialized RX2, .code yX2_size cX2_size 1 (some .int), .fieldLink RX2 9 "ParrotJury$Seats" "size" "I"] ++ wsX40 ++ wsX20 ++ (vx_atS RX4 110 "java/lang/IndexOutOfBoundsException" ["java/lang/RuntimeException", "java/lang/Exception"]).filter goodWord)
def wsX4_listen_r1 : List Cond := [Cond.classLink RX4 33 "java/lang/IllegalArgumentException", Cond.initialized "java/lang/IllegalArgumentException", Cond.classLink RX4 48 "java/lang/IllegalStateException", Cond.initialized "java/lang/IllegalStateException", Cond.fieldLink RX4 10 "ParrotJury" "seats" "LParrotJury$Seats;", Cond.methodLink RX4 61 yX4_needParrot, Cond.instanceMethod yX4_needParrot, Cond.selects RX4 yX4_needParrot yX4_needParrot, Cond.initialized RX4, Cond.code yX4_needParrot cX4_needParrot 2 none, Cond.classLink RX4 106 "java/lang/IndexOutOfBoundsException", Cond.initialized "java/lang/IndexOutOfBoundsException", Cond.methodLink RX4 44 yX2_size, Cond.instanceMethod yX2_size, Cond.selects RX2 yX2_size yX2_size, Cond.initialized RX2, Cond.code yX2_size cX2_size 1 (some .int), Cond.fieldLink RX2 9 "ParrotJury$Seats" "size" "I", Cond.methodLink RX4 66 yX2_placeOf, Cond.instanceMethod yX2_placeOf, Cond.selects RX2 yX2_placeOf yX2_placeOf, Cond.code yX2_placeOf cX2_placeOf 5 (some .int), Cond.fieldLink RX2 27 "ParrotJury$Seats" "listening" "LParrotJury$Row;", Cond.methodLink RX2 33 yX1_at]
def wsX4_listen_r2 : List Cond := [Cond.instanceMethod yX1_at, Cond.selects RX1 yX1_at yX1_at, Cond.initialized RX1, Cond.code yX1_at cX1_at 2 (some .int), Cond.fieldLink RX1 13 "ParrotJury$Row" "cells" "[I", Cond.methodLink RX2 41 yX2_other, Cond.instanceMethod yX2_other, Cond.selects RX2 yX2_other yX2_other, Cond.code yX2_other cX2_other 3 (some .int), Cond.fieldLink RX2 30 "ParrotJury$Seats" "others" "LParrotJury$Row;", Cond.methodLink RX4 69 yX2_dropOther, Cond.instanceMethod yX2_dropOther, Cond.selects RX2 yX2_dropOther yX2_dropOther, Cond.code yX2_dropOther cX2_dropOther 5 none, Cond.methodLink RX2 37 yX1_put, Cond.instanceMethod yX1_put, Cond.selects RX1 yX1_put yX1_put, Cond.code yX1_put cX1_put 3 none, Cond.methodLink RX4 73 yX2_listening, Cond.instanceMethod yX2_listening, Cond.selects RX2 yX2_listening yX2_listening, Cond.code yX2_listening cX2_listening 2 (some .int), Cond.methodLink RX4 79 yX2_addOther, Cond.instanceMethod yX2_addOther]
def wsX4_listen_r3 : List Cond := [Cond.selects RX2 yX2_addOther yX2_addOther, Cond.code yX2_addOther cX2_addOther 4 none]
def wsX4_listen : List Cond := .code yX4_listen cX4_listen 4 (some .int) :: ((wsX4_listen_r1 ++ (wsX4_listen_r2 ++ wsX4_listen_r3)) ++ wsX40 ++ wsX20 ++ wsX10 ++ (vx_atS RX4 37 "java/lang/IllegalArgumentException" ["java/lang/RuntimeException", "java/lang/Exception"]).filter goodWord ++ (vx_atS RX4 52 "java/lang/IllegalStateException" ["java/lang/RuntimeException", "java/lang/Exception"]).filter goodWord ++ (vx_atS RX4 110 "java/lang/IndexOutOfBoundsException" ["java/lang/RuntimeException", "java/lang/Exception"]).filter goodWord)
def wsX4_raise_r1 : List Cond := [Cond.fieldLink RX4 10 "ParrotJury" "seats" "LParrotJury$Seats;", Cond.methodLink RX4 61 yX4_needParrot, Cond.instanceMethod yX4_needParrot, Cond.selects RX4 yX4_needParrot yX4_needParrot, Cond.initialized RX4, Cond.code yX4_needParrot cX4_needParrot 2 none, Cond.classLink RX4 106 "java/lang/IndexOutOfBoundsException", Cond.initialized "java/lang/IndexOutOfBoundsException", Cond.methodLink RX4 44 yX2_size, Cond.instanceMethod yX2_size, Cond.selects RX2 yX2_size yX2_size, Cond.initialized RX2, Cond.code yX2_size cX2_size 1 (some .int), Cond.fieldLink RX2 9 "ParrotJury$Seats" "size" "I", Cond.methodLink RX4 40 yX4_needLoud, Cond.static yX4_needLoud, Cond.code yX4_needLoud cX4_needLoud 1 none, Cond.classLink RX4 33 "java/lang/IllegalArgumentException", Cond.initialized "java/lang/IllegalArgumentException", Cond.methodLink RX4 29 yX4_isOutside, Cond.static yX4_isOutside, Cond.code yX4_isOutside cX4_isOutside 3 (some .boolean), Cond.methodLink RX4 82 yX2_loud, Cond.instanceMethod yX2_loud]
def wsX4_raise_r2 : List Cond := [Cond.selects RX2 yX2_loud yX2_loud, Cond.code yX2_loud cX2_loud 2 (some .int), Cond.fieldLink RX2 24 "ParrotJury$Seats" "loud" "LParrotJury$Row;", Cond.methodLink RX2 33 yX1_at, Cond.instanceMethod yX1_at, Cond.selects RX1 yX1_at yX1_at, Cond.initialized RX1, Cond.code yX1_at cX1_at 2 (some .int), Cond.fieldLink RX1 13 "ParrotJury$Row" "cells" "[I", Cond.methodLink RX4 85 yX2_setLoud, Cond.instanceMethod yX2_setLoud, Cond.selects RX2 yX2_setLoud yX2_setLoud, Cond.code yX2_setLoud cX2_setLoud 3 none, Cond.methodLink RX2 37 yX1_put, Cond.instanceMethod yX1_put, Cond.selects RX1 yX1_put yX1_put, Cond.code yX1_put cX1_put 3 none]
def wsX4_raise : List Cond := .code yX4_raise cX4_raise 4 (some .int) :: ((wsX4_raise_r1 ++ wsX4_raise_r2) ++ wsX40 ++ wsX20 ++ wsX10 ++ (vx_atS RX4 110 "java/lang/IndexOutOfBoundsException" ["java/lang/RuntimeException", "java/lang/Exception"]).filter goodWord ++ (vx_atS RX4 37 "java/lang/IllegalArgumentException" ["java/lang/RuntimeException", "java/lang/Exception"]).filter goodWord)
def wsX4_needWord : List Cond := .code yX4_needWord cX4_needWord 1 none :: ([.classLink RX4 33 "java/lang/IllegalArgumentException", .initialized "java/lang/IllegalArgumentException", .methodLink RX4 29 yX4_isOutside, .static yX4_isOutside, .initialized RX4, .code yX4_isOutside cX4_isOutside 3 (some .boolean)] ++ (vx_atS RX4 37 "java/lang/IllegalArgumentException" ["java/lang/RuntimeException", "java/lang/Exception"]).filter goodWord)
def wsX4_whisper_r1 : List Cond := [Cond.classLink RX4 33 "java/lang/IllegalArgumentException", Cond.initialized "java/lang/IllegalArgumentException", Cond.fieldLink RX4 19 "ParrotJury" "now" "LParrotJury$Talk;", Cond.methodLink RX4 61 yX4_needParrot, Cond.instanceMethod yX4_needParrot, Cond.selects RX4 yX4_needParrot yX4_needParrot, Cond.initialized RX4, Cond.code yX4_needParrot cX4_needParrot 2 none, Cond.classLink RX4 106 "java/lang/IndexOutOfBoundsException", Cond.initialized "java/lang/IndexOutOfBoundsException", Cond.fieldLink RX4 10 "ParrotJury" "seats" "LParrotJury$Seats;", Cond.methodLink RX4 44 yX2_size, Cond.instanceMethod yX2_size, Cond.selects RX2 yX2_size yX2_size, Cond.initialized RX2, Cond.code yX2_size cX2_size 1 (some .int), Cond.fieldLink RX2 9 "ParrotJury$Seats" "size" "I", Cond.methodLink RX4 88 yX4_needWord, Cond.static yX4_needWord, Cond.code yX4_needWord cX4_needWord 1 none, Cond.methodLink RX4 29 yX4_isOutside, Cond.static yX4_isOutside, Cond.code yX4_isOutside cX4_isOutside 3 (some .boolean), Cond.methodLink RX4 93 yX3_word]
def wsX4_whisper_r2 : List Cond := [Cond.instanceMethod yX3_word, Cond.selects RX3 yX3_word yX3_word, Cond.initialized RX3, Cond.code yX3_word cX3_word 2 (some .int), Cond.fieldLink RX3 30 "ParrotJury$Talk" "firsts" "LParrotJury$Halves;", Cond.fieldLink RX3 34 "ParrotJury$Talk" "lasts" "LParrotJury$Halves;", Cond.methodLink RX3 41 yX0_value, Cond.instanceMethod yX0_value, Cond.selects RX0 yX0_value yX0_value, Cond.initialized RX0, Cond.code yX0_value cX0_value 2 (some .int), Cond.fieldLink RX0 14 "ParrotJury$Halves" "value" "LParrotJury$Row;", Cond.methodLink RX0 26 yX1_at, Cond.instanceMethod yX1_at, Cond.selects RX1 yX1_at yX1_at, Cond.initialized RX1, Cond.code yX1_at cX1_at 2 (some .int), Cond.fieldLink RX1 13 "ParrotJury$Row" "cells" "[I", Cond.methodLink RX4 57 yX3_takeFromCourt, Cond.instanceMethod yX3_takeFromCourt, Cond.selects RX3 yX3_takeFromCourt yX3_takeFromCourt, Cond.code yX3_takeFromCourt cX3_takeFromCourt 4 none, Cond.fieldLink RX3 23 "ParrotJury$Talk" "sure" "LParrotJury$Row;", Cond.methodLink RX3 44 yX0_takeFromCourt]
def wsX4_whisper_r3 : List Cond := [Cond.instanceMethod yX0_takeFromCourt, Cond.selects RX0 yX0_takeFromCourt yX0_takeFromCourt, Cond.code yX0_takeFromCourt cX0_takeFromCourt 3 none, Cond.fieldLink RX0 20 "ParrotJury$Halves" "from" "LParrotJury$Row;", Cond.fieldLink RX0 23 "ParrotJury$Halves" "over" "LParrotJury$Row;", Cond.methodLink RX0 30 yX1_put, Cond.instanceMethod yX1_put, Cond.selects RX1 yX1_put yX1_put, Cond.code yX1_put cX1_put 3 none, Cond.methodLink RX3 48 yX1_put]
def wsX4_whisper : List Cond := .code yX4_whisper cX4_whisper 5 (some .int) :: ((wsX4_whisper_r1 ++ (wsX4_whisper_r2 ++ wsX4_whisper_r3)) ++ wsX40 ++ wsX20 ++ wsX30 ++ wsX00 ++ wsX10 ++ (vx_atS RX4 37 "java/lang/IllegalArgumentException" ["java/lang/RuntimeException", "java/lang/Exception"]).filter goodWord ++ (vx_atS RX4 110 "java/lang/IndexOutOfBoundsException" ["java/lang/RuntimeException", "java/lang/Exception"]).filter goodWord)
def wsX4_needWhat : List Cond := .code yX4_needWhat cX4_needWhat 2 none :: ([.classLink RX4 106 "java/lang/IndexOutOfBoundsException", .initialized "java/lang/IndexOutOfBoundsException", .methodLink RX4 29 yX4_isOutside, .static yX4_isOutside, .initialized RX4, .code yX4_isOutside cX4_isOutside 3 (some .boolean)] ++ (vx_atS RX4 110 "java/lang/IndexOutOfBoundsException" ["java/lang/RuntimeException", "java/lang/Exception"]).filter goodWord)
def wsX4_tellOfParrot_r1 : List Cond := [Cond.fieldLink RX4 19 "ParrotJury" "now" "LParrotJury$Talk;", Cond.fieldLink RX4 10 "ParrotJury" "seats" "LParrotJury$Seats;", Cond.methodLink RX4 93 yX3_word, Cond.instanceMethod yX3_word, Cond.selects RX3 yX3_word yX3_word, Cond.initialized RX3, Cond.code yX3_word cX3_word 2 (some .int), Cond.fieldLink RX3 30 "ParrotJury$Talk" "firsts" "LParrotJury$Halves;", Cond.fieldLink RX3 34 "ParrotJury$Talk" "lasts" "LParrotJury$Halves;", Cond.methodLink RX3 41 yX0_value, Cond.instanceMethod yX0_value, Cond.selects RX0 yX0_value yX0_value, Cond.initialized RX0, Cond.code yX0_value cX0_value 2 (some .int), Cond.fieldLink RX0 14 "ParrotJury$Halves" "value" "LParrotJury$Row;", Cond.methodLink RX0 26 yX1_at, Cond.instanceMethod yX1_at, Cond.selects RX1 yX1_at yX1_at, Cond.initialized RX1, Cond.code yX1_at cX1_at 2 (some .int), Cond.fieldLink RX1 13 "ParrotJury$Row" "cells" "[I", Cond.methodLink RX4 180 yX3_sure, Cond.instanceMethod yX3_sure, Cond.selects RX3 yX3_sure yX3_sure]
def wsX4_tellOfParrot_r2 : List Cond := [Cond.code yX3_sure cX3_sure 2 (some .int), Cond.fieldLink RX3 23 "ParrotJury$Talk" "sure" "LParrotJury$Row;", Cond.methodLink RX3 37 yX1_at, Cond.methodLink RX4 183 yX2_memory, Cond.instanceMethod yX2_memory, Cond.selects RX2 yX2_memory yX2_memory, Cond.initialized RX2, Cond.code yX2_memory cX2_memory 2 (some .int), Cond.fieldLink RX2 20 "ParrotJury$Seats" "memory" "LParrotJury$Row;", Cond.methodLink RX2 33 yX1_at, Cond.methodLink RX4 82 yX2_loud, Cond.instanceMethod yX2_loud, Cond.selects RX2 yX2_loud yX2_loud, Cond.code yX2_loud cX2_loud 2 (some .int), Cond.fieldLink RX2 24 "ParrotJury$Seats" "loud" "LParrotJury$Row;", Cond.methodLink RX4 73 yX2_listening, Cond.instanceMethod yX2_listening, Cond.selects RX2 yX2_listening yX2_listening, Cond.code yX2_listening cX2_listening 2 (some .int), Cond.fieldLink RX2 27 "ParrotJury$Seats" "listening" "LParrotJury$Row;", Cond.methodLink RX4 186 yX2_listeners, Cond.instanceMethod yX2_listeners, Cond.selects RX2 yX2_listeners yX2_listeners, Cond.code yX2_listeners cX2_listeners 4 (some .int)]
def wsX4_tellOfParrot_r3 : List Cond := [Cond.fieldLink RX2 9 "ParrotJury$Seats" "size" "I", Cond.methodLink RX2 45 yX2_placeOf, Cond.instanceMethod yX2_placeOf, Cond.selects RX2 yX2_placeOf yX2_placeOf, Cond.code yX2_placeOf cX2_placeOf 5 (some .int), Cond.methodLink RX2 41 yX2_other, Cond.instanceMethod yX2_other, Cond.selects RX2 yX2_other yX2_other, Cond.code yX2_other cX2_other 3 (some .int), Cond.fieldLink RX2 30 "ParrotJury$Seats" "others" "LParrotJury$Row;", Cond.methodLink RX4 189 yX2_heard, Cond.instanceMethod yX2_heard, Cond.selects RX2 yX2_heard yX2_heard, Cond.code yX2_heard cX2_heard 7 (some .int)]
def wsX4_tellOfParrot : List Cond := .code yX4_tellOfParrot cX4_tellOfParrot 3 (some .int) :: ((wsX4_tellOfParrot_r1 ++ (wsX4_tellOfParrot_r2 ++ wsX4_tellOfParrot_r3)) ++ wsX40 ++ wsX30 ++ wsX00 ++ wsX10 ++ wsX20)
def wsX4_parrot_r1 : List Cond := [Cond.methodLink RX4 61 yX4_needParrot, Cond.instanceMethod yX4_needParrot, Cond.selects RX4 yX4_needParrot yX4_needParrot, Cond.initialized RX4, Cond.code yX4_needParrot cX4_needParrot 2 none, Cond.classLink RX4 106 "java/lang/IndexOutOfBoundsException", Cond.initialized "java/lang/IndexOutOfBoundsException", Cond.fieldLink RX4 10 "ParrotJury" "seats" "LParrotJury$Seats;", Cond.methodLink RX4 44 yX2_size, Cond.instanceMethod yX2_size, Cond.selects RX2 yX2_size yX2_size, Cond.initialized RX2, Cond.code yX2_size cX2_size 1 (some .int), Cond.fieldLink RX2 9 "ParrotJury$Seats" "size" "I", Cond.methodLink RX4 96 yX4_needWhat, Cond.static yX4_needWhat, Cond.code yX4_needWhat cX4_needWhat 2 none, Cond.methodLink RX4 29 yX4_isOutside, Cond.static yX4_isOutside, Cond.code yX4_isOutside cX4_isOutside 3 (some .boolean), Cond.methodLink RX4 99 yX4_tellOfParrot, Cond.instanceMethod yX4_tellOfParrot, Cond.selects RX4 yX4_tellOfParrot yX4_tellOfParrot, Cond.code yX4_tellOfParrot cX4_tellOfParrot 3 (some .int)]
def wsX4_parrot_r2 : List Cond := [Cond.fieldLink RX4 19 "ParrotJury" "now" "LParrotJury$Talk;", Cond.methodLink RX4 93 yX3_word, Cond.instanceMethod yX3_word, Cond.selects RX3 yX3_word yX3_word, Cond.initialized RX3, Cond.code yX3_word cX3_word 2 (some .int), Cond.fieldLink RX3 30 "ParrotJury$Talk" "firsts" "LParrotJury$Halves;", Cond.fieldLink RX3 34 "ParrotJury$Talk" "lasts" "LParrotJury$Halves;", Cond.methodLink RX3 41 yX0_value, Cond.instanceMethod yX0_value, Cond.selects RX0 yX0_value yX0_value, Cond.initialized RX0, Cond.code yX0_value cX0_value 2 (some .int), Cond.fieldLink RX0 14 "ParrotJury$Halves" "value" "LParrotJury$Row;", Cond.methodLink RX0 26 yX1_at, Cond.instanceMethod yX1_at, Cond.selects RX1 yX1_at yX1_at, Cond.initialized RX1, Cond.code yX1_at cX1_at 2 (some .int), Cond.fieldLink RX1 13 "ParrotJury$Row" "cells" "[I", Cond.methodLink RX4 180 yX3_sure, Cond.instanceMethod yX3_sure, Cond.selects RX3 yX3_sure yX3_sure, Cond.code yX3_sure cX3_sure 2 (some .int)]
def wsX4_parrot_r3 : List Cond := [Cond.fieldLink RX3 23 "ParrotJury$Talk" "sure" "LParrotJury$Row;", Cond.methodLink RX3 37 yX1_at, Cond.methodLink RX4 183 yX2_memory, Cond.instanceMethod yX2_memory, Cond.selects RX2 yX2_memory yX2_memory, Cond.code yX2_memory cX2_memory 2 (some .int), Cond.fieldLink RX2 20 "ParrotJury$Seats" "memory" "LParrotJury$Row;", Cond.methodLink RX2 33 yX1_at, Cond.methodLink RX4 82 yX2_loud, Cond.instanceMethod yX2_loud, Cond.selects RX2 yX2_loud yX2_loud, Cond.code yX2_loud cX2_loud 2 (some .int), Cond.fieldLink RX2 24 "ParrotJury$Seats" "loud" "LParrotJury$Row;", Cond.methodLink RX4 73 yX2_listening, Cond.instanceMethod yX2_listening, Cond.selects RX2 yX2_listening yX2_listening, Cond.code yX2_listening cX2_listening 2 (some .int), Cond.fieldLink RX2 27 "ParrotJury$Seats" "listening" "LParrotJury$Row;", Cond.methodLink RX4 186 yX2_listeners, Cond.instanceMethod yX2_listeners, Cond.selects RX2 yX2_listeners yX2_listeners, Cond.code yX2_listeners cX2_listeners 4 (some .int), Cond.methodLink RX2 45 yX2_placeOf, Cond.instanceMethod yX2_placeOf]
def wsX4_parrot_r4 : List Cond := [Cond.selects RX2 yX2_placeOf yX2_placeOf, Cond.code yX2_placeOf cX2_placeOf 5 (some .int), Cond.methodLink RX2 41 yX2_other, Cond.instanceMethod yX2_other, Cond.selects RX2 yX2_other yX2_other, Cond.code yX2_other cX2_other 3 (some .int), Cond.fieldLink RX2 30 "ParrotJury$Seats" "others" "LParrotJury$Row;", Cond.methodLink RX4 189 yX2_heard, Cond.instanceMethod yX2_heard, Cond.selects RX2 yX2_heard yX2_heard, Cond.code yX2_heard cX2_heard 7 (some .int)]
def wsX4_parrot : List Cond := .code yX4_parrot cX4_parrot 3 (some .int) :: ((wsX4_parrot_r1 ++ (wsX4_parrot_r2 ++ (wsX4_parrot_r3 ++ wsX4_parrot_r4))) ++ wsX40 ++ wsX20 ++ wsX30 ++ wsX00 ++ wsX10 ++ (vx_atS RX4 110 "java/lang/IndexOutOfBoundsException" ["java/lang/RuntimeException", "java/lang/Exception"]).filter goodWord)
def wsX4_tellOfHalf_r1 : List Cond := [Cond.fieldLink RX4 19 "ParrotJury" "now" "LParrotJury$Talk;", Cond.methodLink RX4 118 yX3_halves, Cond.instanceMethod yX3_halves, Cond.selects RX3 yX3_halves yX3_halves, Cond.initialized RX3, Cond.code yX3_halves cX3_halves 2 (some (.object "ParrotJury$Halves")), Cond.fieldLink RX3 34 "ParrotJury$Talk" "lasts" "LParrotJury$Halves;", Cond.fieldLink RX3 30 "ParrotJury$Talk" "firsts" "LParrotJury$Halves;", Cond.methodLink RX4 122 yX0_value, Cond.instanceMethod yX0_value, Cond.selects RX0 yX0_value yX0_value, Cond.initialized RX0, Cond.code yX0_value cX0_value 2 (some .int), Cond.fieldLink RX0 14 "ParrotJury$Halves" "value" "LParrotJury$Row;", Cond.methodLink RX0 26 yX1_at, Cond.instanceMethod yX1_at, Cond.selects RX1 yX1_at yX1_at, Cond.initialized RX1, Cond.code yX1_at cX1_at 2 (some .int), Cond.fieldLink RX1 13 "ParrotJury$Row" "cells" "[I", Cond.methodLink RX4 192 yX0_from, Cond.instanceMethod yX0_from, Cond.selects RX0 yX0_from yX0_from, Cond.code yX0_from cX0_from 2 (some .int)]
def wsX4_tellOfHalf_r2 : List Cond := [Cond.fieldLink RX0 20 "ParrotJury$Halves" "from" "LParrotJury$Row;", Cond.methodLink RX4 195 yX0_over, Cond.instanceMethod yX0_over, Cond.selects RX0 yX0_over yX0_over, Cond.code yX0_over cX0_over 2 (some .int), Cond.fieldLink RX0 23 "ParrotJury$Halves" "over" "LParrotJury$Row;"]
def wsX4_tellOfHalf : List Cond := .code yX4_tellOfHalf cX4_tellOfHalf 5 (some .int) :: ((wsX4_tellOfHalf_r1 ++ wsX4_tellOfHalf_r2) ++ wsX40 ++ wsX30 ++ wsX00 ++ wsX10)
def wsX4_half_r1 : List Cond := [Cond.methodLink RX4 61 yX4_needParrot, Cond.instanceMethod yX4_needParrot, Cond.selects RX4 yX4_needParrot yX4_needParrot, Cond.initialized RX4, Cond.code yX4_needParrot cX4_needParrot 2 none, Cond.classLink RX4 106 "java/lang/IndexOutOfBoundsException", Cond.initialized "java/lang/IndexOutOfBoundsException", Cond.fieldLink RX4 10 "ParrotJury" "seats" "LParrotJury$Seats;", Cond.methodLink RX4 44 yX2_size, Cond.instanceMethod yX2_size, Cond.selects RX2 yX2_size yX2_size, Cond.initialized RX2, Cond.code yX2_size cX2_size 1 (some .int), Cond.fieldLink RX2 9 "ParrotJury$Seats" "size" "I", Cond.methodLink RX4 96 yX4_needWhat, Cond.static yX4_needWhat, Cond.code yX4_needWhat cX4_needWhat 2 none, Cond.methodLink RX4 29 yX4_isOutside, Cond.static yX4_isOutside, Cond.code yX4_isOutside cX4_isOutside 3 (some .boolean), Cond.methodLink RX4 102 yX4_tellOfHalf, Cond.instanceMethod yX4_tellOfHalf, Cond.selects RX4 yX4_tellOfHalf yX4_tellOfHalf, Cond.code yX4_tellOfHalf cX4_tellOfHalf 5 (some .int)]
def wsX4_half_r2 : List Cond := [Cond.fieldLink RX4 19 "ParrotJury" "now" "LParrotJury$Talk;", Cond.methodLink RX4 118 yX3_halves, Cond.instanceMethod yX3_halves, Cond.selects RX3 yX3_halves yX3_halves, Cond.initialized RX3, Cond.code yX3_halves cX3_halves 2 (some (.object "ParrotJury$Halves")), Cond.fieldLink RX3 34 "ParrotJury$Talk" "lasts" "LParrotJury$Halves;", Cond.fieldLink RX3 30 "ParrotJury$Talk" "firsts" "LParrotJury$Halves;", Cond.methodLink RX4 122 yX0_value, Cond.instanceMethod yX0_value, Cond.selects RX0 yX0_value yX0_value, Cond.initialized RX0, Cond.code yX0_value cX0_value 2 (some .int), Cond.fieldLink RX0 14 "ParrotJury$Halves" "value" "LParrotJury$Row;", Cond.methodLink RX0 26 yX1_at, Cond.instanceMethod yX1_at, Cond.selects RX1 yX1_at yX1_at, Cond.initialized RX1, Cond.code yX1_at cX1_at 2 (some .int), Cond.fieldLink RX1 13 "ParrotJury$Row" "cells" "[I", Cond.methodLink RX4 192 yX0_from, Cond.instanceMethod yX0_from, Cond.selects RX0 yX0_from yX0_from, Cond.code yX0_from cX0_from 2 (some .int)]
def wsX4_half_r3 : List Cond := [Cond.fieldLink RX0 20 "ParrotJury$Halves" "from" "LParrotJury$Row;", Cond.methodLink RX4 195 yX0_over, Cond.instanceMethod yX0_over, Cond.selects RX0 yX0_over yX0_over, Cond.code yX0_over cX0_over 2 (some .int), Cond.fieldLink RX0 23 "ParrotJury$Halves" "over" "LParrotJury$Row;"]
def wsX4_half : List Cond := .code yX4_half cX4_half 4 (some .int) :: ((wsX4_half_r1 ++ (wsX4_half_r2 ++ wsX4_half_r3)) ++ wsX40 ++ wsX20 ++ wsX30 ++ wsX00 ++ wsX10 ++ (vx_atS RX4 110 "java/lang/IndexOutOfBoundsException" ["java/lang/RuntimeException", "java/lang/Exception"]).filter goodWord)
def wsX4_hears_r1 : List Cond := [Cond.classLink RX4 106 "java/lang/IndexOutOfBoundsException", Cond.initialized "java/lang/IndexOutOfBoundsException", Cond.fieldLink RX4 10 "ParrotJury" "seats" "LParrotJury$Seats;", Cond.methodLink RX4 61 yX4_needParrot, Cond.instanceMethod yX4_needParrot, Cond.selects RX4 yX4_needParrot yX4_needParrot, Cond.initialized RX4, Cond.code yX4_needParrot cX4_needParrot 2 none, Cond.methodLink RX4 44 yX2_size, Cond.instanceMethod yX2_size, Cond.selects RX2 yX2_size yX2_size, Cond.initialized RX2, Cond.code yX2_size cX2_size 1 (some .int), Cond.fieldLink RX2 9 "ParrotJury$Seats" "size" "I", Cond.methodLink RX4 73 yX2_listening, Cond.instanceMethod yX2_listening, Cond.selects RX2 yX2_listening yX2_listening, Cond.code yX2_listening cX2_listening 2 (some .int), Cond.fieldLink RX2 27 "ParrotJury$Seats" "listening" "LParrotJury$Row;", Cond.methodLink RX2 33 yX1_at, Cond.instanceMethod yX1_at, Cond.selects RX1 yX1_at yX1_at, Cond.initialized RX1, Cond.code yX1_at cX1_at 2 (some .int)]
def wsX4_hears_r2 : List Cond := [Cond.fieldLink RX1 13 "ParrotJury$Row" "cells" "[I", Cond.methodLink RX4 111 yX2_other, Cond.instanceMethod yX2_other, Cond.selects RX2 yX2_other yX2_other, Cond.code yX2_other cX2_other 3 (some .int), Cond.fieldLink RX2 30 "ParrotJury$Seats" "others" "LParrotJury$Row;"]
def wsX4_hears : List Cond := .code yX4_hears cX4_hears 3 (some .int) :: ((wsX4_hears_r1 ++ wsX4_hears_r2) ++ wsX40 ++ wsX20 ++ wsX10 ++ (vx_atS RX4 110 "java/lang/IndexOutOfBoundsException" ["java/lang/RuntimeException", "java/lang/Exception"]).filter goodWord)
def wsX4_votesIn_r1 : List Cond := [Cond.fieldLink RX4 10 "ParrotJury" "seats" "LParrotJury$Seats;", Cond.methodLink RX4 44 yX2_size, Cond.instanceMethod yX2_size, Cond.selects RX2 yX2_size yX2_size, Cond.initialized RX2, Cond.code yX2_size cX2_size 1 (some .int), Cond.fieldLink RX2 9 "ParrotJury$Seats" "size" "I", Cond.methodLink RX4 93 yX3_word, Cond.instanceMethod yX3_word, Cond.selects RX3 yX3_word yX3_word, Cond.initialized RX3, Cond.code yX3_word cX3_word 2 (some .int), Cond.fieldLink RX3 30 "ParrotJury$Talk" "firsts" "LParrotJury$Halves;", Cond.fieldLink RX3 34 "ParrotJury$Talk" "lasts" "LParrotJury$Halves;", Cond.methodLink RX3 41 yX0_value, Cond.instanceMethod yX0_value, Cond.selects RX0 yX0_value yX0_value, Cond.initialized RX0, Cond.code yX0_value cX0_value 2 (some .int), Cond.fieldLink RX0 14 "ParrotJury$Halves" "value" "LParrotJury$Row;", Cond.methodLink RX0 26 yX1_at, Cond.instanceMethod yX1_at, Cond.selects RX1 yX1_at yX1_at, Cond.initialized RX1]
def wsX4_votesIn_r2 : List Cond := [Cond.code yX1_at cX1_at 2 (some .int), Cond.fieldLink RX1 13 "ParrotJury$Row" "cells" "[I"]
def wsX4_votesIn : List Cond := .code yX4_votesIn cX4_votesIn 6 (some .int) :: ((wsX4_votesIn_r1 ++ wsX4_votesIn_r2) ++ wsX40 ++ wsX20 ++ wsX30 ++ wsX00 ++ wsX10)
def wsX4_votes_r1 : List Cond := [Cond.fieldLink RX4 19 "ParrotJury" "now" "LParrotJury$Talk;", Cond.methodLink RX4 88 yX4_needWord, Cond.static yX4_needWord, Cond.initialized RX4, Cond.code yX4_needWord cX4_needWord 1 none, Cond.classLink RX4 33 "java/lang/IllegalArgumentException", Cond.initialized "java/lang/IllegalArgumentException", Cond.methodLink RX4 29 yX4_isOutside, Cond.static yX4_isOutside, Cond.code yX4_isOutside cX4_isOutside 3 (some .boolean), Cond.methodLink RX4 114 yX4_votesIn, Cond.instanceMethod yX4_votesIn, Cond.selects RX4 yX4_votesIn yX4_votesIn, Cond.code yX4_votesIn cX4_votesIn 6 (some .int), Cond.fieldLink RX4 10 "ParrotJury" "seats" "LParrotJury$Seats;", Cond.methodLink RX4 44 yX2_size, Cond.instanceMethod yX2_size, Cond.selects RX2 yX2_size yX2_size, Cond.initialized RX2, Cond.code yX2_size cX2_size 1 (some .int), Cond.fieldLink RX2 9 "ParrotJury$Seats" "size" "I", Cond.methodLink RX4 93 yX3_word, Cond.instanceMethod yX3_word, Cond.selects RX3 yX3_word yX3_word]
def wsX4_votes_r2 : List Cond := [Cond.initialized RX3, Cond.code yX3_word cX3_word 2 (some .int), Cond.fieldLink RX3 30 "ParrotJury$Talk" "firsts" "LParrotJury$Halves;", Cond.fieldLink RX3 34 "ParrotJury$Talk" "lasts" "LParrotJury$Halves;", Cond.methodLink RX3 41 yX0_value, Cond.instanceMethod yX0_value, Cond.selects RX0 yX0_value yX0_value, Cond.initialized RX0, Cond.code yX0_value cX0_value 2 (some .int), Cond.fieldLink RX0 14 "ParrotJury$Halves" "value" "LParrotJury$Row;", Cond.methodLink RX0 26 yX1_at, Cond.instanceMethod yX1_at, Cond.selects RX1 yX1_at yX1_at, Cond.initialized RX1, Cond.code yX1_at cX1_at 2 (some .int), Cond.fieldLink RX1 13 "ParrotJury$Row" "cells" "[I"]
def wsX4_votes : List Cond := .code yX4_votes cX4_votes 2 (some .int) :: ((wsX4_votes_r1 ++ wsX4_votes_r2) ++ wsX40 ++ wsX20 ++ wsX30 ++ wsX00 ++ wsX10 ++ (vx_atS RX4 37 "java/lang/IllegalArgumentException" ["java/lang/RuntimeException", "java/lang/Exception"]).filter goodWord)
def wsX4_verdict_r1 : List Cond := [Cond.fieldLink RX4 10 "ParrotJury" "seats" "LParrotJury$Seats;", Cond.fieldLink RX4 19 "ParrotJury" "now" "LParrotJury$Talk;", Cond.methodLink RX4 44 yX2_size, Cond.instanceMethod yX2_size, Cond.selects RX2 yX2_size yX2_size, Cond.initialized RX2, Cond.code yX2_size cX2_size 1 (some .int), Cond.fieldLink RX2 9 "ParrotJury$Seats" "size" "I", Cond.methodLink RX4 93 yX3_word, Cond.instanceMethod yX3_word, Cond.selects RX3 yX3_word yX3_word, Cond.initialized RX3, Cond.code yX3_word cX3_word 2 (some .int), Cond.fieldLink RX3 30 "ParrotJury$Talk" "firsts" "LParrotJury$Halves;", Cond.fieldLink RX3 34 "ParrotJury$Talk" "lasts" "LParrotJury$Halves;", Cond.methodLink RX3 41 yX0_value, Cond.instanceMethod yX0_value, Cond.selects RX0 yX0_value yX0_value, Cond.initialized RX0, Cond.code yX0_value cX0_value 2 (some .int), Cond.fieldLink RX0 14 "ParrotJury$Halves" "value" "LParrotJury$Row;", Cond.methodLink RX0 26 yX1_at, Cond.instanceMethod yX1_at, Cond.selects RX1 yX1_at yX1_at]
def wsX4_verdict_r2 : List Cond := [Cond.initialized RX1, Cond.code yX1_at cX1_at 2 (some .int), Cond.fieldLink RX1 13 "ParrotJury$Row" "cells" "[I", Cond.methodLink RX4 114 yX4_votesIn, Cond.instanceMethod yX4_votesIn, Cond.selects RX4 yX4_votesIn yX4_votesIn, Cond.initialized RX4, Cond.code yX4_votesIn cX4_votesIn 6 (some .int)]
def wsX4_verdict : List Cond := .code yX4_verdict cX4_verdict 7 (some .int) :: ((wsX4_verdict_r1 ++ wsX4_verdict_r2) ++ wsX40 ++ wsX20 ++ wsX30 ++ wsX00 ++ wsX10)
def wsX4_left_r1 : List Cond := [Cond.fieldLink RX4 10 "ParrotJury" "seats" "LParrotJury$Seats;", Cond.fieldLink RX4 19 "ParrotJury" "now" "LParrotJury$Talk;", Cond.methodLink RX4 88 yX4_needWord, Cond.static yX4_needWord, Cond.initialized RX4, Cond.code yX4_needWord cX4_needWord 1 none, Cond.classLink RX4 33 "java/lang/IllegalArgumentException", Cond.initialized "java/lang/IllegalArgumentException", Cond.methodLink RX4 29 yX4_isOutside, Cond.static yX4_isOutside, Cond.code yX4_isOutside cX4_isOutside 3 (some .boolean), Cond.methodLink RX4 44 yX2_size, Cond.instanceMethod yX2_size, Cond.selects RX2 yX2_size yX2_size, Cond.initialized RX2, Cond.code yX2_size cX2_size 1 (some .int), Cond.fieldLink RX2 9 "ParrotJury$Seats" "size" "I", Cond.methodLink RX4 118 yX3_halves, Cond.instanceMethod yX3_halves, Cond.selects RX3 yX3_halves yX3_halves, Cond.initialized RX3, Cond.code yX3_halves cX3_halves 2 (some (.object "ParrotJury$Halves")), Cond.fieldLink RX3 34 "ParrotJury$Talk" "lasts" "LParrotJury$Halves;", Cond.fieldLink RX3 30 "ParrotJury$Talk" "firsts" "LParrotJury$Halves;"]
def wsX4_left_r2 : List Cond := [Cond.methodLink RX4 122 yX0_value, Cond.instanceMethod yX0_value, Cond.selects RX0 yX0_value yX0_value, Cond.initialized RX0, Cond.code yX0_value cX0_value 2 (some .int), Cond.fieldLink RX0 14 "ParrotJury$Halves" "value" "LParrotJury$Row;", Cond.methodLink RX0 26 yX1_at, Cond.instanceMethod yX1_at, Cond.selects RX1 yX1_at yX1_at, Cond.initialized RX1, Cond.code yX1_at cX1_at 2 (some .int), Cond.fieldLink RX1 13 "ParrotJury$Row" "cells" "[I"]
def wsX4_left : List Cond := .code yX4_left cX4_left 5 (some .int) :: ((wsX4_left_r1 ++ wsX4_left_r2) ++ wsX40 ++ wsX20 ++ wsX30 ++ wsX00 ++ wsX10 ++ (vx_atS RX4 37 "java/lang/IllegalArgumentException" ["java/lang/RuntimeException", "java/lang/Exception"]).filter goodWord)
def wsX4_isFirstWithItsWord : List Cond := .code yX4_isFirstWithItsWord cX4_isFirstWithItsWord 4 (some .boolean) :: ([.fieldLink RX4 19 "ParrotJury" "now" "LParrotJury$Talk;", .methodLink RX4 93 yX3_word, .instanceMethod yX3_word, .selects RX3 yX3_word yX3_word, .initialized RX3, .code yX3_word cX3_word 2 (some .int), .fieldLink RX3 30 "ParrotJury$Talk" "firsts" "LParrotJury$Halves;", .fieldLink RX3 34 "ParrotJury$Talk" "lasts" "LParrotJury$Halves;", .methodLink RX3 41 yX0_value, .instanceMethod yX0_value, .selects RX0 yX0_value yX0_value, .initialized RX0, .code yX0_value cX0_value 2 (some .int), .fieldLink RX0 14 "ParrotJury$Halves" "value" "LParrotJury$Row;", .methodLink RX0 26 yX1_at, .instanceMethod yX1_at, .selects RX1 yX1_at yX1_at, .initialized RX1, .code yX1_at cX1_at 2 (some .int), .fieldLink RX1 13 "ParrotJury$Row" "cells" "[I"] ++ wsX40 ++ wsX30 ++ wsX00 ++ wsX10)
def wsX4_differentWords_r1 : List Cond := [Cond.fieldLink RX4 10 "ParrotJury" "seats" "LParrotJury$Seats;", Cond.methodLink RX4 44 yX2_size, Cond.instanceMethod yX2_size, Cond.selects RX2 yX2_size yX2_size, Cond.initialized RX2, Cond.code yX2_size cX2_size 1 (some .int), Cond.fieldLink RX2 9 "ParrotJury$Seats" "size" "I", Cond.methodLink RX4 207 yX4_isFirstWithItsWord, Cond.instanceMethod yX4_isFirstWithItsWord, Cond.selects RX4 yX4_isFirstWithItsWord yX4_isFirstWithItsWord, Cond.initialized RX4, Cond.code yX4_isFirstWithItsWord cX4_isFirstWithItsWord 4 (some .boolean), Cond.fieldLink RX4 19 "ParrotJury" "now" "LParrotJury$Talk;", Cond.methodLink RX4 93 yX3_word, Cond.instanceMethod yX3_word, Cond.selects RX3 yX3_word yX3_word, Cond.initialized RX3, Cond.code yX3_word cX3_word 2 (some .int), Cond.fieldLink RX3 30 "ParrotJury$Talk" "firsts" "LParrotJury$Halves;", Cond.fieldLink RX3 34 "ParrotJury$Talk" "lasts" "LParrotJury$Halves;", Cond.methodLink RX3 41 yX0_value, Cond.instanceMethod yX0_value, Cond.selects RX0 yX0_value yX0_value, Cond.initialized RX0]
def wsX4_differentWords_r2 : List Cond := [Cond.code yX0_value cX0_value 2 (some .int), Cond.fieldLink RX0 14 "ParrotJury$Halves" "value" "LParrotJury$Row;", Cond.methodLink RX0 26 yX1_at, Cond.instanceMethod yX1_at, Cond.selects RX1 yX1_at yX1_at, Cond.initialized RX1, Cond.code yX1_at cX1_at 2 (some .int), Cond.fieldLink RX1 13 "ParrotJury$Row" "cells" "[I"]
def wsX4_differentWords : List Cond := .code yX4_differentWords cX4_differentWords 4 (some .int) :: ((wsX4_differentWords_r1 ++ wsX4_differentWords_r2) ++ wsX40 ++ wsX20 ++ wsX30 ++ wsX00 ++ wsX10)
def wsX4_halvesFromCourt_r1 : List Cond := [Cond.fieldLink RX4 10 "ParrotJury" "seats" "LParrotJury$Seats;", Cond.fieldLink RX4 19 "ParrotJury" "now" "LParrotJury$Talk;", Cond.methodLink RX4 44 yX2_size, Cond.instanceMethod yX2_size, Cond.selects RX2 yX2_size yX2_size, Cond.initialized RX2, Cond.code yX2_size cX2_size 1 (some .int), Cond.fieldLink RX2 9 "ParrotJury$Seats" "size" "I", Cond.methodLink RX4 118 yX3_halves, Cond.instanceMethod yX3_halves, Cond.selects RX3 yX3_halves yX3_halves, Cond.initialized RX3, Cond.code yX3_halves cX3_halves 2 (some (.object "ParrotJury$Halves")), Cond.fieldLink RX3 34 "ParrotJury$Talk" "lasts" "LParrotJury$Halves;", Cond.fieldLink RX3 30 "ParrotJury$Talk" "firsts" "LParrotJury$Halves;", Cond.methodLink RX4 192 yX0_from, Cond.instanceMethod yX0_from, Cond.selects RX0 yX0_from yX0_from, Cond.initialized RX0, Cond.code yX0_from cX0_from 2 (some .int), Cond.fieldLink RX0 20 "ParrotJury$Halves" "from" "LParrotJury$Row;", Cond.methodLink RX0 26 yX1_at, Cond.instanceMethod yX1_at, Cond.selects RX1 yX1_at yX1_at]
def wsX4_halvesFromCourt_r2 : List Cond := [Cond.initialized RX1, Cond.code yX1_at cX1_at 2 (some .int), Cond.fieldLink RX1 13 "ParrotJury$Row" "cells" "[I"]
def wsX4_halvesFromCourt : List Cond := .code yX4_halvesFromCourt cX4_halvesFromCourt 4 (some .int) :: ((wsX4_halvesFromCourt_r1 ++ wsX4_halvesFromCourt_r2) ++ wsX40 ++ wsX20 ++ wsX30 ++ wsX00 ++ wsX10)
def wsX4_sureOfAll : List Cond := .code yX4_sureOfAll cX4_sureOfAll 4 (some .int) :: ([.fieldLink RX4 10 "ParrotJury" "seats" "LParrotJury$Seats;", .fieldLink RX4 19 "ParrotJury" "now" "LParrotJury$Talk;", .methodLink RX4 44 yX2_size, .instanceMethod yX2_size, .selects RX2 yX2_size yX2_size, .initialized RX2, .code yX2_size cX2_size 1 (some .int), .fieldLink RX2 9 "ParrotJury$Seats" "size" "I", .methodLink RX4 180 yX3_sure, .instanceMethod yX3_sure, .selects RX3 yX3_sure yX3_sure, .initialized RX3, .code yX3_sure cX3_sure 2 (some .int), .fieldLink RX3 23 "ParrotJury$Talk" "sure" "LParrotJury$Row;", .methodLink RX3 37 yX1_at, .instanceMethod yX1_at, .selects RX1 yX1_at yX1_at, .initialized RX1, .code yX1_at cX1_at 2 (some .int), .fieldLink RX1 13 "ParrotJury$Row" "cells" "[I"] ++ wsX40 ++ wsX20 ++ wsX30 ++ wsX10)
def wsX4_tellOfJury_r1 : List Cond := [Cond.fieldLink RX4 19 "ParrotJury" "now" "LParrotJury$Talk;", Cond.fieldLink RX4 10 "ParrotJury" "seats" "LParrotJury$Seats;", Cond.methodLink RX4 198 yX3_round, Cond.instanceMethod yX3_round, Cond.selects RX3 yX3_round yX3_round, Cond.initialized RX3, Cond.code yX3_round cX3_round 1 (some .int), Cond.fieldLink RX3 9 "ParrotJury$Talk" "round" "I", Cond.methodLink RX4 44 yX2_size, Cond.instanceMethod yX2_size, Cond.selects RX2 yX2_size yX2_size, Cond.initialized RX2, Cond.code yX2_size cX2_size 1 (some .int), Cond.fieldLink RX2 9 "ParrotJury$Seats" "size" "I", Cond.methodLink RX4 201 yX4_differentWords, Cond.instanceMethod yX4_differentWords, Cond.selects RX4 yX4_differentWords yX4_differentWords, Cond.initialized RX4, Cond.code yX4_differentWords cX4_differentWords 4 (some .int), Cond.methodLink RX4 207 yX4_isFirstWithItsWord, Cond.instanceMethod yX4_isFirstWithItsWord, Cond.selects RX4 yX4_isFirstWithItsWord yX4_isFirstWithItsWord, Cond.code yX4_isFirstWithItsWord cX4_isFirstWithItsWord 4 (some .boolean), Cond.methodLink RX4 93 yX3_word]
def wsX4_tellOfJury_r2 : List Cond := [Cond.instanceMethod yX3_word, Cond.selects RX3 yX3_word yX3_word, Cond.code yX3_word cX3_word 2 (some .int), Cond.fieldLink RX3 30 "ParrotJury$Talk" "firsts" "LParrotJury$Halves;", Cond.fieldLink RX3 34 "ParrotJury$Talk" "lasts" "LParrotJury$Halves;", Cond.methodLink RX3 41 yX0_value, Cond.instanceMethod yX0_value, Cond.selects RX0 yX0_value yX0_value, Cond.initialized RX0, Cond.code yX0_value cX0_value 2 (some .int), Cond.fieldLink RX0 14 "ParrotJury$Halves" "value" "LParrotJury$Row;", Cond.methodLink RX0 26 yX1_at, Cond.instanceMethod yX1_at, Cond.selects RX1 yX1_at yX1_at, Cond.initialized RX1, Cond.code yX1_at cX1_at 2 (some .int), Cond.fieldLink RX1 13 "ParrotJury$Row" "cells" "[I", Cond.methodLink RX4 204 yX4_halvesFromCourt, Cond.instanceMethod yX4_halvesFromCourt, Cond.selects RX4 yX4_halvesFromCourt yX4_halvesFromCourt, Cond.code yX4_halvesFromCourt cX4_halvesFromCourt 4 (some .int), Cond.methodLink RX4 118 yX3_halves, Cond.instanceMethod yX3_halves, Cond.selects RX3 yX3_halves yX3_halves]
def wsX4_tellOfJury_r3 : List Cond := [Cond.code yX3_halves cX3_halves 2 (some (.object "ParrotJury$Halves")), Cond.methodLink RX4 192 yX0_from, Cond.instanceMethod yX0_from, Cond.selects RX0 yX0_from yX0_from, Cond.code yX0_from cX0_from 2 (some .int), Cond.fieldLink RX0 20 "ParrotJury$Halves" "from" "LParrotJury$Row;", Cond.methodLink RX4 158 yX4_sureOfAll, Cond.instanceMethod yX4_sureOfAll, Cond.selects RX4 yX4_sureOfAll yX4_sureOfAll, Cond.code yX4_sureOfAll cX4_sureOfAll 4 (some .int), Cond.methodLink RX4 180 yX3_sure, Cond.instanceMethod yX3_sure, Cond.selects RX3 yX3_sure yX3_sure, Cond.code yX3_sure cX3_sure 2 (some .int), Cond.fieldLink RX3 23 "ParrotJury$Talk" "sure" "LParrotJury$Row;", Cond.methodLink RX3 37 yX1_at, Cond.methodLink RX4 133 yX3_taken, Cond.instanceMethod yX3_taken, Cond.selects RX3 yX3_taken yX3_taken, Cond.code yX3_taken cX3_taken 1 (some .int), Cond.fieldLink RX3 15 "ParrotJury$Talk" "taken" "I"]
def wsX4_tellOfJury : List Cond := .code yX4_tellOfJury cX4_tellOfJury 2 (some .int) :: ((wsX4_tellOfJury_r1 ++ (wsX4_tellOfJury_r2 ++ wsX4_tellOfJury_r3)) ++ wsX40 ++ wsX30 ++ wsX20 ++ wsX00 ++ wsX10)
def wsX4_count_r1 : List Cond := [Cond.methodLink RX4 96 yX4_needWhat, Cond.static yX4_needWhat, Cond.initialized RX4, Cond.code yX4_needWhat cX4_needWhat 2 none, Cond.classLink RX4 106 "java/lang/IndexOutOfBoundsException", Cond.initialized "java/lang/IndexOutOfBoundsException", Cond.methodLink RX4 29 yX4_isOutside, Cond.static yX4_isOutside, Cond.code yX4_isOutside cX4_isOutside 3 (some .boolean), Cond.methodLink RX4 127 yX4_tellOfJury, Cond.instanceMethod yX4_tellOfJury, Cond.selects RX4 yX4_tellOfJury yX4_tellOfJury, Cond.code yX4_tellOfJury cX4_tellOfJury 2 (some .int), Cond.fieldLink RX4 19 "ParrotJury" "now" "LParrotJury$Talk;", Cond.fieldLink RX4 10 "ParrotJury" "seats" "LParrotJury$Seats;", Cond.methodLink RX4 198 yX3_round, Cond.instanceMethod yX3_round, Cond.selects RX3 yX3_round yX3_round, Cond.initialized RX3, Cond.code yX3_round cX3_round 1 (some .int), Cond.fieldLink RX3 9 "ParrotJury$Talk" "round" "I", Cond.methodLink RX4 44 yX2_size, Cond.instanceMethod yX2_size, Cond.selects RX2 yX2_size yX2_size]
def wsX4_count_r2 : List Cond := [Cond.initialized RX2, Cond.code yX2_size cX2_size 1 (some .int), Cond.fieldLink RX2 9 "ParrotJury$Seats" "size" "I", Cond.methodLink RX4 201 yX4_differentWords, Cond.instanceMethod yX4_differentWords, Cond.selects RX4 yX4_differentWords yX4_differentWords, Cond.code yX4_differentWords cX4_differentWords 4 (some .int), Cond.methodLink RX4 207 yX4_isFirstWithItsWord, Cond.instanceMethod yX4_isFirstWithItsWord, Cond.selects RX4 yX4_isFirstWithItsWord yX4_isFirstWithItsWord, Cond.code yX4_isFirstWithItsWord cX4_isFirstWithItsWord 4 (some .boolean), Cond.methodLink RX4 93 yX3_word, Cond.instanceMethod yX3_word, Cond.selects RX3 yX3_word yX3_word, Cond.code yX3_word cX3_word 2 (some .int), Cond.fieldLink RX3 30 "ParrotJury$Talk" "firsts" "LParrotJury$Halves;", Cond.fieldLink RX3 34 "ParrotJury$Talk" "lasts" "LParrotJury$Halves;", Cond.methodLink RX3 41 yX0_value, Cond.instanceMethod yX0_value, Cond.selects RX0 yX0_value yX0_value, Cond.initialized RX0, Cond.code yX0_value cX0_value 2 (some .int), Cond.fieldLink RX0 14 "ParrotJury$Halves" "value" "LParrotJury$Row;", Cond.methodLink RX0 26 yX1_at]
def wsX4_count_r3 : List Cond := [Cond.instanceMethod yX1_at, Cond.selects RX1 yX1_at yX1_at, Cond.initialized RX1, Cond.code yX1_at cX1_at 2 (some .int), Cond.fieldLink RX1 13 "ParrotJury$Row" "cells" "[I", Cond.methodLink RX4 204 yX4_halvesFromCourt, Cond.instanceMethod yX4_halvesFromCourt, Cond.selects RX4 yX4_halvesFromCourt yX4_halvesFromCourt, Cond.code yX4_halvesFromCourt cX4_halvesFromCourt 4 (some .int), Cond.methodLink RX4 118 yX3_halves, Cond.instanceMethod yX3_halves, Cond.selects RX3 yX3_halves yX3_halves, Cond.code yX3_halves cX3_halves 2 (some (.object "ParrotJury$Halves")), Cond.methodLink RX4 192 yX0_from, Cond.instanceMethod yX0_from, Cond.selects RX0 yX0_from yX0_from, Cond.code yX0_from cX0_from 2 (some .int), Cond.fieldLink RX0 20 "ParrotJury$Halves" "from" "LParrotJury$Row;", Cond.methodLink RX4 158 yX4_sureOfAll, Cond.instanceMethod yX4_sureOfAll, Cond.selects RX4 yX4_sureOfAll yX4_sureOfAll, Cond.code yX4_sureOfAll cX4_sureOfAll 4 (some .int), Cond.methodLink RX4 180 yX3_sure, Cond.instanceMethod yX3_sure]
def wsX4_count_r4 : List Cond := [Cond.selects RX3 yX3_sure yX3_sure, Cond.code yX3_sure cX3_sure 2 (some .int), Cond.fieldLink RX3 23 "ParrotJury$Talk" "sure" "LParrotJury$Row;", Cond.methodLink RX3 37 yX1_at, Cond.methodLink RX4 133 yX3_taken, Cond.instanceMethod yX3_taken, Cond.selects RX3 yX3_taken yX3_taken, Cond.code yX3_taken cX3_taken 1 (some .int), Cond.fieldLink RX3 15 "ParrotJury$Talk" "taken" "I"]
def wsX4_count : List Cond := .code yX4_count cX4_count 2 (some .int) :: ((wsX4_count_r1 ++ (wsX4_count_r2 ++ (wsX4_count_r3 ++ wsX4_count_r4))) ++ wsX40 ++ wsX30 ++ wsX20 ++ wsX00 ++ wsX10 ++ (vx_atS RX4 110 "java/lang/IndexOutOfBoundsException" ["java/lang/RuntimeException", "java/lang/Exception"]).filter goodWord)
def wsX4_needRounds : List Cond := .code yX4_needRounds cX4_needRounds 2 none :: ([.classLink RX4 33 "java/lang/IllegalArgumentException", .initialized "java/lang/IllegalArgumentException", .methodLink RX4 29 yX4_isOutside, .static yX4_isOutside, .initialized RX4, .code yX4_isOutside cX4_isOutside 3 (some .boolean)] ++ (vx_atS RX4 37 "java/lang/IllegalArgumentException" ["java/lang/RuntimeException", "java/lang/Exception"]).filter goodWord)
def wsX4_pass_r1 : List Cond := [Cond.fieldLink RX4 19 "ParrotJury" "now" "LParrotJury$Talk;", Cond.fieldLink RX4 10 "ParrotJury" "seats" "LParrotJury$Seats;", Cond.fieldLink RX4 26 "ParrotJury" "before" "LParrotJury$Talk;", Cond.methodLink RX4 130 yX4_needRounds, Cond.static yX4_needRounds, Cond.initialized RX4, Cond.code yX4_needRounds cX4_needRounds 2 none, Cond.classLink RX4 33 "java/lang/IllegalArgumentException", Cond.initialized "java/lang/IllegalArgumentException", Cond.methodLink RX4 29 yX4_isOutside, Cond.static yX4_isOutside, Cond.code yX4_isOutside cX4_isOutside 3 (some .boolean), Cond.methodLink RX4 133 yX3_taken, Cond.instanceMethod yX3_taken, Cond.selects RX3 yX3_taken yX3_taken, Cond.initialized RX3, Cond.code yX3_taken cX3_taken 1 (some .int), Cond.fieldLink RX3 15 "ParrotJury$Talk" "taken" "I", Cond.methodLink RX4 136 yX3_goRounds, Cond.instanceMethod yX3_goRounds, Cond.selects RX3 yX3_goRounds yX3_goRounds, Cond.code yX3_goRounds cX3_goRounds 5 none, Cond.fieldLink RX3 9 "ParrotJury$Talk" "round" "I", Cond.methodLink RX3 58 yX3_copyFrom]
def wsX4_pass_r2 : List Cond := [Cond.instanceMethod yX3_copyFrom, Cond.selects RX3 yX3_copyFrom yX3_copyFrom, Cond.code yX3_copyFrom cX3_copyFrom 2 none, Cond.fieldLink RX3 23 "ParrotJury$Talk" "sure" "LParrotJury$Row;", Cond.fieldLink RX3 30 "ParrotJury$Talk" "firsts" "LParrotJury$Halves;", Cond.fieldLink RX3 34 "ParrotJury$Talk" "lasts" "LParrotJury$Halves;", Cond.methodLink RX3 51 yX1_copyFrom, Cond.instanceMethod yX1_copyFrom, Cond.selects RX1 yX1_copyFrom yX1_copyFrom, Cond.initialized RX1, Cond.code yX1_copyFrom cX1_copyFrom 2 none, Cond.fieldLink RX1 13 "ParrotJury$Row" "cells" "[I", Cond.methodLink RX1 19 Lib.Math.min.name, Cond.static Lib.Math.min.name, Cond.initialized "java/lang/Math", Cond.code Lib.Math.min.name Lib.Math.min.code 2 (some .int), Cond.methodLink RX1 22 arraycopyName, Cond.native arraycopyName, Cond.static arraycopyName, Cond.initialized "java/lang/System", Cond.methodLink RX3 55 yX0_copyFrom, Cond.instanceMethod yX0_copyFrom, Cond.selects RX0 yX0_copyFrom yX0_copyFrom, Cond.initialized RX0]
def wsX4_pass_r3 : List Cond := [Cond.code yX0_copyFrom cX0_copyFrom 2 none, Cond.fieldLink RX0 14 "ParrotJury$Halves" "value" "LParrotJury$Row;", Cond.fieldLink RX0 20 "ParrotJury$Halves" "from" "LParrotJury$Row;", Cond.fieldLink RX0 23 "ParrotJury$Halves" "over" "LParrotJury$Row;", Cond.methodLink RX0 40 yX1_copyFrom, Cond.methodLink RX3 61 yX3_hearAll, Cond.instanceMethod yX3_hearAll, Cond.selects RX3 yX3_hearAll yX3_hearAll, Cond.code yX3_hearAll cX3_hearAll 6 none, Cond.methodLink RX3 69 yX2_size, Cond.instanceMethod yX2_size, Cond.selects RX2 yX2_size yX2_size, Cond.initialized RX2, Cond.code yX2_size cX2_size 1 (some .int), Cond.fieldLink RX2 9 "ParrotJury$Seats" "size" "I", Cond.methodLink RX3 75 yX2_heard, Cond.instanceMethod yX2_heard, Cond.selects RX2 yX2_heard yX2_heard, Cond.code yX2_heard cX2_heard 7 (some .int), Cond.fieldLink RX2 27 "ParrotJury$Seats" "listening" "LParrotJury$Row;", Cond.fieldLink RX2 24 "ParrotJury$Seats" "loud" "LParrotJury$Row;", Cond.methodLink RX2 33 yX1_at, Cond.instanceMethod yX1_at, Cond.selects RX1 yX1_at yX1_at]
def wsX4_pass_r4 : List Cond := [Cond.code yX1_at cX1_at 2 (some .int), Cond.methodLink RX2 41 yX2_other, Cond.instanceMethod yX2_other, Cond.selects RX2 yX2_other yX2_other, Cond.code yX2_other cX2_other 3 (some .int), Cond.fieldLink RX2 30 "ParrotJury$Seats" "others" "LParrotJury$Row;", Cond.methodLink RX3 78 yX3_hear, Cond.instanceMethod yX3_hear, Cond.selects RX3 yX3_hear yX3_hear, Cond.code yX3_hear cX3_hear 6 none, Cond.methodLink RX3 87 Lib.Math.min.name, Cond.methodLink RX3 82 yX3_sure, Cond.instanceMethod yX3_sure, Cond.selects RX3 yX3_sure yX3_sure, Cond.code yX3_sure cX3_sure 2 (some .int), Cond.methodLink RX3 37 yX1_at, Cond.methodLink RX3 84 yX3_word, Cond.instanceMethod yX3_word, Cond.selects RX3 yX3_word yX3_word, Cond.code yX3_word cX3_word 2 (some .int), Cond.methodLink RX3 41 yX0_value, Cond.instanceMethod yX0_value, Cond.selects RX0 yX0_value yX0_value, Cond.code yX0_value cX0_value 2 (some .int)]
def wsX4_pass_r5 : List Cond := [Cond.methodLink RX0 26 yX1_at, Cond.methodLink RX3 48 yX1_put, Cond.instanceMethod yX1_put, Cond.selects RX1 yX1_put yX1_put, Cond.code yX1_put cX1_put 3 none, Cond.methodLink RX3 93 yX3_halves, Cond.instanceMethod yX3_halves, Cond.selects RX3 yX3_halves yX3_halves, Cond.code yX3_halves cX3_halves 2 (some (.object "ParrotJury$Halves")), Cond.methodLink RX3 97 yX0_takeFrom, Cond.instanceMethod yX0_takeFrom, Cond.selects RX0 yX0_takeFrom yX0_takeFrom, Cond.code yX0_takeFrom cX0_takeFrom 4 none, Cond.methodLink RX0 34 Lib.Math.min.name, Cond.methodLink RX0 30 yX1_put, Cond.methodLink RX3 65 yX3_forgetAll, Cond.instanceMethod yX3_forgetAll, Cond.selects RX3 yX3_forgetAll yX3_forgetAll, Cond.code yX3_forgetAll cX3_forgetAll 5 none, Cond.methodLink RX3 104 Lib.Math.max.name, Cond.static Lib.Math.max.name, Cond.code Lib.Math.max.name Lib.Math.max.code 2 (some .int), Cond.methodLink RX3 101 yX2_memory, Cond.instanceMethod yX2_memory]
def wsX4_pass_r6 : List Cond := [Cond.selects RX2 yX2_memory yX2_memory, Cond.code yX2_memory cX2_memory 2 (some .int), Cond.fieldLink RX2 20 "ParrotJury$Seats" "memory" "LParrotJury$Row;"]
def wsX4_pass : List Cond := .code yX4_pass cX4_pass 3 (some .int) :: ((wsX4_pass_r1 ++ (wsX4_pass_r2 ++ (wsX4_pass_r3 ++ (wsX4_pass_r4 ++ (wsX4_pass_r5 ++ wsX4_pass_r6))))) ++ wsX40 ++ wsX30 ++ wsX10 ++ wsX00 ++ wsX20 ++ (vx_atS RX4 37 "java/lang/IllegalArgumentException" ["java/lang/RuntimeException", "java/lang/Exception"]).filter goodWord)
def wsX4_sayTheSame_r1 : List Cond := [Cond.fieldLink RX4 10 "ParrotJury" "seats" "LParrotJury$Seats;", Cond.methodLink RX4 44 yX2_size, Cond.instanceMethod yX2_size, Cond.selects RX2 yX2_size yX2_size, Cond.initialized RX2, Cond.code yX2_size cX2_size 1 (some .int), Cond.fieldLink RX2 9 "ParrotJury$Seats" "size" "I", Cond.methodLink RX4 93 yX3_word, Cond.instanceMethod yX3_word, Cond.selects RX3 yX3_word yX3_word, Cond.initialized RX3, Cond.code yX3_word cX3_word 2 (some .int), Cond.fieldLink RX3 30 "ParrotJury$Talk" "firsts" "LParrotJury$Halves;", Cond.fieldLink RX3 34 "ParrotJury$Talk" "lasts" "LParrotJury$Halves;", Cond.methodLink RX3 41 yX0_value, Cond.instanceMethod yX0_value, Cond.selects RX0 yX0_value yX0_value, Cond.initialized RX0, Cond.code yX0_value cX0_value 2 (some .int), Cond.fieldLink RX0 14 "ParrotJury$Halves" "value" "LParrotJury$Row;", Cond.methodLink RX0 26 yX1_at, Cond.instanceMethod yX1_at, Cond.selects RX1 yX1_at yX1_at, Cond.initialized RX1]
def wsX4_sayTheSame_r2 : List Cond := [Cond.code yX1_at cX1_at 2 (some .int), Cond.fieldLink RX1 13 "ParrotJury$Row" "cells" "[I", Cond.methodLink RX4 114 yX4_votesIn, Cond.instanceMethod yX4_votesIn, Cond.selects RX4 yX4_votesIn yX4_votesIn, Cond.initialized RX4, Cond.code yX4_votesIn cX4_votesIn 6 (some .int)]
def wsX4_sayTheSame : List Cond := .code yX4_sayTheSame cX4_sayTheSame 3 (some .boolean) :: ((wsX4_sayTheSame_r1 ++ wsX4_sayTheSame_r2) ++ wsX40 ++ wsX20 ++ wsX30 ++ wsX00 ++ wsX10)
def wsX4_agrees_r1 : List Cond := [Cond.fieldLink RX4 23 "ParrotJury" "would" "LParrotJury$Talk;", Cond.fieldLink RX4 19 "ParrotJury" "now" "LParrotJury$Talk;", Cond.fieldLink RX4 10 "ParrotJury" "seats" "LParrotJury$Seats;", Cond.fieldLink RX4 26 "ParrotJury" "before" "LParrotJury$Talk;", Cond.methodLink RX4 140 yX3_copyFrom, Cond.instanceMethod yX3_copyFrom, Cond.selects RX3 yX3_copyFrom yX3_copyFrom, Cond.initialized RX3, Cond.code yX3_copyFrom cX3_copyFrom 2 none, Cond.fieldLink RX3 9 "ParrotJury$Talk" "round" "I", Cond.fieldLink RX3 15 "ParrotJury$Talk" "taken" "I", Cond.fieldLink RX3 23 "ParrotJury$Talk" "sure" "LParrotJury$Row;", Cond.fieldLink RX3 30 "ParrotJury$Talk" "firsts" "LParrotJury$Halves;", Cond.fieldLink RX3 34 "ParrotJury$Talk" "lasts" "LParrotJury$Halves;", Cond.methodLink RX3 51 yX1_copyFrom, Cond.instanceMethod yX1_copyFrom, Cond.selects RX1 yX1_copyFrom yX1_copyFrom, Cond.initialized RX1, Cond.code yX1_copyFrom cX1_copyFrom 2 none, Cond.fieldLink RX1 13 "ParrotJury$Row" "cells" "[I", Cond.methodLink RX1 19 Lib.Math.min.name, Cond.static Lib.Math.min.name, Cond.initialized "java/lang/Math", Cond.code Lib.Math.min.name Lib.Math.min.code 2 (some .int)]
def wsX4_agrees_r2 : List Cond := [Cond.methodLink RX1 22 arraycopyName, Cond.native arraycopyName, Cond.static arraycopyName, Cond.initialized "java/lang/System", Cond.methodLink RX3 55 yX0_copyFrom, Cond.instanceMethod yX0_copyFrom, Cond.selects RX0 yX0_copyFrom yX0_copyFrom, Cond.initialized RX0, Cond.code yX0_copyFrom cX0_copyFrom 2 none, Cond.fieldLink RX0 14 "ParrotJury$Halves" "value" "LParrotJury$Row;", Cond.fieldLink RX0 20 "ParrotJury$Halves" "from" "LParrotJury$Row;", Cond.fieldLink RX0 23 "ParrotJury$Halves" "over" "LParrotJury$Row;", Cond.methodLink RX0 40 yX1_copyFrom, Cond.methodLink RX4 144 yX4_sayTheSame, Cond.instanceMethod yX4_sayTheSame, Cond.selects RX4 yX4_sayTheSame yX4_sayTheSame, Cond.initialized RX4, Cond.code yX4_sayTheSame cX4_sayTheSame 3 (some .boolean), Cond.methodLink RX4 44 yX2_size, Cond.instanceMethod yX2_size, Cond.selects RX2 yX2_size yX2_size, Cond.initialized RX2, Cond.code yX2_size cX2_size 1 (some .int), Cond.fieldLink RX2 9 "ParrotJury$Seats" "size" "I"]
def wsX4_agrees_r3 : List Cond := [Cond.methodLink RX4 93 yX3_word, Cond.instanceMethod yX3_word, Cond.selects RX3 yX3_word yX3_word, Cond.code yX3_word cX3_word 2 (some .int), Cond.methodLink RX3 41 yX0_value, Cond.instanceMethod yX0_value, Cond.selects RX0 yX0_value yX0_value, Cond.code yX0_value cX0_value 2 (some .int), Cond.methodLink RX0 26 yX1_at, Cond.instanceMethod yX1_at, Cond.selects RX1 yX1_at yX1_at, Cond.code yX1_at cX1_at 2 (some .int), Cond.methodLink RX4 114 yX4_votesIn, Cond.instanceMethod yX4_votesIn, Cond.selects RX4 yX4_votesIn yX4_votesIn, Cond.code yX4_votesIn cX4_votesIn 6 (some .int), Cond.methodLink RX4 136 yX3_goRounds, Cond.instanceMethod yX3_goRounds, Cond.selects RX3 yX3_goRounds yX3_goRounds, Cond.code yX3_goRounds cX3_goRounds 5 none, Cond.methodLink RX3 58 yX3_copyFrom, Cond.methodLink RX3 61 yX3_hearAll, Cond.instanceMethod yX3_hearAll, Cond.selects RX3 yX3_hearAll yX3_hearAll]
def wsX4_agrees_r4 : List Cond := [Cond.code yX3_hearAll cX3_hearAll 6 none, Cond.methodLink RX3 69 yX2_size, Cond.methodLink RX3 75 yX2_heard, Cond.instanceMethod yX2_heard, Cond.selects RX2 yX2_heard yX2_heard, Cond.code yX2_heard cX2_heard 7 (some .int), Cond.fieldLink RX2 27 "ParrotJury$Seats" "listening" "LParrotJury$Row;", Cond.fieldLink RX2 24 "ParrotJury$Seats" "loud" "LParrotJury$Row;", Cond.methodLink RX2 33 yX1_at, Cond.methodLink RX2 41 yX2_other, Cond.instanceMethod yX2_other, Cond.selects RX2 yX2_other yX2_other, Cond.code yX2_other cX2_other 3 (some .int), Cond.fieldLink RX2 30 "ParrotJury$Seats" "others" "LParrotJury$Row;", Cond.methodLink RX3 78 yX3_hear, Cond.instanceMethod yX3_hear, Cond.selects RX3 yX3_hear yX3_hear, Cond.code yX3_hear cX3_hear 6 none, Cond.methodLink RX3 87 Lib.Math.min.name, Cond.methodLink RX3 82 yX3_sure, Cond.instanceMethod yX3_sure, Cond.selects RX3 yX3_sure yX3_sure, Cond.code yX3_sure cX3_sure 2 (some .int), Cond.methodLink RX3 37 yX1_at]
def wsX4_agrees_r5 : List Cond := [Cond.methodLink RX3 84 yX3_word, Cond.methodLink RX3 48 yX1_put, Cond.instanceMethod yX1_put, Cond.selects RX1 yX1_put yX1_put, Cond.code yX1_put cX1_put 3 none, Cond.methodLink RX3 93 yX3_halves, Cond.instanceMethod yX3_halves, Cond.selects RX3 yX3_halves yX3_halves, Cond.code yX3_halves cX3_halves 2 (some (.object "ParrotJury$Halves")), Cond.methodLink RX3 97 yX0_takeFrom, Cond.instanceMethod yX0_takeFrom, Cond.selects RX0 yX0_takeFrom yX0_takeFrom, Cond.code yX0_takeFrom cX0_takeFrom 4 none, Cond.methodLink RX0 34 Lib.Math.min.name, Cond.methodLink RX0 30 yX1_put, Cond.methodLink RX3 65 yX3_forgetAll, Cond.instanceMethod yX3_forgetAll, Cond.selects RX3 yX3_forgetAll yX3_forgetAll, Cond.code yX3_forgetAll cX3_forgetAll 5 none, Cond.methodLink RX3 104 Lib.Math.max.name, Cond.static Lib.Math.max.name, Cond.code Lib.Math.max.name Lib.Math.max.code 2 (some .int), Cond.methodLink RX3 101 yX2_memory, Cond.instanceMethod yX2_memory]
def wsX4_agrees_r6 : List Cond := [Cond.selects RX2 yX2_memory yX2_memory, Cond.code yX2_memory cX2_memory 2 (some .int), Cond.fieldLink RX2 20 "ParrotJury$Seats" "memory" "LParrotJury$Row;"]
def wsX4_agrees : List Cond := .code yX4_agrees cX4_agrees 2 (some .int) :: ((wsX4_agrees_r1 ++ (wsX4_agrees_r2 ++ (wsX4_agrees_r3 ++ (wsX4_agrees_r4 ++ (wsX4_agrees_r5 ++ wsX4_agrees_r6))))) ++ wsX40 ++ wsX30 ++ wsX10 ++ wsX00 ++ wsX20)
def wsX4_foresee_r1 : List Cond := [Cond.fieldLink RX4 23 "ParrotJury" "would" "LParrotJury$Talk;", Cond.fieldLink RX4 19 "ParrotJury" "now" "LParrotJury$Talk;", Cond.fieldLink RX4 10 "ParrotJury" "seats" "LParrotJury$Seats;", Cond.fieldLink RX4 26 "ParrotJury" "before" "LParrotJury$Talk;", Cond.methodLink RX4 130 yX4_needRounds, Cond.static yX4_needRounds, Cond.initialized RX4, Cond.code yX4_needRounds cX4_needRounds 2 none, Cond.classLink RX4 33 "java/lang/IllegalArgumentException", Cond.initialized "java/lang/IllegalArgumentException", Cond.methodLink RX4 29 yX4_isOutside, Cond.static yX4_isOutside, Cond.code yX4_isOutside cX4_isOutside 3 (some .boolean), Cond.methodLink RX4 61 yX4_needParrot, Cond.instanceMethod yX4_needParrot, Cond.selects RX4 yX4_needParrot yX4_needParrot, Cond.code yX4_needParrot cX4_needParrot 2 none, Cond.classLink RX4 106 "java/lang/IndexOutOfBoundsException", Cond.initialized "java/lang/IndexOutOfBoundsException", Cond.methodLink RX4 44 yX2_size, Cond.instanceMethod yX2_size, Cond.selects RX2 yX2_size yX2_size, Cond.initialized RX2, Cond.code yX2_size cX2_size 1 (some .int)]
def wsX4_foresee_r2 : List Cond := [Cond.fieldLink RX2 9 "ParrotJury$Seats" "size" "I", Cond.methodLink RX4 140 yX3_copyFrom, Cond.instanceMethod yX3_copyFrom, Cond.selects RX3 yX3_copyFrom yX3_copyFrom, Cond.initialized RX3, Cond.code yX3_copyFrom cX3_copyFrom 2 none, Cond.fieldLink RX3 9 "ParrotJury$Talk" "round" "I", Cond.fieldLink RX3 15 "ParrotJury$Talk" "taken" "I", Cond.fieldLink RX3 23 "ParrotJury$Talk" "sure" "LParrotJury$Row;", Cond.fieldLink RX3 30 "ParrotJury$Talk" "firsts" "LParrotJury$Halves;", Cond.fieldLink RX3 34 "ParrotJury$Talk" "lasts" "LParrotJury$Halves;", Cond.methodLink RX3 51 yX1_copyFrom, Cond.instanceMethod yX1_copyFrom, Cond.selects RX1 yX1_copyFrom yX1_copyFrom, Cond.initialized RX1, Cond.code yX1_copyFrom cX1_copyFrom 2 none, Cond.fieldLink RX1 13 "ParrotJury$Row" "cells" "[I", Cond.methodLink RX1 19 Lib.Math.min.name, Cond.static Lib.Math.min.name, Cond.initialized "java/lang/Math", Cond.code Lib.Math.min.name Lib.Math.min.code 2 (some .int), Cond.methodLink RX1 22 arraycopyName, Cond.native arraycopyName, Cond.static arraycopyName]
def wsX4_foresee_r3 : List Cond := [Cond.initialized "java/lang/System", Cond.methodLink RX3 55 yX0_copyFrom, Cond.instanceMethod yX0_copyFrom, Cond.selects RX0 yX0_copyFrom yX0_copyFrom, Cond.initialized RX0, Cond.code yX0_copyFrom cX0_copyFrom 2 none, Cond.fieldLink RX0 14 "ParrotJury$Halves" "value" "LParrotJury$Row;", Cond.fieldLink RX0 20 "ParrotJury$Halves" "from" "LParrotJury$Row;", Cond.fieldLink RX0 23 "ParrotJury$Halves" "over" "LParrotJury$Row;", Cond.methodLink RX0 40 yX1_copyFrom, Cond.methodLink RX4 136 yX3_goRounds, Cond.instanceMethod yX3_goRounds, Cond.selects RX3 yX3_goRounds yX3_goRounds, Cond.code yX3_goRounds cX3_goRounds 5 none, Cond.methodLink RX3 58 yX3_copyFrom, Cond.methodLink RX3 61 yX3_hearAll, Cond.instanceMethod yX3_hearAll, Cond.selects RX3 yX3_hearAll yX3_hearAll, Cond.code yX3_hearAll cX3_hearAll 6 none, Cond.methodLink RX3 69 yX2_size, Cond.methodLink RX3 75 yX2_heard, Cond.instanceMethod yX2_heard, Cond.selects RX2 yX2_heard yX2_heard, Cond.code yX2_heard cX2_heard 7 (some .int)]
def wsX4_foresee_r4 : List Cond := [Cond.fieldLink RX2 27 "ParrotJury$Seats" "listening" "LParrotJury$Row;", Cond.fieldLink RX2 24 "ParrotJury$Seats" "loud" "LParrotJury$Row;", Cond.methodLink RX2 33 yX1_at, Cond.instanceMethod yX1_at, Cond.selects RX1 yX1_at yX1_at, Cond.code yX1_at cX1_at 2 (some .int), Cond.methodLink RX2 41 yX2_other, Cond.instanceMethod yX2_other, Cond.selects RX2 yX2_other yX2_other, Cond.code yX2_other cX2_other 3 (some .int), Cond.fieldLink RX2 30 "ParrotJury$Seats" "others" "LParrotJury$Row;", Cond.methodLink RX3 78 yX3_hear, Cond.instanceMethod yX3_hear, Cond.selects RX3 yX3_hear yX3_hear, Cond.code yX3_hear cX3_hear 6 none, Cond.methodLink RX3 87 Lib.Math.min.name, Cond.methodLink RX3 82 yX3_sure, Cond.instanceMethod yX3_sure, Cond.selects RX3 yX3_sure yX3_sure, Cond.code yX3_sure cX3_sure 2 (some .int), Cond.methodLink RX3 37 yX1_at, Cond.methodLink RX3 84 yX3_word, Cond.instanceMethod yX3_word, Cond.selects RX3 yX3_word yX3_word]
def wsX4_foresee_r5 : List Cond := [Cond.code yX3_word cX3_word 2 (some .int), Cond.methodLink RX3 41 yX0_value, Cond.instanceMethod yX0_value, Cond.selects RX0 yX0_value yX0_value, Cond.code yX0_value cX0_value 2 (some .int), Cond.methodLink RX0 26 yX1_at, Cond.methodLink RX3 48 yX1_put, Cond.instanceMethod yX1_put, Cond.selects RX1 yX1_put yX1_put, Cond.code yX1_put cX1_put 3 none, Cond.methodLink RX3 93 yX3_halves, Cond.instanceMethod yX3_halves, Cond.selects RX3 yX3_halves yX3_halves, Cond.code yX3_halves cX3_halves 2 (some (.object "ParrotJury$Halves")), Cond.methodLink RX3 97 yX0_takeFrom, Cond.instanceMethod yX0_takeFrom, Cond.selects RX0 yX0_takeFrom yX0_takeFrom, Cond.code yX0_takeFrom cX0_takeFrom 4 none, Cond.methodLink RX0 34 Lib.Math.min.name, Cond.methodLink RX0 30 yX1_put, Cond.methodLink RX3 65 yX3_forgetAll, Cond.instanceMethod yX3_forgetAll, Cond.selects RX3 yX3_forgetAll yX3_forgetAll, Cond.code yX3_forgetAll cX3_forgetAll 5 none]
def wsX4_foresee_r6 : List Cond := [Cond.methodLink RX3 104 Lib.Math.max.name, Cond.static Lib.Math.max.name, Cond.code Lib.Math.max.name Lib.Math.max.code 2 (some .int), Cond.methodLink RX3 101 yX2_memory, Cond.instanceMethod yX2_memory, Cond.selects RX2 yX2_memory yX2_memory, Cond.code yX2_memory cX2_memory 2 (some .int), Cond.fieldLink RX2 20 "ParrotJury$Seats" "memory" "LParrotJury$Row;", Cond.methodLink RX4 93 yX3_word]
def wsX4_foresee : List Cond := .code yX4_foresee cX4_foresee 3 (some .int) :: ((wsX4_foresee_r1 ++ (wsX4_foresee_r2 ++ (wsX4_foresee_r3 ++ (wsX4_foresee_r4 ++ (wsX4_foresee_r5 ++ wsX4_foresee_r6))))) ++ wsX40 ++ wsX20 ++ wsX30 ++ wsX10 ++ wsX00 ++ (vx_atS RX4 37 "java/lang/IllegalArgumentException" ["java/lang/RuntimeException", "java/lang/Exception"]).filter goodWord ++ (vx_atS RX4 110 "java/lang/IndexOutOfBoundsException" ["java/lang/RuntimeException", "java/lang/Exception"]).filter goodWord)
def wsX4_votesIfWhispered_r1 : List Cond := [Cond.fieldLink RX4 23 "ParrotJury" "would" "LParrotJury$Talk;", Cond.fieldLink RX4 19 "ParrotJury" "now" "LParrotJury$Talk;", Cond.fieldLink RX4 10 "ParrotJury" "seats" "LParrotJury$Seats;", Cond.fieldLink RX4 26 "ParrotJury" "before" "LParrotJury$Talk;", Cond.methodLink RX4 140 yX3_copyFrom, Cond.instanceMethod yX3_copyFrom, Cond.selects RX3 yX3_copyFrom yX3_copyFrom, Cond.initialized RX3, Cond.code yX3_copyFrom cX3_copyFrom 2 none, Cond.fieldLink RX3 9 "ParrotJury$Talk" "round" "I", Cond.fieldLink RX3 15 "ParrotJury$Talk" "taken" "I", Cond.fieldLink RX3 23 "ParrotJury$Talk" "sure" "LParrotJury$Row;", Cond.fieldLink RX3 30 "ParrotJury$Talk" "firsts" "LParrotJury$Halves;", Cond.fieldLink RX3 34 "ParrotJury$Talk" "lasts" "LParrotJury$Halves;", Cond.methodLink RX3 51 yX1_copyFrom, Cond.instanceMethod yX1_copyFrom, Cond.selects RX1 yX1_copyFrom yX1_copyFrom, Cond.initialized RX1, Cond.code yX1_copyFrom cX1_copyFrom 2 none, Cond.fieldLink RX1 13 "ParrotJury$Row" "cells" "[I", Cond.methodLink RX1 19 Lib.Math.min.name, Cond.static Lib.Math.min.name, Cond.initialized "java/lang/Math", Cond.code Lib.Math.min.name Lib.Math.min.code 2 (some .int)]
def wsX4_votesIfWhispered_r2 : List Cond := [Cond.methodLink RX1 22 arraycopyName, Cond.native arraycopyName, Cond.static arraycopyName, Cond.initialized "java/lang/System", Cond.methodLink RX3 55 yX0_copyFrom, Cond.instanceMethod yX0_copyFrom, Cond.selects RX0 yX0_copyFrom yX0_copyFrom, Cond.initialized RX0, Cond.code yX0_copyFrom cX0_copyFrom 2 none, Cond.fieldLink RX0 14 "ParrotJury$Halves" "value" "LParrotJury$Row;", Cond.fieldLink RX0 20 "ParrotJury$Halves" "from" "LParrotJury$Row;", Cond.fieldLink RX0 23 "ParrotJury$Halves" "over" "LParrotJury$Row;", Cond.methodLink RX0 40 yX1_copyFrom, Cond.methodLink RX4 57 yX3_takeFromCourt, Cond.instanceMethod yX3_takeFromCourt, Cond.selects RX3 yX3_takeFromCourt yX3_takeFromCourt, Cond.code yX3_takeFromCourt cX3_takeFromCourt 4 none, Cond.methodLink RX3 44 yX0_takeFromCourt, Cond.instanceMethod yX0_takeFromCourt, Cond.selects RX0 yX0_takeFromCourt yX0_takeFromCourt, Cond.code yX0_takeFromCourt cX0_takeFromCourt 3 none, Cond.methodLink RX0 30 yX1_put, Cond.instanceMethod yX1_put, Cond.selects RX1 yX1_put yX1_put]
def wsX4_votesIfWhispered_r3 : List Cond := [Cond.code yX1_put cX1_put 3 none, Cond.methodLink RX3 48 yX1_put, Cond.methodLink RX4 136 yX3_goRounds, Cond.instanceMethod yX3_goRounds, Cond.selects RX3 yX3_goRounds yX3_goRounds, Cond.code yX3_goRounds cX3_goRounds 5 none, Cond.methodLink RX3 58 yX3_copyFrom, Cond.methodLink RX3 61 yX3_hearAll, Cond.instanceMethod yX3_hearAll, Cond.selects RX3 yX3_hearAll yX3_hearAll, Cond.code yX3_hearAll cX3_hearAll 6 none, Cond.methodLink RX3 69 yX2_size, Cond.instanceMethod yX2_size, Cond.selects RX2 yX2_size yX2_size, Cond.initialized RX2, Cond.code yX2_size cX2_size 1 (some .int), Cond.fieldLink RX2 9 "ParrotJury$Seats" "size" "I", Cond.methodLink RX3 75 yX2_heard, Cond.instanceMethod yX2_heard, Cond.selects RX2 yX2_heard yX2_heard, Cond.code yX2_heard cX2_heard 7 (some .int), Cond.fieldLink RX2 27 "ParrotJury$Seats" "listening" "LParrotJury$Row;", Cond.fieldLink RX2 24 "ParrotJury$Seats" "loud" "LParrotJury$Row;", Cond.methodLink RX2 33 yX1_at]
def wsX4_votesIfWhispered_r4 : List Cond := [Cond.instanceMethod yX1_at, Cond.selects RX1 yX1_at yX1_at, Cond.code yX1_at cX1_at 2 (some .int), Cond.methodLink RX2 41 yX2_other, Cond.instanceMethod yX2_other, Cond.selects RX2 yX2_other yX2_other, Cond.code yX2_other cX2_other 3 (some .int), Cond.fieldLink RX2 30 "ParrotJury$Seats" "others" "LParrotJury$Row;", Cond.methodLink RX3 78 yX3_hear, Cond.instanceMethod yX3_hear, Cond.selects RX3 yX3_hear yX3_hear, Cond.code yX3_hear cX3_hear 6 none, Cond.methodLink RX3 87 Lib.Math.min.name, Cond.methodLink RX3 82 yX3_sure, Cond.instanceMethod yX3_sure, Cond.selects RX3 yX3_sure yX3_sure, Cond.code yX3_sure cX3_sure 2 (some .int), Cond.methodLink RX3 37 yX1_at, Cond.methodLink RX3 84 yX3_word, Cond.instanceMethod yX3_word, Cond.selects RX3 yX3_word yX3_word, Cond.code yX3_word cX3_word 2 (some .int), Cond.methodLink RX3 41 yX0_value, Cond.instanceMethod yX0_value]
def wsX4_votesIfWhispered_r5 : List Cond := [Cond.selects RX0 yX0_value yX0_value, Cond.code yX0_value cX0_value 2 (some .int), Cond.methodLink RX0 26 yX1_at, Cond.methodLink RX3 93 yX3_halves, Cond.instanceMethod yX3_halves, Cond.selects RX3 yX3_halves yX3_halves, Cond.code yX3_halves cX3_halves 2 (some (.object "ParrotJury$Halves")), Cond.methodLink RX3 97 yX0_takeFrom, Cond.instanceMethod yX0_takeFrom, Cond.selects RX0 yX0_takeFrom yX0_takeFrom, Cond.code yX0_takeFrom cX0_takeFrom 4 none, Cond.methodLink RX0 34 Lib.Math.min.name, Cond.methodLink RX3 65 yX3_forgetAll, Cond.instanceMethod yX3_forgetAll, Cond.selects RX3 yX3_forgetAll yX3_forgetAll, Cond.code yX3_forgetAll cX3_forgetAll 5 none, Cond.methodLink RX3 104 Lib.Math.max.name, Cond.static Lib.Math.max.name, Cond.code Lib.Math.max.name Lib.Math.max.code 2 (some .int), Cond.methodLink RX3 101 yX2_memory, Cond.instanceMethod yX2_memory, Cond.selects RX2 yX2_memory yX2_memory, Cond.code yX2_memory cX2_memory 2 (some .int), Cond.fieldLink RX2 20 "ParrotJury$Seats" "memory" "LParrotJury$Row;"]
def wsX4_votesIfWhispered_r6 : List Cond := [Cond.methodLink RX4 114 yX4_votesIn, Cond.instanceMethod yX4_votesIn, Cond.selects RX4 yX4_votesIn yX4_votesIn, Cond.initialized RX4, Cond.code yX4_votesIn cX4_votesIn 6 (some .int), Cond.methodLink RX4 44 yX2_size, Cond.methodLink RX4 93 yX3_word]
def wsX4_votesIfWhispered : List Cond := .code yX4_votesIfWhispered cX4_votesIfWhispered 4 (some .int) :: ((wsX4_votesIfWhispered_r1 ++ (wsX4_votesIfWhispered_r2 ++ (wsX4_votesIfWhispered_r3 ++ (wsX4_votesIfWhispered_r4 ++ (wsX4_votesIfWhispered_r5 ++ wsX4_votesIfWhispered_r6))))) ++ wsX40 ++ wsX30 ++ wsX10 ++ wsX00 ++ wsX20)
def wsX4_advise_r1 : List Cond := [Cond.fieldLink RX4 10 "ParrotJury" "seats" "LParrotJury$Seats;", Cond.methodLink RX4 88 yX4_needWord, Cond.static yX4_needWord, Cond.initialized RX4, Cond.code yX4_needWord cX4_needWord 1 none, Cond.classLink RX4 33 "java/lang/IllegalArgumentException", Cond.initialized "java/lang/IllegalArgumentException", Cond.methodLink RX4 29 yX4_isOutside, Cond.static yX4_isOutside, Cond.code yX4_isOutside cX4_isOutside 3 (some .boolean), Cond.methodLink RX4 130 yX4_needRounds, Cond.static yX4_needRounds, Cond.code yX4_needRounds cX4_needRounds 2 none, Cond.methodLink RX4 44 yX2_size, Cond.instanceMethod yX2_size, Cond.selects RX2 yX2_size yX2_size, Cond.initialized RX2, Cond.code yX2_size cX2_size 1 (some .int), Cond.fieldLink RX2 9 "ParrotJury$Seats" "size" "I", Cond.methodLink RX4 148 yX4_votesIfWhispered, Cond.instanceMethod yX4_votesIfWhispered, Cond.selects RX4 yX4_votesIfWhispered yX4_votesIfWhispered, Cond.code yX4_votesIfWhispered cX4_votesIfWhispered 4 (some .int), Cond.fieldLink RX4 23 "ParrotJury" "would" "LParrotJury$Talk;"]
def wsX4_advise_r2 : List Cond := [Cond.fieldLink RX4 19 "ParrotJury" "now" "LParrotJury$Talk;", Cond.fieldLink RX4 26 "ParrotJury" "before" "LParrotJury$Talk;", Cond.methodLink RX4 140 yX3_copyFrom, Cond.instanceMethod yX3_copyFrom, Cond.selects RX3 yX3_copyFrom yX3_copyFrom, Cond.initialized RX3, Cond.code yX3_copyFrom cX3_copyFrom 2 none, Cond.fieldLink RX3 9 "ParrotJury$Talk" "round" "I", Cond.fieldLink RX3 15 "ParrotJury$Talk" "taken" "I", Cond.fieldLink RX3 23 "ParrotJury$Talk" "sure" "LParrotJury$Row;", Cond.fieldLink RX3 30 "ParrotJury$Talk" "firsts" "LParrotJury$Halves;", Cond.fieldLink RX3 34 "ParrotJury$Talk" "lasts" "LParrotJury$Halves;", Cond.methodLink RX3 51 yX1_copyFrom, Cond.instanceMethod yX1_copyFrom, Cond.selects RX1 yX1_copyFrom yX1_copyFrom, Cond.initialized RX1, Cond.code yX1_copyFrom cX1_copyFrom 2 none, Cond.fieldLink RX1 13 "ParrotJury$Row" "cells" "[I", Cond.methodLink RX1 19 Lib.Math.min.name, Cond.static Lib.Math.min.name, Cond.initialized "java/lang/Math", Cond.code Lib.Math.min.name Lib.Math.min.code 2 (some .int), Cond.methodLink RX1 22 arraycopyName, Cond.native arraycopyName]
def wsX4_advise_r3 : List Cond := [Cond.static arraycopyName, Cond.initialized "java/lang/System", Cond.methodLink RX3 55 yX0_copyFrom, Cond.instanceMethod yX0_copyFrom, Cond.selects RX0 yX0_copyFrom yX0_copyFrom, Cond.initialized RX0, Cond.code yX0_copyFrom cX0_copyFrom 2 none, Cond.fieldLink RX0 14 "ParrotJury$Halves" "value" "LParrotJury$Row;", Cond.fieldLink RX0 20 "ParrotJury$Halves" "from" "LParrotJury$Row;", Cond.fieldLink RX0 23 "ParrotJury$Halves" "over" "LParrotJury$Row;", Cond.methodLink RX0 40 yX1_copyFrom, Cond.methodLink RX4 57 yX3_takeFromCourt, Cond.instanceMethod yX3_takeFromCourt, Cond.selects RX3 yX3_takeFromCourt yX3_takeFromCourt, Cond.code yX3_takeFromCourt cX3_takeFromCourt 4 none, Cond.methodLink RX3 44 yX0_takeFromCourt, Cond.instanceMethod yX0_takeFromCourt, Cond.selects RX0 yX0_takeFromCourt yX0_takeFromCourt, Cond.code yX0_takeFromCourt cX0_takeFromCourt 3 none, Cond.methodLink RX0 30 yX1_put, Cond.instanceMethod yX1_put, Cond.selects RX1 yX1_put yX1_put, Cond.code yX1_put cX1_put 3 none, Cond.methodLink RX3 48 yX1_put]
def wsX4_advise_r4 : List Cond := [Cond.methodLink RX4 136 yX3_goRounds, Cond.instanceMethod yX3_goRounds, Cond.selects RX3 yX3_goRounds yX3_goRounds, Cond.code yX3_goRounds cX3_goRounds 5 none, Cond.methodLink RX3 58 yX3_copyFrom, Cond.methodLink RX3 61 yX3_hearAll, Cond.instanceMethod yX3_hearAll, Cond.selects RX3 yX3_hearAll yX3_hearAll, Cond.code yX3_hearAll cX3_hearAll 6 none, Cond.methodLink RX3 69 yX2_size, Cond.methodLink RX3 75 yX2_heard, Cond.instanceMethod yX2_heard, Cond.selects RX2 yX2_heard yX2_heard, Cond.code yX2_heard cX2_heard 7 (some .int), Cond.fieldLink RX2 27 "ParrotJury$Seats" "listening" "LParrotJury$Row;", Cond.fieldLink RX2 24 "ParrotJury$Seats" "loud" "LParrotJury$Row;", Cond.methodLink RX2 33 yX1_at, Cond.instanceMethod yX1_at, Cond.selects RX1 yX1_at yX1_at, Cond.code yX1_at cX1_at 2 (some .int), Cond.methodLink RX2 41 yX2_other, Cond.instanceMethod yX2_other, Cond.selects RX2 yX2_other yX2_other, Cond.code yX2_other cX2_other 3 (some .int)]
def wsX4_advise_r5 : List Cond := [Cond.fieldLink RX2 30 "ParrotJury$Seats" "others" "LParrotJury$Row;", Cond.methodLink RX3 78 yX3_hear, Cond.instanceMethod yX3_hear, Cond.selects RX3 yX3_hear yX3_hear, Cond.code yX3_hear cX3_hear 6 none, Cond.methodLink RX3 87 Lib.Math.min.name, Cond.methodLink RX3 82 yX3_sure, Cond.instanceMethod yX3_sure, Cond.selects RX3 yX3_sure yX3_sure, Cond.code yX3_sure cX3_sure 2 (some .int), Cond.methodLink RX3 37 yX1_at, Cond.methodLink RX3 84 yX3_word, Cond.instanceMethod yX3_word, Cond.selects RX3 yX3_word yX3_word, Cond.code yX3_word cX3_word 2 (some .int), Cond.methodLink RX3 41 yX0_value, Cond.instanceMethod yX0_value, Cond.selects RX0 yX0_value yX0_value, Cond.code yX0_value cX0_value 2 (some .int), Cond.methodLink RX0 26 yX1_at, Cond.methodLink RX3 93 yX3_halves, Cond.instanceMethod yX3_halves, Cond.selects RX3 yX3_halves yX3_halves, Cond.code yX3_halves cX3_halves 2 (some (.object "ParrotJury$Halves"))]
def wsX4_advise_r6 : List Cond := [Cond.methodLink RX3 97 yX0_takeFrom, Cond.instanceMethod yX0_takeFrom, Cond.selects RX0 yX0_takeFrom yX0_takeFrom, Cond.code yX0_takeFrom cX0_takeFrom 4 none, Cond.methodLink RX0 34 Lib.Math.min.name, Cond.methodLink RX3 65 yX3_forgetAll, Cond.instanceMethod yX3_forgetAll, Cond.selects RX3 yX3_forgetAll yX3_forgetAll, Cond.code yX3_forgetAll cX3_forgetAll 5 none, Cond.methodLink RX3 104 Lib.Math.max.name, Cond.static Lib.Math.max.name, Cond.code Lib.Math.max.name Lib.Math.max.code 2 (some .int), Cond.methodLink RX3 101 yX2_memory, Cond.instanceMethod yX2_memory, Cond.selects RX2 yX2_memory yX2_memory, Cond.code yX2_memory cX2_memory 2 (some .int), Cond.fieldLink RX2 20 "ParrotJury$Seats" "memory" "LParrotJury$Row;", Cond.methodLink RX4 114 yX4_votesIn, Cond.instanceMethod yX4_votesIn, Cond.selects RX4 yX4_votesIn yX4_votesIn, Cond.code yX4_votesIn cX4_votesIn 6 (some .int), Cond.methodLink RX4 93 yX3_word]
def wsX4_advise : List Cond := .code yX4_advise cX4_advise 8 (some .int) :: ((wsX4_advise_r1 ++ (wsX4_advise_r2 ++ (wsX4_advise_r3 ++ (wsX4_advise_r4 ++ (wsX4_advise_r5 ++ wsX4_advise_r6))))) ++ wsX40 ++ wsX20 ++ wsX30 ++ wsX10 ++ wsX00 ++ (vx_atS RX4 37 "java/lang/IllegalArgumentException" ["java/lang/RuntimeException", "java/lang/Exception"]).filter goodWord)
def wsX4_source_r1 : List Cond := [Cond.fieldLink RX4 10 "ParrotJury" "seats" "LParrotJury$Seats;", Cond.methodLink RX4 61 yX4_needParrot, Cond.instanceMethod yX4_needParrot, Cond.selects RX4 yX4_needParrot yX4_needParrot, Cond.initialized RX4, Cond.code yX4_needParrot cX4_needParrot 2 none, Cond.classLink RX4 106 "java/lang/IndexOutOfBoundsException", Cond.initialized "java/lang/IndexOutOfBoundsException", Cond.methodLink RX4 44 yX2_size, Cond.instanceMethod yX2_size, Cond.selects RX2 yX2_size yX2_size, Cond.initialized RX2, Cond.code yX2_size cX2_size 1 (some .int), Cond.fieldLink RX2 9 "ParrotJury$Seats" "size" "I", Cond.methodLink RX4 152 yX2_othersAsSet, Cond.instanceMethod yX2_othersAsSet, Cond.selects RX2 yX2_othersAsSet yX2_othersAsSet, Cond.code yX2_othersAsSet cX2_othersAsSet 5 (some .int), Cond.fieldLink RX2 27 "ParrotJury$Seats" "listening" "LParrotJury$Row;", Cond.methodLink RX2 33 yX1_at, Cond.instanceMethod yX1_at, Cond.selects RX1 yX1_at yX1_at, Cond.initialized RX1, Cond.code yX1_at cX1_at 2 (some .int)]
def wsX4_source_r2 : List Cond := [Cond.fieldLink RX1 13 "ParrotJury$Row" "cells" "[I", Cond.methodLink RX2 41 yX2_other, Cond.instanceMethod yX2_other, Cond.selects RX2 yX2_other yX2_other, Cond.code yX2_other cX2_other 3 (some .int), Cond.fieldLink RX2 30 "ParrotJury$Seats" "others" "LParrotJury$Row;", Cond.methodLink RX4 155 yX2_othersOfAll, Cond.instanceMethod yX2_othersOfAll, Cond.selects RX2 yX2_othersOfAll yX2_othersOfAll, Cond.code yX2_othersOfAll cX2_othersOfAll 4 (some .int), Cond.methodLink RX2 48 yX2_othersAsSet]
def wsX4_source : List Cond := .code yX4_source cX4_source 4 (some .int) :: ((wsX4_source_r1 ++ wsX4_source_r2) ++ wsX40 ++ wsX20 ++ wsX10 ++ (vx_atS RX4 110 "java/lang/IndexOutOfBoundsException" ["java/lang/RuntimeException", "java/lang/Exception"]).filter goodWord)
def wsX4_mean_r1 : List Cond := [Cond.fieldLink RX4 10 "ParrotJury" "seats" "LParrotJury$Seats;", Cond.methodLink RX4 44 yX2_size, Cond.instanceMethod yX2_size, Cond.selects RX2 yX2_size yX2_size, Cond.initialized RX2, Cond.code yX2_size cX2_size 1 (some .int), Cond.fieldLink RX2 9 "ParrotJury$Seats" "size" "I", Cond.methodLink RX4 158 yX4_sureOfAll, Cond.instanceMethod yX4_sureOfAll, Cond.selects RX4 yX4_sureOfAll yX4_sureOfAll, Cond.initialized RX4, Cond.code yX4_sureOfAll cX4_sureOfAll 4 (some .int), Cond.fieldLink RX4 19 "ParrotJury" "now" "LParrotJury$Talk;", Cond.methodLink RX4 180 yX3_sure, Cond.instanceMethod yX3_sure, Cond.selects RX3 yX3_sure yX3_sure, Cond.initialized RX3, Cond.code yX3_sure cX3_sure 2 (some .int), Cond.fieldLink RX3 23 "ParrotJury$Talk" "sure" "LParrotJury$Row;", Cond.methodLink RX3 37 yX1_at, Cond.instanceMethod yX1_at, Cond.selects RX1 yX1_at yX1_at, Cond.initialized RX1, Cond.code yX1_at cX1_at 2 (some .int)]
def wsX4_mean_r2 : List Cond := [Cond.fieldLink RX1 13 "ParrotJury$Row" "cells" "[I"]
def wsX4_mean : List Cond := .code yX4_mean cX4_mean 2 (some .double) :: ((wsX4_mean_r1 ++ wsX4_mean_r2) ++ wsX40 ++ wsX20 ++ wsX30 ++ wsX10)
def wsX4_mix : List Cond := .code yX4_mix cX4_mix 3 (some .long) :: ([.constantLong RX4 211 (31)])
def wsX4_mixParrot_r1 : List Cond := [Cond.fieldLink RX4 10 "ParrotJury" "seats" "LParrotJury$Seats;", Cond.methodLink RX4 99 yX4_tellOfParrot, Cond.instanceMethod yX4_tellOfParrot, Cond.selects RX4 yX4_tellOfParrot yX4_tellOfParrot, Cond.initialized RX4, Cond.code yX4_tellOfParrot cX4_tellOfParrot 3 (some .int), Cond.fieldLink RX4 19 "ParrotJury" "now" "LParrotJury$Talk;", Cond.methodLink RX4 93 yX3_word, Cond.instanceMethod yX3_word, Cond.selects RX3 yX3_word yX3_word, Cond.initialized RX3, Cond.code yX3_word cX3_word 2 (some .int), Cond.fieldLink RX3 30 "ParrotJury$Talk" "firsts" "LParrotJury$Halves;", Cond.fieldLink RX3 34 "ParrotJury$Talk" "lasts" "LParrotJury$Halves;", Cond.methodLink RX3 41 yX0_value, Cond.instanceMethod yX0_value, Cond.selects RX0 yX0_value yX0_value, Cond.initialized RX0, Cond.code yX0_value cX0_value 2 (some .int), Cond.fieldLink RX0 14 "ParrotJury$Halves" "value" "LParrotJury$Row;", Cond.methodLink RX0 26 yX1_at, Cond.instanceMethod yX1_at, Cond.selects RX1 yX1_at yX1_at, Cond.initialized RX1]
def wsX4_mixParrot_r2 : List Cond := [Cond.code yX1_at cX1_at 2 (some .int), Cond.fieldLink RX1 13 "ParrotJury$Row" "cells" "[I", Cond.methodLink RX4 180 yX3_sure, Cond.instanceMethod yX3_sure, Cond.selects RX3 yX3_sure yX3_sure, Cond.code yX3_sure cX3_sure 2 (some .int), Cond.fieldLink RX3 23 "ParrotJury$Talk" "sure" "LParrotJury$Row;", Cond.methodLink RX3 37 yX1_at, Cond.methodLink RX4 183 yX2_memory, Cond.instanceMethod yX2_memory, Cond.selects RX2 yX2_memory yX2_memory, Cond.initialized RX2, Cond.code yX2_memory cX2_memory 2 (some .int), Cond.fieldLink RX2 20 "ParrotJury$Seats" "memory" "LParrotJury$Row;", Cond.methodLink RX2 33 yX1_at, Cond.methodLink RX4 82 yX2_loud, Cond.instanceMethod yX2_loud, Cond.selects RX2 yX2_loud yX2_loud, Cond.code yX2_loud cX2_loud 2 (some .int), Cond.fieldLink RX2 24 "ParrotJury$Seats" "loud" "LParrotJury$Row;", Cond.methodLink RX4 73 yX2_listening, Cond.instanceMethod yX2_listening, Cond.selects RX2 yX2_listening yX2_listening, Cond.code yX2_listening cX2_listening 2 (some .int)]
def wsX4_mixParrot_r3 : List Cond := [Cond.fieldLink RX2 27 "ParrotJury$Seats" "listening" "LParrotJury$Row;", Cond.methodLink RX4 186 yX2_listeners, Cond.instanceMethod yX2_listeners, Cond.selects RX2 yX2_listeners yX2_listeners, Cond.code yX2_listeners cX2_listeners 4 (some .int), Cond.fieldLink RX2 9 "ParrotJury$Seats" "size" "I", Cond.methodLink RX2 45 yX2_placeOf, Cond.instanceMethod yX2_placeOf, Cond.selects RX2 yX2_placeOf yX2_placeOf, Cond.code yX2_placeOf cX2_placeOf 5 (some .int), Cond.methodLink RX2 41 yX2_other, Cond.instanceMethod yX2_other, Cond.selects RX2 yX2_other yX2_other, Cond.code yX2_other cX2_other 3 (some .int), Cond.fieldLink RX2 30 "ParrotJury$Seats" "others" "LParrotJury$Row;", Cond.methodLink RX4 189 yX2_heard, Cond.instanceMethod yX2_heard, Cond.selects RX2 yX2_heard yX2_heard, Cond.code yX2_heard cX2_heard 7 (some .int), Cond.methodLink RX4 163 yX4_mix, Cond.static yX4_mix, Cond.code yX4_mix cX4_mix 3 (some .long), Cond.constantLong RX4 211 (31), Cond.methodLink RX4 102 yX4_tellOfHalf]
def wsX4_mixParrot_r4 : List Cond := [Cond.instanceMethod yX4_tellOfHalf, Cond.selects RX4 yX4_tellOfHalf yX4_tellOfHalf, Cond.code yX4_tellOfHalf cX4_tellOfHalf 5 (some .int), Cond.methodLink RX4 118 yX3_halves, Cond.instanceMethod yX3_halves, Cond.selects RX3 yX3_halves yX3_halves, Cond.code yX3_halves cX3_halves 2 (some (.object "ParrotJury$Halves")), Cond.methodLink RX4 122 yX0_value, Cond.methodLink RX4 192 yX0_from, Cond.instanceMethod yX0_from, Cond.selects RX0 yX0_from yX0_from, Cond.code yX0_from cX0_from 2 (some .int), Cond.fieldLink RX0 20 "ParrotJury$Halves" "from" "LParrotJury$Row;", Cond.methodLink RX4 195 yX0_over, Cond.instanceMethod yX0_over, Cond.selects RX0 yX0_over yX0_over, Cond.code yX0_over cX0_over 2 (some .int), Cond.fieldLink RX0 23 "ParrotJury$Halves" "over" "LParrotJury$Row;", Cond.methodLink RX4 111 yX2_other]
def wsX4_mixParrot : List Cond := .code yX4_mixParrot cX4_mixParrot 8 (some .long) :: ((wsX4_mixParrot_r1 ++ (wsX4_mixParrot_r2 ++ (wsX4_mixParrot_r3 ++ wsX4_mixParrot_r4))) ++ wsX40 ++ wsX30 ++ wsX00 ++ wsX10 ++ wsX20)
def wsX4_digest_r1 : List Cond := [Cond.constantLong RX4 161 (911), Cond.fieldLink RX4 10 "ParrotJury" "seats" "LParrotJury$Seats;", Cond.methodLink RX4 127 yX4_tellOfJury, Cond.instanceMethod yX4_tellOfJury, Cond.selects RX4 yX4_tellOfJury yX4_tellOfJury, Cond.initialized RX4, Cond.code yX4_tellOfJury cX4_tellOfJury 2 (some .int), Cond.fieldLink RX4 19 "ParrotJury" "now" "LParrotJury$Talk;", Cond.methodLink RX4 198 yX3_round, Cond.instanceMethod yX3_round, Cond.selects RX3 yX3_round yX3_round, Cond.initialized RX3, Cond.code yX3_round cX3_round 1 (some .int), Cond.fieldLink RX3 9 "ParrotJury$Talk" "round" "I", Cond.methodLink RX4 44 yX2_size, Cond.instanceMethod yX2_size, Cond.selects RX2 yX2_size yX2_size, Cond.initialized RX2, Cond.code yX2_size cX2_size 1 (some .int), Cond.fieldLink RX2 9 "ParrotJury$Seats" "size" "I", Cond.methodLink RX4 201 yX4_differentWords, Cond.instanceMethod yX4_differentWords, Cond.selects RX4 yX4_differentWords yX4_differentWords, Cond.code yX4_differentWords cX4_differentWords 4 (some .int)]
def wsX4_digest_r2 : List Cond := [Cond.methodLink RX4 207 yX4_isFirstWithItsWord, Cond.instanceMethod yX4_isFirstWithItsWord, Cond.selects RX4 yX4_isFirstWithItsWord yX4_isFirstWithItsWord, Cond.code yX4_isFirstWithItsWord cX4_isFirstWithItsWord 4 (some .boolean), Cond.methodLink RX4 93 yX3_word, Cond.instanceMethod yX3_word, Cond.selects RX3 yX3_word yX3_word, Cond.code yX3_word cX3_word 2 (some .int), Cond.fieldLink RX3 30 "ParrotJury$Talk" "firsts" "LParrotJury$Halves;", Cond.fieldLink RX3 34 "ParrotJury$Talk" "lasts" "LParrotJury$Halves;", Cond.methodLink RX3 41 yX0_value, Cond.instanceMethod yX0_value, Cond.selects RX0 yX0_value yX0_value, Cond.initialized RX0, Cond.code yX0_value cX0_value 2 (some .int), Cond.fieldLink RX0 14 "ParrotJury$Halves" "value" "LParrotJury$Row;", Cond.methodLink RX0 26 yX1_at, Cond.instanceMethod yX1_at, Cond.selects RX1 yX1_at yX1_at, Cond.initialized RX1, Cond.code yX1_at cX1_at 2 (some .int), Cond.fieldLink RX1 13 "ParrotJury$Row" "cells" "[I", Cond.methodLink RX4 204 yX4_halvesFromCourt, Cond.instanceMethod yX4_halvesFromCourt]
def wsX4_digest_r3 : List Cond := [Cond.selects RX4 yX4_halvesFromCourt yX4_halvesFromCourt, Cond.code yX4_halvesFromCourt cX4_halvesFromCourt 4 (some .int), Cond.methodLink RX4 118 yX3_halves, Cond.instanceMethod yX3_halves, Cond.selects RX3 yX3_halves yX3_halves, Cond.code yX3_halves cX3_halves 2 (some (.object "ParrotJury$Halves")), Cond.methodLink RX4 192 yX0_from, Cond.instanceMethod yX0_from, Cond.selects RX0 yX0_from yX0_from, Cond.code yX0_from cX0_from 2 (some .int), Cond.fieldLink RX0 20 "ParrotJury$Halves" "from" "LParrotJury$Row;", Cond.methodLink RX4 158 yX4_sureOfAll, Cond.instanceMethod yX4_sureOfAll, Cond.selects RX4 yX4_sureOfAll yX4_sureOfAll, Cond.code yX4_sureOfAll cX4_sureOfAll 4 (some .int), Cond.methodLink RX4 180 yX3_sure, Cond.instanceMethod yX3_sure, Cond.selects RX3 yX3_sure yX3_sure, Cond.code yX3_sure cX3_sure 2 (some .int), Cond.fieldLink RX3 23 "ParrotJury$Talk" "sure" "LParrotJury$Row;", Cond.methodLink RX3 37 yX1_at, Cond.methodLink RX4 133 yX3_taken, Cond.instanceMethod yX3_taken, Cond.selects RX3 yX3_taken yX3_taken]
def wsX4_digest_r4 : List Cond := [Cond.code yX3_taken cX3_taken 1 (some .int), Cond.fieldLink RX3 15 "ParrotJury$Talk" "taken" "I", Cond.methodLink RX4 163 yX4_mix, Cond.static yX4_mix, Cond.code yX4_mix cX4_mix 3 (some .long), Cond.constantLong RX4 211 (31), Cond.methodLink RX4 167 yX4_mixParrot, Cond.instanceMethod yX4_mixParrot, Cond.selects RX4 yX4_mixParrot yX4_mixParrot, Cond.code yX4_mixParrot cX4_mixParrot 8 (some .long), Cond.methodLink RX4 99 yX4_tellOfParrot, Cond.instanceMethod yX4_tellOfParrot, Cond.selects RX4 yX4_tellOfParrot yX4_tellOfParrot, Cond.code yX4_tellOfParrot cX4_tellOfParrot 3 (some .int), Cond.methodLink RX4 183 yX2_memory, Cond.instanceMethod yX2_memory, Cond.selects RX2 yX2_memory yX2_memory, Cond.code yX2_memory cX2_memory 2 (some .int), Cond.fieldLink RX2 20 "ParrotJury$Seats" "memory" "LParrotJury$Row;", Cond.methodLink RX2 33 yX1_at, Cond.methodLink RX4 82 yX2_loud, Cond.instanceMethod yX2_loud, Cond.selects RX2 yX2_loud yX2_loud, Cond.code yX2_loud cX2_loud 2 (some .int)]
def wsX4_digest_r5 : List Cond := [Cond.fieldLink RX2 24 "ParrotJury$Seats" "loud" "LParrotJury$Row;", Cond.methodLink RX4 73 yX2_listening, Cond.instanceMethod yX2_listening, Cond.selects RX2 yX2_listening yX2_listening, Cond.code yX2_listening cX2_listening 2 (some .int), Cond.fieldLink RX2 27 "ParrotJury$Seats" "listening" "LParrotJury$Row;", Cond.methodLink RX4 186 yX2_listeners, Cond.instanceMethod yX2_listeners, Cond.selects RX2 yX2_listeners yX2_listeners, Cond.code yX2_listeners cX2_listeners 4 (some .int), Cond.methodLink RX2 45 yX2_placeOf, Cond.instanceMethod yX2_placeOf, Cond.selects RX2 yX2_placeOf yX2_placeOf, Cond.code yX2_placeOf cX2_placeOf 5 (some .int), Cond.methodLink RX2 41 yX2_other, Cond.instanceMethod yX2_other, Cond.selects RX2 yX2_other yX2_other, Cond.code yX2_other cX2_other 3 (some .int), Cond.fieldLink RX2 30 "ParrotJury$Seats" "others" "LParrotJury$Row;", Cond.methodLink RX4 189 yX2_heard, Cond.instanceMethod yX2_heard, Cond.selects RX2 yX2_heard yX2_heard, Cond.code yX2_heard cX2_heard 7 (some .int), Cond.methodLink RX4 102 yX4_tellOfHalf]
def wsX4_digest_r6 : List Cond := [Cond.instanceMethod yX4_tellOfHalf, Cond.selects RX4 yX4_tellOfHalf yX4_tellOfHalf, Cond.code yX4_tellOfHalf cX4_tellOfHalf 5 (some .int), Cond.methodLink RX4 122 yX0_value, Cond.methodLink RX4 195 yX0_over, Cond.instanceMethod yX0_over, Cond.selects RX0 yX0_over yX0_over, Cond.code yX0_over cX0_over 2 (some .int), Cond.fieldLink RX0 23 "ParrotJury$Halves" "over" "LParrotJury$Row;", Cond.methodLink RX4 111 yX2_other]
def wsX4_digest : List Cond := .code yX4_digest cX4_digest 5 (some .long) :: ((wsX4_digest_r1 ++ (wsX4_digest_r2 ++ (wsX4_digest_r3 ++ (wsX4_digest_r4 ++ (wsX4_digest_r5 ++ wsX4_digest_r6))))) ++ wsX40 ++ wsX30 ++ wsX20 ++ wsX00 ++ wsX10)
def wsX5_init : List Cond := .code yX5_init cX5_init 1 none :: ([.methodLink RX5 1 objectInit, .instanceMethod objectInit, .code objectInit ⟨#[0xb1]⟩ 1 none, .arrayClass .int, .fieldLink RX5 9 "ParrotJuryModel" "jury" "[I", .fieldLink RX5 13 "ParrotJuryModel" "before" "[I", .fieldLink RX5 16 "ParrotJuryModel" "ears" "[I", .fieldLink RX5 19 "ParrotJuryModel" "numbers" "[I"] ++ wsX50)
def wsX5_thrown : List Cond := .code yX5_thrown cX5_thrown 1 (some .int) :: ([.fieldLink RX5 22 "ParrotJuryModel" "thrown" "I"] ++ wsX50)
def wsX5_fail : List Cond := .code yX5_fail cX5_fail 2 (some .int) :: ([.fieldLink RX5 22 "ParrotJuryModel" "thrown" "I"] ++ wsX50)
def wsX5_isIn : List Cond := .code yX5_isIn cX5_isIn 3 (some .boolean) :: ([])
def wsX5_isParrot : List Cond := .code yX5_isParrot cX5_isParrot 2 (some .boolean) :: ([.fieldLink RX5 26 "ParrotJuryModel" "parrots" "I", .methodLink RX5 29 yX5_isIn, .static yX5_isIn, .initialized RX5, .code yX5_isIn cX5_isIn 3 (some .boolean)] ++ wsX50)
def wsX5_isWord : List Cond := .code yX5_isWord cX5_isWord 1 (some .boolean) :: ([.methodLink RX5 29 yX5_isIn, .static yX5_isIn, .initialized RX5, .code yX5_isIn cX5_isIn 3 (some .boolean)])
def wsX5_ju : List Cond := .code yX5_ju cX5_ju 3 (some .int) :: ([.fieldLink RX5 9 "ParrotJuryModel" "jury" "[I"] ++ wsX50)
def wsX5_put : List Cond := .code yX5_put cX5_put 4 none :: ([.fieldLink RX5 9 "ParrotJuryModel" "jury" "[I"] ++ wsX50)
def wsX5_word : List Cond := .code yX5_word cX5_word 2 (some .int) :: ([.methodLink RX5 33 yX5_ju, .instanceMethod yX5_ju, .selects RX5 yX5_ju yX5_ju, .initialized RX5, .code yX5_ju cX5_ju 3 (some .int), .fieldLink RX5 9 "ParrotJuryModel" "jury" "[I"] ++ wsX50)
def wsX5_come : List Cond := .code yX5_come cX5_come 4 (some .int) :: ([.fieldLink RX5 22 "ParrotJuryModel" "thrown" "I", .fieldLink RX5 26 "ParrotJuryModel" "parrots" "I", .arrayClass .int, .fieldLink RX5 9 "ParrotJuryModel" "jury" "[I", .methodLink RX5 41 arraycopyName, .native arraycopyName, .static arraycopyName, .initialized "java/lang/System", .methodLink RX5 29 yX5_isIn, .static yX5_isIn, .initialized RX5, .code yX5_isIn cX5_isIn 3 (some .boolean), .methodLink RX5 37 yX5_fail, .instanceMethod yX5_fail, .selects RX5 yX5_fail yX5_fail, .code yX5_fail cX5_fail 2 (some .int)] ++ wsX50)
def wsX5_place : List Cond := .code yX5_place cX5_place 4 (some .int) :: ([.fieldLink RX5 16 "ParrotJuryModel" "ears" "[I", .methodLink RX5 33 yX5_ju, .instanceMethod yX5_ju, .selects RX5 yX5_ju yX5_ju, .initialized RX5, .code yX5_ju cX5_ju 3 (some .int), .fieldLink RX5 9 "ParrotJuryModel" "jury" "[I"] ++ wsX50)
def wsX5_listen_r1 : List Cond := [Cond.fieldLink RX5 22 "ParrotJuryModel" "thrown" "I", Cond.fieldLink RX5 16 "ParrotJuryModel" "ears" "[I", Cond.methodLink RX5 41 arraycopyName, Cond.native arraycopyName, Cond.static arraycopyName, Cond.initialized "java/lang/System", Cond.methodLink RX5 47 yX5_isParrot, Cond.instanceMethod yX5_isParrot, Cond.selects RX5 yX5_isParrot yX5_isParrot, Cond.initialized RX5, Cond.code yX5_isParrot cX5_isParrot 2 (some .boolean), Cond.fieldLink RX5 26 "ParrotJuryModel" "parrots" "I", Cond.methodLink RX5 29 yX5_isIn, Cond.static yX5_isIn, Cond.code yX5_isIn cX5_isIn 3 (some .boolean), Cond.methodLink RX5 37 yX5_fail, Cond.instanceMethod yX5_fail, Cond.selects RX5 yX5_fail yX5_fail, Cond.code yX5_fail cX5_fail 2 (some .int), Cond.methodLink RX5 51 yX5_place, Cond.instanceMethod yX5_place, Cond.selects RX5 yX5_place yX5_place, Cond.code yX5_place cX5_place 4 (some .int), Cond.methodLink RX5 33 yX5_ju]
def wsX5_listen_r2 : List Cond := [Cond.instanceMethod yX5_ju, Cond.selects RX5 yX5_ju yX5_ju, Cond.code yX5_ju cX5_ju 3 (some .int), Cond.fieldLink RX5 9 "ParrotJuryModel" "jury" "[I", Cond.methodLink RX5 54 yX5_put, Cond.instanceMethod yX5_put, Cond.selects RX5 yX5_put yX5_put, Cond.code yX5_put cX5_put 4 none]
def wsX5_listen : List Cond := .code yX5_listen cX5_listen 5 (some .int) :: ((wsX5_listen_r1 ++ wsX5_listen_r2) ++ wsX50)
def wsX5_raise : List Cond := .code yX5_raise cX5_raise 4 (some .int) :: ([.fieldLink RX5 22 "ParrotJuryModel" "thrown" "I", .methodLink RX5 47 yX5_isParrot, .instanceMethod yX5_isParrot, .selects RX5 yX5_isParrot yX5_isParrot, .initialized RX5, .code yX5_isParrot cX5_isParrot 2 (some .boolean), .fieldLink RX5 26 "ParrotJuryModel" "parrots" "I", .methodLink RX5 29 yX5_isIn, .static yX5_isIn, .code yX5_isIn cX5_isIn 3 (some .boolean), .methodLink RX5 37 yX5_fail, .instanceMethod yX5_fail, .selects RX5 yX5_fail yX5_fail, .code yX5_fail cX5_fail 2 (some .int), .methodLink RX5 33 yX5_ju, .instanceMethod yX5_ju, .selects RX5 yX5_ju yX5_ju, .code yX5_ju cX5_ju 3 (some .int), .fieldLink RX5 9 "ParrotJuryModel" "jury" "[I", .methodLink RX5 54 yX5_put, .instanceMethod yX5_put, .selects RX5 yX5_put yX5_put, .code yX5_put cX5_put 4 none] ++ wsX50)
def wsX5_say : List Cond := .code yX5_say cX5_say 5 none :: ([.arrayClass .int, .fieldLink RX5 9 "ParrotJuryModel" "jury" "[I", .methodLink RX5 41 arraycopyName, .native arraycopyName, .static arraycopyName, .initialized "java/lang/System"] ++ wsX50)
def wsX5_whisper_r1 : List Cond := [Cond.fieldLink RX5 22 "ParrotJuryModel" "thrown" "I", Cond.methodLink RX5 47 yX5_isParrot, Cond.instanceMethod yX5_isParrot, Cond.selects RX5 yX5_isParrot yX5_isParrot, Cond.initialized RX5, Cond.code yX5_isParrot cX5_isParrot 2 (some .boolean), Cond.fieldLink RX5 26 "ParrotJuryModel" "parrots" "I", Cond.methodLink RX5 29 yX5_isIn, Cond.static yX5_isIn, Cond.code yX5_isIn cX5_isIn 3 (some .boolean), Cond.methodLink RX5 37 yX5_fail, Cond.instanceMethod yX5_fail, Cond.selects RX5 yX5_fail yX5_fail, Cond.code yX5_fail cX5_fail 2 (some .int), Cond.methodLink RX5 58 yX5_isWord, Cond.static yX5_isWord, Cond.code yX5_isWord cX5_isWord 1 (some .boolean), Cond.methodLink RX5 61 yX5_word, Cond.instanceMethod yX5_word, Cond.selects RX5 yX5_word yX5_word, Cond.code yX5_word cX5_word 2 (some .int), Cond.methodLink RX5 33 yX5_ju, Cond.instanceMethod yX5_ju, Cond.selects RX5 yX5_ju yX5_ju]
def wsX5_whisper_r2 : List Cond := [Cond.code yX5_ju cX5_ju 3 (some .int), Cond.fieldLink RX5 9 "ParrotJuryModel" "jury" "[I", Cond.methodLink RX5 64 yX5_say, Cond.instanceMethod yX5_say, Cond.selects RX5 yX5_say yX5_say, Cond.code yX5_say cX5_say 5 none, Cond.arrayClass .int, Cond.methodLink RX5 41 arraycopyName, Cond.native arraycopyName, Cond.static arraycopyName, Cond.initialized "java/lang/System"]
def wsX5_whisper : List Cond := .code yX5_whisper cX5_whisper 5 (some .int) :: ((wsX5_whisper_r1 ++ wsX5_whisper_r2) ++ wsX50)
def wsX5_heard : List Cond := .code yX5_heard cX5_heard 4 (some .int) :: ([.fieldLink RX5 16 "ParrotJuryModel" "ears" "[I", .methodLink RX5 33 yX5_ju, .instanceMethod yX5_ju, .selects RX5 yX5_ju yX5_ju, .initialized RX5, .code yX5_ju cX5_ju 3 (some .int), .fieldLink RX5 9 "ParrotJuryModel" "jury" "[I"] ++ wsX50)
def wsX5_parrotTold : List Cond := .code yX5_parrotTold cX5_parrotTold 5 (some .int) :: ([.fieldLink RX5 26 "ParrotJuryModel" "parrots" "I", .methodLink RX5 61 yX5_word, .instanceMethod yX5_word, .selects RX5 yX5_word yX5_word, .initialized RX5, .code yX5_word cX5_word 2 (some .int), .methodLink RX5 33 yX5_ju, .instanceMethod yX5_ju, .selects RX5 yX5_ju yX5_ju, .code yX5_ju cX5_ju 3 (some .int), .fieldLink RX5 9 "ParrotJuryModel" "jury" "[I", .methodLink RX5 51 yX5_place, .instanceMethod yX5_place, .selects RX5 yX5_place yX5_place, .code yX5_place cX5_place 4 (some .int), .fieldLink RX5 16 "ParrotJuryModel" "ears" "[I", .methodLink RX5 67 yX5_heard, .instanceMethod yX5_heard, .selects RX5 yX5_heard yX5_heard, .code yX5_heard cX5_heard 4 (some .int)] ++ wsX50)
def wsX5_parrot_r1 : List Cond := [Cond.fieldLink RX5 22 "ParrotJuryModel" "thrown" "I", Cond.methodLink RX5 47 yX5_isParrot, Cond.instanceMethod yX5_isParrot, Cond.selects RX5 yX5_isParrot yX5_isParrot, Cond.initialized RX5, Cond.code yX5_isParrot cX5_isParrot 2 (some .boolean), Cond.fieldLink RX5 26 "ParrotJuryModel" "parrots" "I", Cond.methodLink RX5 29 yX5_isIn, Cond.static yX5_isIn, Cond.code yX5_isIn cX5_isIn 3 (some .boolean), Cond.methodLink RX5 70 yX5_parrotTold, Cond.instanceMethod yX5_parrotTold, Cond.selects RX5 yX5_parrotTold yX5_parrotTold, Cond.code yX5_parrotTold cX5_parrotTold 5 (some .int), Cond.methodLink RX5 61 yX5_word, Cond.instanceMethod yX5_word, Cond.selects RX5 yX5_word yX5_word, Cond.code yX5_word cX5_word 2 (some .int), Cond.methodLink RX5 33 yX5_ju, Cond.instanceMethod yX5_ju, Cond.selects RX5 yX5_ju yX5_ju, Cond.code yX5_ju cX5_ju 3 (some .int), Cond.fieldLink RX5 9 "ParrotJuryModel" "jury" "[I", Cond.methodLink RX5 51 yX5_place]
def wsX5_parrot_r2 : List Cond := [Cond.instanceMethod yX5_place, Cond.selects RX5 yX5_place yX5_place, Cond.code yX5_place cX5_place 4 (some .int), Cond.fieldLink RX5 16 "ParrotJuryModel" "ears" "[I", Cond.methodLink RX5 67 yX5_heard, Cond.instanceMethod yX5_heard, Cond.selects RX5 yX5_heard yX5_heard, Cond.code yX5_heard cX5_heard 4 (some .int), Cond.methodLink RX5 37 yX5_fail, Cond.instanceMethod yX5_fail, Cond.selects RX5 yX5_fail yX5_fail, Cond.code yX5_fail cX5_fail 2 (some .int)]
def wsX5_parrot : List Cond := .code yX5_parrot cX5_parrot 3 (some .int) :: ((wsX5_parrot_r1 ++ wsX5_parrot_r2) ++ wsX50)
def wsX5_halfTold : List Cond := .code yX5_halfTold cX5_halfTold 4 (some .int) :: ([.methodLink RX5 33 yX5_ju, .instanceMethod yX5_ju, .selects RX5 yX5_ju yX5_ju, .initialized RX5, .code yX5_ju cX5_ju 3 (some .int), .fieldLink RX5 9 "ParrotJuryModel" "jury" "[I"] ++ wsX50)
def wsX5_half : List Cond := .code yX5_half cX5_half 4 (some .int) :: ([.fieldLink RX5 22 "ParrotJuryModel" "thrown" "I", .methodLink RX5 47 yX5_isParrot, .instanceMethod yX5_isParrot, .selects RX5 yX5_isParrot yX5_isParrot, .initialized RX5, .code yX5_isParrot cX5_isParrot 2 (some .boolean), .fieldLink RX5 26 "ParrotJuryModel" "parrots" "I", .methodLink RX5 29 yX5_isIn, .static yX5_isIn, .code yX5_isIn cX5_isIn 3 (some .boolean), .methodLink RX5 73 yX5_halfTold, .instanceMethod yX5_halfTold, .selects RX5 yX5_halfTold yX5_halfTold, .code yX5_halfTold cX5_halfTold 4 (some .int), .methodLink RX5 33 yX5_ju, .instanceMethod yX5_ju, .selects RX5 yX5_ju yX5_ju, .code yX5_ju cX5_ju 3 (some .int), .fieldLink RX5 9 "ParrotJuryModel" "jury" "[I", .methodLink RX5 37 yX5_fail, .instanceMethod yX5_fail, .selects RX5 yX5_fail yX5_fail, .code yX5_fail cX5_fail 2 (some .int)] ++ wsX50)
def wsX5_hears : List Cond := .code yX5_hears cX5_hears 3 (some .int) :: ([.fieldLink RX5 22 "ParrotJuryModel" "thrown" "I", .fieldLink RX5 16 "ParrotJuryModel" "ears" "[I", .methodLink RX5 47 yX5_isParrot, .instanceMethod yX5_isParrot, .selects RX5 yX5_isParrot yX5_isParrot, .initialized RX5, .code yX5_isParrot cX5_isParrot 2 (some .boolean), .fieldLink RX5 26 "ParrotJuryModel" "parrots" "I", .methodLink RX5 29 yX5_isIn, .static yX5_isIn, .code yX5_isIn cX5_isIn 3 (some .boolean), .methodLink RX5 33 yX5_ju, .instanceMethod yX5_ju, .selects RX5 yX5_ju yX5_ju, .code yX5_ju cX5_ju 3 (some .int), .fieldLink RX5 9 "ParrotJuryModel" "jury" "[I", .methodLink RX5 37 yX5_fail, .instanceMethod yX5_fail, .selects RX5 yX5_fail yX5_fail, .code yX5_fail cX5_fail 2 (some .int)] ++ wsX50)
def wsX5_votesFor : List Cond := .code yX5_votesFor cX5_votesFor 4 (some .int) :: ([.fieldLink RX5 26 "ParrotJuryModel" "parrots" "I", .methodLink RX5 61 yX5_word, .instanceMethod yX5_word, .selects RX5 yX5_word yX5_word, .initialized RX5, .code yX5_word cX5_word 2 (some .int), .methodLink RX5 33 yX5_ju, .instanceMethod yX5_ju, .selects RX5 yX5_ju yX5_ju, .code yX5_ju cX5_ju 3 (some .int), .fieldLink RX5 9 "ParrotJuryModel" "jury" "[I"] ++ wsX50)
def wsX5_votes_r1 : List Cond := [Cond.fieldLink RX5 22 "ParrotJuryModel" "thrown" "I", Cond.methodLink RX5 58 yX5_isWord, Cond.static yX5_isWord, Cond.initialized RX5, Cond.code yX5_isWord cX5_isWord 1 (some .boolean), Cond.methodLink RX5 29 yX5_isIn, Cond.static yX5_isIn, Cond.code yX5_isIn cX5_isIn 3 (some .boolean), Cond.methodLink RX5 77 yX5_votesFor, Cond.instanceMethod yX5_votesFor, Cond.selects RX5 yX5_votesFor yX5_votesFor, Cond.code yX5_votesFor cX5_votesFor 4 (some .int), Cond.fieldLink RX5 26 "ParrotJuryModel" "parrots" "I", Cond.methodLink RX5 61 yX5_word, Cond.instanceMethod yX5_word, Cond.selects RX5 yX5_word yX5_word, Cond.code yX5_word cX5_word 2 (some .int), Cond.methodLink RX5 33 yX5_ju, Cond.instanceMethod yX5_ju, Cond.selects RX5 yX5_ju yX5_ju, Cond.code yX5_ju cX5_ju 3 (some .int), Cond.fieldLink RX5 9 "ParrotJuryModel" "jury" "[I", Cond.methodLink RX5 37 yX5_fail, Cond.instanceMethod yX5_fail]
def wsX5_votes_r2 : List Cond := [Cond.selects RX5 yX5_fail yX5_fail, Cond.code yX5_fail cX5_fail 2 (some .int)]
def wsX5_votes : List Cond := .code yX5_votes cX5_votes 2 (some .int) :: ((wsX5_votes_r1 ++ wsX5_votes_r2) ++ wsX50)
def wsX5_verdict : List Cond := .code yX5_verdict cX5_verdict 3 (some .int) :: ([.fieldLink RX5 22 "ParrotJuryModel" "thrown" "I", .fieldLink RX5 26 "ParrotJuryModel" "parrots" "I", .methodLink RX5 61 yX5_word, .instanceMethod yX5_word, .selects RX5 yX5_word yX5_word, .initialized RX5, .code yX5_word cX5_word 2 (some .int), .methodLink RX5 33 yX5_ju, .instanceMethod yX5_ju, .selects RX5 yX5_ju yX5_ju, .code yX5_ju cX5_ju 3 (some .int), .fieldLink RX5 9 "ParrotJuryModel" "jury" "[I", .methodLink RX5 77 yX5_votesFor, .instanceMethod yX5_votesFor, .selects RX5 yX5_votesFor yX5_votesFor, .code yX5_votesFor cX5_votesFor 4 (some .int)] ++ wsX50)
def wsX5_left : List Cond := .code yX5_left cX5_left 4 (some .int) :: ([.fieldLink RX5 22 "ParrotJuryModel" "thrown" "I", .fieldLink RX5 26 "ParrotJuryModel" "parrots" "I", .methodLink RX5 58 yX5_isWord, .static yX5_isWord, .initialized RX5, .code yX5_isWord cX5_isWord 1 (some .boolean), .methodLink RX5 29 yX5_isIn, .static yX5_isIn, .code yX5_isIn cX5_isIn 3 (some .boolean), .methodLink RX5 37 yX5_fail, .instanceMethod yX5_fail, .selects RX5 yX5_fail yX5_fail, .code yX5_fail cX5_fail 2 (some .int), .methodLink RX5 33 yX5_ju, .instanceMethod yX5_ju, .selects RX5 yX5_ju yX5_ju, .code yX5_ju cX5_ju 3 (some .int), .fieldLink RX5 9 "ParrotJuryModel" "jury" "[I"] ++ wsX50)
def wsX5_counted : List Cond := .code yX5_counted cX5_counted 6 (some .int) :: ([.fieldLink RX5 19 "ParrotJuryModel" "numbers" "[I", .fieldLink RX5 26 "ParrotJuryModel" "parrots" "I", .methodLink RX5 61 yX5_word, .instanceMethod yX5_word, .selects RX5 yX5_word yX5_word, .initialized RX5, .code yX5_word cX5_word 2 (some .int), .methodLink RX5 33 yX5_ju, .instanceMethod yX5_ju, .selects RX5 yX5_ju yX5_ju, .code yX5_ju cX5_ju 3 (some .int), .fieldLink RX5 9 "ParrotJuryModel" "jury" "[I"] ++ wsX50)
def wsX5_count : List Cond := .code yX5_count cX5_count 2 (some .int) :: ([.fieldLink RX5 22 "ParrotJuryModel" "thrown" "I", .methodLink RX5 29 yX5_isIn, .static yX5_isIn, .initialized RX5, .code yX5_isIn cX5_isIn 3 (some .boolean), .methodLink RX5 80 yX5_counted, .instanceMethod yX5_counted, .selects RX5 yX5_counted yX5_counted, .code yX5_counted cX5_counted 6 (some .int), .fieldLink RX5 19 "ParrotJuryModel" "numbers" "[I", .fieldLink RX5 26 "ParrotJuryModel" "parrots" "I", .methodLink RX5 61 yX5_word, .instanceMethod yX5_word, .selects RX5 yX5_word yX5_word, .code yX5_word cX5_word 2 (some .int), .methodLink RX5 33 yX5_ju, .instanceMethod yX5_ju, .selects RX5 yX5_ju yX5_ju, .code yX5_ju cX5_ju 3 (some .int), .fieldLink RX5 9 "ParrotJuryModel" "jury" "[I", .methodLink RX5 37 yX5_fail, .instanceMethod yX5_fail, .selects RX5 yX5_fail yX5_fail, .code yX5_fail cX5_fail 2 (some .int)] ++ wsX50)
def wsX5_be : List Cond := .code yX5_be cX5_be 3 (some .int) :: ([.fieldLink RX5 13 "ParrotJuryModel" "before" "[I"] ++ wsX50)
def wsX5_takes : List Cond := .code yX5_takes cX5_takes 4 (some .boolean) :: ([.methodLink RX5 86 Lib.Math.min.name, .static Lib.Math.min.name, .initialized "java/lang/Math", .code Lib.Math.min.name Lib.Math.min.code 2 (some .int), .methodLink RX5 67 yX5_heard, .instanceMethod yX5_heard, .selects RX5 yX5_heard yX5_heard, .initialized RX5, .code yX5_heard cX5_heard 4 (some .int), .fieldLink RX5 16 "ParrotJuryModel" "ears" "[I", .methodLink RX5 33 yX5_ju, .instanceMethod yX5_ju, .selects RX5 yX5_ju yX5_ju, .code yX5_ju cX5_ju 3 (some .int), .fieldLink RX5 9 "ParrotJuryModel" "jury" "[I", .methodLink RX5 83 yX5_be, .instanceMethod yX5_be, .selects RX5 yX5_be yX5_be, .code yX5_be cX5_be 3 (some .int), .fieldLink RX5 13 "ParrotJuryModel" "before" "[I", .methodLink RX5 54 yX5_put, .instanceMethod yX5_put, .selects RX5 yX5_put yX5_put, .code yX5_put cX5_put 4 none] ++ wsX50)
def wsX5_roundOn_r1 : List Cond := [Cond.fieldLink RX5 9 "ParrotJuryModel" "jury" "[I", Cond.fieldLink RX5 13 "ParrotJuryModel" "before" "[I", Cond.methodLink RX5 41 arraycopyName, Cond.native arraycopyName, Cond.static arraycopyName, Cond.initialized "java/lang/System", Cond.fieldLink RX5 26 "ParrotJuryModel" "parrots" "I", Cond.fieldLink RX5 19 "ParrotJuryModel" "numbers" "[I", Cond.methodLink RX5 94 Lib.Math.max.name, Cond.static Lib.Math.max.name, Cond.initialized "java/lang/Math", Cond.code Lib.Math.max.name Lib.Math.max.code 2 (some .int), Cond.methodLink RX5 91 yX5_takes, Cond.instanceMethod yX5_takes, Cond.selects RX5 yX5_takes yX5_takes, Cond.initialized RX5, Cond.code yX5_takes cX5_takes 4 (some .boolean), Cond.methodLink RX5 86 Lib.Math.min.name, Cond.static Lib.Math.min.name, Cond.code Lib.Math.min.name Lib.Math.min.code 2 (some .int), Cond.methodLink RX5 67 yX5_heard, Cond.instanceMethod yX5_heard, Cond.selects RX5 yX5_heard yX5_heard, Cond.code yX5_heard cX5_heard 4 (some .int)]
def wsX5_roundOn_r2 : List Cond := [Cond.fieldLink RX5 16 "ParrotJuryModel" "ears" "[I", Cond.methodLink RX5 33 yX5_ju, Cond.instanceMethod yX5_ju, Cond.selects RX5 yX5_ju yX5_ju, Cond.code yX5_ju cX5_ju 3 (some .int), Cond.methodLink RX5 83 yX5_be, Cond.instanceMethod yX5_be, Cond.selects RX5 yX5_be yX5_be, Cond.code yX5_be cX5_be 3 (some .int), Cond.methodLink RX5 54 yX5_put, Cond.instanceMethod yX5_put, Cond.selects RX5 yX5_put yX5_put, Cond.code yX5_put cX5_put 4 none]
def wsX5_roundOn : List Cond := .code yX5_roundOn cX5_roundOn 2 none :: ((wsX5_roundOn_r1 ++ wsX5_roundOn_r2) ++ wsX50)
def wsX5_roundsOn_r1 : List Cond := [Cond.methodLink RX5 97 yX5_roundOn, Cond.instanceMethod yX5_roundOn, Cond.selects RX5 yX5_roundOn yX5_roundOn, Cond.initialized RX5, Cond.code yX5_roundOn cX5_roundOn 2 none, Cond.fieldLink RX5 9 "ParrotJuryModel" "jury" "[I", Cond.fieldLink RX5 13 "ParrotJuryModel" "before" "[I", Cond.methodLink RX5 41 arraycopyName, Cond.native arraycopyName, Cond.static arraycopyName, Cond.initialized "java/lang/System", Cond.fieldLink RX5 26 "ParrotJuryModel" "parrots" "I", Cond.fieldLink RX5 19 "ParrotJuryModel" "numbers" "[I", Cond.methodLink RX5 94 Lib.Math.max.name, Cond.static Lib.Math.max.name, Cond.initialized "java/lang/Math", Cond.code Lib.Math.max.name Lib.Math.max.code 2 (some .int), Cond.methodLink RX5 91 yX5_takes, Cond.instanceMethod yX5_takes, Cond.selects RX5 yX5_takes yX5_takes, Cond.code yX5_takes cX5_takes 4 (some .boolean), Cond.methodLink RX5 86 Lib.Math.min.name, Cond.static Lib.Math.min.name, Cond.code Lib.Math.min.name Lib.Math.min.code 2 (some .int)]
def wsX5_roundsOn_r2 : List Cond := [Cond.methodLink RX5 67 yX5_heard, Cond.instanceMethod yX5_heard, Cond.selects RX5 yX5_heard yX5_heard, Cond.code yX5_heard cX5_heard 4 (some .int), Cond.fieldLink RX5 16 "ParrotJuryModel" "ears" "[I", Cond.methodLink RX5 33 yX5_ju, Cond.instanceMethod yX5_ju, Cond.selects RX5 yX5_ju yX5_ju, Cond.code yX5_ju cX5_ju 3 (some .int), Cond.methodLink RX5 83 yX5_be, Cond.instanceMethod yX5_be, Cond.selects RX5 yX5_be yX5_be, Cond.code yX5_be cX5_be 3 (some .int), Cond.methodLink RX5 54 yX5_put, Cond.instanceMethod yX5_put, Cond.selects RX5 yX5_put yX5_put, Cond.code yX5_put cX5_put 4 none]
def wsX5_roundsOn : List Cond := .code yX5_roundsOn cX5_roundsOn 3 none :: ((wsX5_roundsOn_r1 ++ wsX5_roundsOn_r2) ++ wsX50)
def wsX5_pass_r1 : List Cond := [Cond.fieldLink RX5 22 "ParrotJuryModel" "thrown" "I", Cond.fieldLink RX5 19 "ParrotJuryModel" "numbers" "[I", Cond.methodLink RX5 29 yX5_isIn, Cond.static yX5_isIn, Cond.initialized RX5, Cond.code yX5_isIn cX5_isIn 3 (some .boolean), Cond.methodLink RX5 37 yX5_fail, Cond.instanceMethod yX5_fail, Cond.selects RX5 yX5_fail yX5_fail, Cond.code yX5_fail cX5_fail 2 (some .int), Cond.methodLink RX5 100 yX5_roundsOn, Cond.instanceMethod yX5_roundsOn, Cond.selects RX5 yX5_roundsOn yX5_roundsOn, Cond.code yX5_roundsOn cX5_roundsOn 3 none, Cond.methodLink RX5 97 yX5_roundOn, Cond.instanceMethod yX5_roundOn, Cond.selects RX5 yX5_roundOn yX5_roundOn, Cond.code yX5_roundOn cX5_roundOn 2 none, Cond.fieldLink RX5 9 "ParrotJuryModel" "jury" "[I", Cond.fieldLink RX5 13 "ParrotJuryModel" "before" "[I", Cond.methodLink RX5 41 arraycopyName, Cond.native arraycopyName, Cond.static arraycopyName, Cond.initialized "java/lang/System"]
def wsX5_pass_r2 : List Cond := [Cond.fieldLink RX5 26 "ParrotJuryModel" "parrots" "I", Cond.methodLink RX5 94 Lib.Math.max.name, Cond.static Lib.Math.max.name, Cond.initialized "java/lang/Math", Cond.code Lib.Math.max.name Lib.Math.max.code 2 (some .int), Cond.methodLink RX5 91 yX5_takes, Cond.instanceMethod yX5_takes, Cond.selects RX5 yX5_takes yX5_takes, Cond.code yX5_takes cX5_takes 4 (some .boolean), Cond.methodLink RX5 86 Lib.Math.min.name, Cond.static Lib.Math.min.name, Cond.code Lib.Math.min.name Lib.Math.min.code 2 (some .int), Cond.methodLink RX5 67 yX5_heard, Cond.instanceMethod yX5_heard, Cond.selects RX5 yX5_heard yX5_heard, Cond.code yX5_heard cX5_heard 4 (some .int), Cond.fieldLink RX5 16 "ParrotJuryModel" "ears" "[I", Cond.methodLink RX5 33 yX5_ju, Cond.instanceMethod yX5_ju, Cond.selects RX5 yX5_ju yX5_ju, Cond.code yX5_ju cX5_ju 3 (some .int), Cond.methodLink RX5 83 yX5_be, Cond.instanceMethod yX5_be, Cond.selects RX5 yX5_be yX5_be]
def wsX5_pass_r3 : List Cond := [Cond.code yX5_be cX5_be 3 (some .int), Cond.methodLink RX5 54 yX5_put, Cond.instanceMethod yX5_put, Cond.selects RX5 yX5_put yX5_put, Cond.code yX5_put cX5_put 4 none]
def wsX5_pass : List Cond := .code yX5_pass cX5_pass 3 (some .int) :: ((wsX5_pass_r1 ++ (wsX5_pass_r2 ++ wsX5_pass_r3)) ++ wsX50)
def wsX5_kept : List Cond := .code yX5_kept cX5_kept 1 (some (.array (.array .int))) :: ([.classLink RX5 104 "[I", .fieldLink RX5 9 "ParrotJuryModel" "jury" "[I", .methodLink RX5 105 ⟨"[I", "clone", "()Ljava/lang/Object;"⟩, .sameMethod "[I" "java/lang/Object" "clone" "()Ljava/lang/Object;", .native ⟨"java/lang/Object", "clone", "()Ljava/lang/Object;"⟩, .instanceMethod ⟨"java/lang/Object", "clone", "()Ljava/lang/Object;"⟩, .selects "[I" ⟨"[I", "clone", "()Ljava/lang/Object;"⟩ ⟨"java/lang/Object", "clone", "()Ljava/lang/Object;"⟩, .fieldLink RX5 19 "ParrotJuryModel" "numbers" "[I"] ++ wsX50)
def wsX5_bringBack : List Cond := .code yX5_bringBack cX5_bringBack 2 none :: ([.fieldLink RX5 9 "ParrotJuryModel" "jury" "[I", .methodLink RX5 41 arraycopyName, .native arraycopyName, .static arraycopyName, .initialized "java/lang/System", .fieldLink RX5 19 "ParrotJuryModel" "numbers" "[I"] ++ wsX50)
def wsX5_agrees_r1 : List Cond := [Cond.fieldLink RX5 22 "ParrotJuryModel" "thrown" "I", Cond.methodLink RX5 109 yX5_kept, Cond.instanceMethod yX5_kept, Cond.selects RX5 yX5_kept yX5_kept, Cond.initialized RX5, Cond.code yX5_kept cX5_kept 1 (some (.array (.array .int))), Cond.classLink RX5 104 "[I", Cond.fieldLink RX5 9 "ParrotJuryModel" "jury" "[I", Cond.methodLink RX5 105 ⟨"[I", "clone", "()Ljava/lang/Object;"⟩, Cond.sameMethod "[I" "java/lang/Object" "clone" "()Ljava/lang/Object;", Cond.native ⟨"java/lang/Object", "clone", "()Ljava/lang/Object;"⟩, Cond.instanceMethod ⟨"java/lang/Object", "clone", "()Ljava/lang/Object;"⟩, Cond.selects "[I" ⟨"[I", "clone", "()Ljava/lang/Object;"⟩ ⟨"java/lang/Object", "clone", "()Ljava/lang/Object;"⟩, Cond.fieldLink RX5 19 "ParrotJuryModel" "numbers" "[I", Cond.methodLink RX5 80 yX5_counted, Cond.instanceMethod yX5_counted, Cond.selects RX5 yX5_counted yX5_counted, Cond.code yX5_counted cX5_counted 6 (some .int), Cond.fieldLink RX5 26 "ParrotJuryModel" "parrots" "I", Cond.methodLink RX5 61 yX5_word, Cond.instanceMethod yX5_word, Cond.selects RX5 yX5_word yX5_word, Cond.code yX5_word cX5_word 2 (some .int), Cond.methodLink RX5 33 yX5_ju]
def wsX5_agrees_r2 : List Cond := [Cond.instanceMethod yX5_ju, Cond.selects RX5 yX5_ju yX5_ju, Cond.code yX5_ju cX5_ju 3 (some .int), Cond.methodLink RX5 97 yX5_roundOn, Cond.instanceMethod yX5_roundOn, Cond.selects RX5 yX5_roundOn yX5_roundOn, Cond.code yX5_roundOn cX5_roundOn 2 none, Cond.fieldLink RX5 13 "ParrotJuryModel" "before" "[I", Cond.methodLink RX5 41 arraycopyName, Cond.native arraycopyName, Cond.static arraycopyName, Cond.initialized "java/lang/System", Cond.methodLink RX5 94 Lib.Math.max.name, Cond.static Lib.Math.max.name, Cond.initialized "java/lang/Math", Cond.code Lib.Math.max.name Lib.Math.max.code 2 (some .int), Cond.methodLink RX5 91 yX5_takes, Cond.instanceMethod yX5_takes, Cond.selects RX5 yX5_takes yX5_takes, Cond.code yX5_takes cX5_takes 4 (some .boolean), Cond.methodLink RX5 86 Lib.Math.min.name, Cond.static Lib.Math.min.name, Cond.code Lib.Math.min.name Lib.Math.min.code 2 (some .int), Cond.methodLink RX5 67 yX5_heard]
def wsX5_agrees_r3 : List Cond := [Cond.instanceMethod yX5_heard, Cond.selects RX5 yX5_heard yX5_heard, Cond.code yX5_heard cX5_heard 4 (some .int), Cond.fieldLink RX5 16 "ParrotJuryModel" "ears" "[I", Cond.methodLink RX5 83 yX5_be, Cond.instanceMethod yX5_be, Cond.selects RX5 yX5_be yX5_be, Cond.code yX5_be cX5_be 3 (some .int), Cond.methodLink RX5 54 yX5_put, Cond.instanceMethod yX5_put, Cond.selects RX5 yX5_put yX5_put, Cond.code yX5_put cX5_put 4 none, Cond.methodLink RX5 113 yX5_bringBack, Cond.instanceMethod yX5_bringBack, Cond.selects RX5 yX5_bringBack yX5_bringBack, Cond.code yX5_bringBack cX5_bringBack 2 none]
def wsX5_agrees : List Cond := .code yX5_agrees cX5_agrees 3 (some .int) :: ((wsX5_agrees_r1 ++ (wsX5_agrees_r2 ++ wsX5_agrees_r3)) ++ wsX50)
def wsX5_foresee_r1 : List Cond := [Cond.fieldLink RX5 22 "ParrotJuryModel" "thrown" "I", Cond.methodLink RX5 29 yX5_isIn, Cond.static yX5_isIn, Cond.initialized RX5, Cond.code yX5_isIn cX5_isIn 3 (some .boolean), Cond.methodLink RX5 37 yX5_fail, Cond.instanceMethod yX5_fail, Cond.selects RX5 yX5_fail yX5_fail, Cond.code yX5_fail cX5_fail 2 (some .int), Cond.methodLink RX5 47 yX5_isParrot, Cond.instanceMethod yX5_isParrot, Cond.selects RX5 yX5_isParrot yX5_isParrot, Cond.code yX5_isParrot cX5_isParrot 2 (some .boolean), Cond.fieldLink RX5 26 "ParrotJuryModel" "parrots" "I", Cond.methodLink RX5 109 yX5_kept, Cond.instanceMethod yX5_kept, Cond.selects RX5 yX5_kept yX5_kept, Cond.code yX5_kept cX5_kept 1 (some (.array (.array .int))), Cond.classLink RX5 104 "[I", Cond.fieldLink RX5 9 "ParrotJuryModel" "jury" "[I", Cond.methodLink RX5 105 ⟨"[I", "clone", "()Ljava/lang/Object;"⟩, Cond.sameMethod "[I" "java/lang/Object" "clone" "()Ljava/lang/Object;", Cond.native ⟨"java/lang/Object", "clone", "()Ljava/lang/Object;"⟩, Cond.instanceMethod ⟨"java/lang/Object", "clone", "()Ljava/lang/Object;"⟩]
def wsX5_foresee_r2 : List Cond := [Cond.selects "[I" ⟨"[I", "clone", "()Ljava/lang/Object;"⟩ ⟨"java/lang/Object", "clone", "()Ljava/lang/Object;"⟩, Cond.fieldLink RX5 19 "ParrotJuryModel" "numbers" "[I", Cond.methodLink RX5 100 yX5_roundsOn, Cond.instanceMethod yX5_roundsOn, Cond.selects RX5 yX5_roundsOn yX5_roundsOn, Cond.code yX5_roundsOn cX5_roundsOn 3 none, Cond.methodLink RX5 97 yX5_roundOn, Cond.instanceMethod yX5_roundOn, Cond.selects RX5 yX5_roundOn yX5_roundOn, Cond.code yX5_roundOn cX5_roundOn 2 none, Cond.fieldLink RX5 13 "ParrotJuryModel" "before" "[I", Cond.methodLink RX5 41 arraycopyName, Cond.native arraycopyName, Cond.static arraycopyName, Cond.initialized "java/lang/System", Cond.methodLink RX5 94 Lib.Math.max.name, Cond.static Lib.Math.max.name, Cond.initialized "java/lang/Math", Cond.code Lib.Math.max.name Lib.Math.max.code 2 (some .int), Cond.methodLink RX5 91 yX5_takes, Cond.instanceMethod yX5_takes, Cond.selects RX5 yX5_takes yX5_takes, Cond.code yX5_takes cX5_takes 4 (some .boolean), Cond.methodLink RX5 86 Lib.Math.min.name]
def wsX5_foresee_r3 : List Cond := [Cond.static Lib.Math.min.name, Cond.code Lib.Math.min.name Lib.Math.min.code 2 (some .int), Cond.methodLink RX5 67 yX5_heard, Cond.instanceMethod yX5_heard, Cond.selects RX5 yX5_heard yX5_heard, Cond.code yX5_heard cX5_heard 4 (some .int), Cond.fieldLink RX5 16 "ParrotJuryModel" "ears" "[I", Cond.methodLink RX5 33 yX5_ju, Cond.instanceMethod yX5_ju, Cond.selects RX5 yX5_ju yX5_ju, Cond.code yX5_ju cX5_ju 3 (some .int), Cond.methodLink RX5 83 yX5_be, Cond.instanceMethod yX5_be, Cond.selects RX5 yX5_be yX5_be, Cond.code yX5_be cX5_be 3 (some .int), Cond.methodLink RX5 54 yX5_put, Cond.instanceMethod yX5_put, Cond.selects RX5 yX5_put yX5_put, Cond.code yX5_put cX5_put 4 none, Cond.methodLink RX5 61 yX5_word, Cond.instanceMethod yX5_word, Cond.selects RX5 yX5_word yX5_word, Cond.code yX5_word cX5_word 2 (some .int), Cond.methodLink RX5 113 yX5_bringBack]
def wsX5_foresee_r4 : List Cond := [Cond.instanceMethod yX5_bringBack, Cond.selects RX5 yX5_bringBack yX5_bringBack, Cond.code yX5_bringBack cX5_bringBack 2 none]
def wsX5_foresee : List Cond := .code yX5_foresee cX5_foresee 5 (some .int) :: ((wsX5_foresee_r1 ++ (wsX5_foresee_r2 ++ (wsX5_foresee_r3 ++ wsX5_foresee_r4))) ++ wsX50)
def wsX5_advise_r1 : List Cond := [Cond.fieldLink RX5 22 "ParrotJuryModel" "thrown" "I", Cond.fieldLink RX5 26 "ParrotJuryModel" "parrots" "I", Cond.methodLink RX5 58 yX5_isWord, Cond.static yX5_isWord, Cond.initialized RX5, Cond.code yX5_isWord cX5_isWord 1 (some .boolean), Cond.methodLink RX5 29 yX5_isIn, Cond.static yX5_isIn, Cond.code yX5_isIn cX5_isIn 3 (some .boolean), Cond.methodLink RX5 37 yX5_fail, Cond.instanceMethod yX5_fail, Cond.selects RX5 yX5_fail yX5_fail, Cond.code yX5_fail cX5_fail 2 (some .int), Cond.methodLink RX5 109 yX5_kept, Cond.instanceMethod yX5_kept, Cond.selects RX5 yX5_kept yX5_kept, Cond.code yX5_kept cX5_kept 1 (some (.array (.array .int))), Cond.classLink RX5 104 "[I", Cond.fieldLink RX5 9 "ParrotJuryModel" "jury" "[I", Cond.methodLink RX5 105 ⟨"[I", "clone", "()Ljava/lang/Object;"⟩, Cond.sameMethod "[I" "java/lang/Object" "clone" "()Ljava/lang/Object;", Cond.native ⟨"java/lang/Object", "clone", "()Ljava/lang/Object;"⟩, Cond.instanceMethod ⟨"java/lang/Object", "clone", "()Ljava/lang/Object;"⟩, Cond.selects "[I" ⟨"[I", "clone", "()Ljava/lang/Object;"⟩ ⟨"java/lang/Object", "clone", "()Ljava/lang/Object;"⟩]
def wsX5_advise_r2 : List Cond := [Cond.fieldLink RX5 19 "ParrotJuryModel" "numbers" "[I", Cond.methodLink RX5 64 yX5_say, Cond.instanceMethod yX5_say, Cond.selects RX5 yX5_say yX5_say, Cond.code yX5_say cX5_say 5 none, Cond.arrayClass .int, Cond.methodLink RX5 41 arraycopyName, Cond.native arraycopyName, Cond.static arraycopyName, Cond.initialized "java/lang/System", Cond.methodLink RX5 100 yX5_roundsOn, Cond.instanceMethod yX5_roundsOn, Cond.selects RX5 yX5_roundsOn yX5_roundsOn, Cond.code yX5_roundsOn cX5_roundsOn 3 none, Cond.methodLink RX5 97 yX5_roundOn, Cond.instanceMethod yX5_roundOn, Cond.selects RX5 yX5_roundOn yX5_roundOn, Cond.code yX5_roundOn cX5_roundOn 2 none, Cond.fieldLink RX5 13 "ParrotJuryModel" "before" "[I", Cond.methodLink RX5 94 Lib.Math.max.name, Cond.static Lib.Math.max.name, Cond.initialized "java/lang/Math", Cond.code Lib.Math.max.name Lib.Math.max.code 2 (some .int), Cond.methodLink RX5 91 yX5_takes]
def wsX5_advise_r3 : List Cond := [Cond.instanceMethod yX5_takes, Cond.selects RX5 yX5_takes yX5_takes, Cond.code yX5_takes cX5_takes 4 (some .boolean), Cond.methodLink RX5 86 Lib.Math.min.name, Cond.static Lib.Math.min.name, Cond.code Lib.Math.min.name Lib.Math.min.code 2 (some .int), Cond.methodLink RX5 67 yX5_heard, Cond.instanceMethod yX5_heard, Cond.selects RX5 yX5_heard yX5_heard, Cond.code yX5_heard cX5_heard 4 (some .int), Cond.fieldLink RX5 16 "ParrotJuryModel" "ears" "[I", Cond.methodLink RX5 33 yX5_ju, Cond.instanceMethod yX5_ju, Cond.selects RX5 yX5_ju yX5_ju, Cond.code yX5_ju cX5_ju 3 (some .int), Cond.methodLink RX5 83 yX5_be, Cond.instanceMethod yX5_be, Cond.selects RX5 yX5_be yX5_be, Cond.code yX5_be cX5_be 3 (some .int), Cond.methodLink RX5 54 yX5_put, Cond.instanceMethod yX5_put, Cond.selects RX5 yX5_put yX5_put, Cond.code yX5_put cX5_put 4 none, Cond.methodLink RX5 77 yX5_votesFor]
def wsX5_advise_r4 : List Cond := [Cond.instanceMethod yX5_votesFor, Cond.selects RX5 yX5_votesFor yX5_votesFor, Cond.code yX5_votesFor cX5_votesFor 4 (some .int), Cond.methodLink RX5 61 yX5_word, Cond.instanceMethod yX5_word, Cond.selects RX5 yX5_word yX5_word, Cond.code yX5_word cX5_word 2 (some .int), Cond.methodLink RX5 113 yX5_bringBack, Cond.instanceMethod yX5_bringBack, Cond.selects RX5 yX5_bringBack yX5_bringBack, Cond.code yX5_bringBack cX5_bringBack 2 none]
def wsX5_advise : List Cond := .code yX5_advise cX5_advise 8 (some .int) :: ((wsX5_advise_r1 ++ (wsX5_advise_r2 ++ (wsX5_advise_r3 ++ wsX5_advise_r4))) ++ wsX50)
def wsX5_source : List Cond := .code yX5_source cX5_source 6 (some .int) :: ([.fieldLink RX5 22 "ParrotJuryModel" "thrown" "I", .fieldLink RX5 16 "ParrotJuryModel" "ears" "[I", .fieldLink RX5 26 "ParrotJuryModel" "parrots" "I", .methodLink RX5 47 yX5_isParrot, .instanceMethod yX5_isParrot, .selects RX5 yX5_isParrot yX5_isParrot, .initialized RX5, .code yX5_isParrot cX5_isParrot 2 (some .boolean), .methodLink RX5 29 yX5_isIn, .static yX5_isIn, .code yX5_isIn cX5_isIn 3 (some .boolean), .methodLink RX5 37 yX5_fail, .instanceMethod yX5_fail, .selects RX5 yX5_fail yX5_fail, .code yX5_fail cX5_fail 2 (some .int), .methodLink RX5 33 yX5_ju, .instanceMethod yX5_ju, .selects RX5 yX5_ju yX5_ju, .code yX5_ju cX5_ju 3 (some .int), .fieldLink RX5 9 "ParrotJuryModel" "jury" "[I"] ++ wsX50)
def wsX5_mean : List Cond := .code yX5_mean cX5_mean 1 (some .double) :: ([.fieldLink RX5 22 "ParrotJuryModel" "thrown" "I", .fieldLink RX5 26 "ParrotJuryModel" "parrots" "I", .methodLink RX5 80 yX5_counted, .instanceMethod yX5_counted, .selects RX5 yX5_counted yX5_counted, .initialized RX5, .code yX5_counted cX5_counted 6 (some .int), .fieldLink RX5 19 "ParrotJuryModel" "numbers" "[I", .methodLink RX5 61 yX5_word, .instanceMethod yX5_word, .selects RX5 yX5_word yX5_word, .code yX5_word cX5_word 2 (some .int), .methodLink RX5 33 yX5_ju, .instanceMethod yX5_ju, .selects RX5 yX5_ju yX5_ju, .code yX5_ju cX5_ju 3 (some .int), .fieldLink RX5 9 "ParrotJuryModel" "jury" "[I"] ++ wsX50)
def wsX5_digest_r1 : List Cond := [Cond.fieldLink RX5 22 "ParrotJuryModel" "thrown" "I", Cond.constantLong RX5 117 (911), Cond.constantLong RX5 119 (31), Cond.fieldLink RX5 26 "ParrotJuryModel" "parrots" "I", Cond.fieldLink RX5 16 "ParrotJuryModel" "ears" "[I", Cond.methodLink RX5 80 yX5_counted, Cond.instanceMethod yX5_counted, Cond.selects RX5 yX5_counted yX5_counted, Cond.initialized RX5, Cond.code yX5_counted cX5_counted 6 (some .int), Cond.fieldLink RX5 19 "ParrotJuryModel" "numbers" "[I", Cond.methodLink RX5 61 yX5_word, Cond.instanceMethod yX5_word, Cond.selects RX5 yX5_word yX5_word, Cond.code yX5_word cX5_word 2 (some .int), Cond.methodLink RX5 33 yX5_ju, Cond.instanceMethod yX5_ju, Cond.selects RX5 yX5_ju yX5_ju, Cond.code yX5_ju cX5_ju 3 (some .int), Cond.fieldLink RX5 9 "ParrotJuryModel" "jury" "[I", Cond.methodLink RX5 70 yX5_parrotTold, Cond.instanceMethod yX5_parrotTold, Cond.selects RX5 yX5_parrotTold yX5_parrotTold, Cond.code yX5_parrotTold cX5_parrotTold 5 (some .int)]
def wsX5_digest_r2 : List Cond := [Cond.methodLink RX5 51 yX5_place, Cond.instanceMethod yX5_place, Cond.selects RX5 yX5_place yX5_place, Cond.code yX5_place cX5_place 4 (some .int), Cond.methodLink RX5 67 yX5_heard, Cond.instanceMethod yX5_heard, Cond.selects RX5 yX5_heard yX5_heard, Cond.code yX5_heard cX5_heard 4 (some .int), Cond.methodLink RX5 73 yX5_halfTold, Cond.instanceMethod yX5_halfTold, Cond.selects RX5 yX5_halfTold yX5_halfTold, Cond.code yX5_halfTold cX5_halfTold 4 (some .int)]
def wsX5_digest : List Cond := .code yX5_digest cX5_digest 6 (some .long) :: ((wsX5_digest_r1 ++ wsX5_digest_r2) ++ wsX50)
def wsJ9_max_7cf53 : List Cond := .code yJ9_max_7cf53 cJ9_max_7cf53 2 (some .int) :: ([])
def wsJ9_min_7cf53 : List Cond := .code yJ9_min_7cf53 cJ9_min_7cf53 2 (some .int) :: ([])
def wsL_come_r1 : List Cond := [Cond.classLink RL 13 "java/lang/IllegalArgumentException", Cond.classLink RL 15 "java/lang/IllegalStateException", Cond.methodLink RL 7 yX4_come, Cond.instanceMethod yX4_come, Cond.selects RX4 yX4_come yX4_come, Cond.initialized RX4, Cond.code yX4_come cX4_come 4 (some .int), Cond.classLink RX4 33 "java/lang/IllegalArgumentException", Cond.initialized "java/lang/IllegalArgumentException", Cond.classLink RX4 48 "java/lang/IllegalStateException", Cond.initialized "java/lang/IllegalStateException", Cond.fieldLink RX4 10 "ParrotJury" "seats" "LParrotJury$Seats;", Cond.fieldLink RX4 19 "ParrotJury" "now" "LParrotJury$Talk;", Cond.methodLink RX4 29 yX4_isOutside, Cond.static yX4_isOutside, Cond.code yX4_isOutside cX4_isOutside 3 (some .boolean), Cond.methodLink RX4 40 yX4_needLoud, Cond.static yX4_needLoud, Cond.code yX4_needLoud cX4_needLoud 1 none, Cond.methodLink RX4 44 yX2_size, Cond.instanceMethod yX2_size, Cond.selects RX2 yX2_size yX2_size, Cond.initialized RX2, Cond.code yX2_size cX2_size 1 (some .int)]
def wsL_come_r2 : List Cond := [Cond.fieldLink RX2 9 "ParrotJury$Seats" "size" "I", Cond.methodLink RX4 53 yX2_seat, Cond.instanceMethod yX2_seat, Cond.selects RX2 yX2_seat yX2_seat, Cond.code yX2_seat cX2_seat 4 (some .int), Cond.fieldLink RX2 20 "ParrotJury$Seats" "memory" "LParrotJury$Row;", Cond.fieldLink RX2 24 "ParrotJury$Seats" "loud" "LParrotJury$Row;", Cond.methodLink RX2 37 yX1_put, Cond.instanceMethod yX1_put, Cond.selects RX1 yX1_put yX1_put, Cond.initialized RX1, Cond.code yX1_put cX1_put 3 none, Cond.fieldLink RX1 13 "ParrotJury$Row" "cells" "[I", Cond.methodLink RX4 57 yX3_takeFromCourt, Cond.instanceMethod yX3_takeFromCourt, Cond.selects RX3 yX3_takeFromCourt yX3_takeFromCourt, Cond.initialized RX3, Cond.code yX3_takeFromCourt cX3_takeFromCourt 4 none, Cond.fieldLink RX3 30 "ParrotJury$Talk" "firsts" "LParrotJury$Halves;", Cond.fieldLink RX3 34 "ParrotJury$Talk" "lasts" "LParrotJury$Halves;", Cond.fieldLink RX3 23 "ParrotJury$Talk" "sure" "LParrotJury$Row;", Cond.methodLink RX3 44 yX0_takeFromCourt, Cond.instanceMethod yX0_takeFromCourt, Cond.selects RX0 yX0_takeFromCourt yX0_takeFromCourt]
def wsL_come_r3 : List Cond := [Cond.initialized RX0, Cond.code yX0_takeFromCourt cX0_takeFromCourt 3 none, Cond.fieldLink RX0 14 "ParrotJury$Halves" "value" "LParrotJury$Row;", Cond.fieldLink RX0 20 "ParrotJury$Halves" "from" "LParrotJury$Row;", Cond.fieldLink RX0 23 "ParrotJury$Halves" "over" "LParrotJury$Row;", Cond.methodLink RX0 30 yX1_put, Cond.methodLink RX3 48 yX1_put]
def wsL_come : List Cond := .codeWith yL_come cL_come 5 (some .int) [(0, 10, 13, 13), (0, 10, 17, 15)] :: ((wsL_come_r1 ++ (wsL_come_r2 ++ wsL_come_r3)) ++ wsX40 ++ wsX20 ++ wsX10 ++ wsX30 ++ wsX00 ++ (vx_atS RX4 37 "java/lang/IllegalArgumentException" ["java/lang/RuntimeException", "java/lang/Exception"]).filter goodWord ++ (vx_atS RX4 52 "java/lang/IllegalStateException" ["java/lang/RuntimeException", "java/lang/Exception"]).filter goodWord)
def wsL_listen_r1 : List Cond := [Cond.classLink RL 20 "java/lang/IndexOutOfBoundsException", Cond.classLink RL 13 "java/lang/IllegalArgumentException", Cond.classLink RL 15 "java/lang/IllegalStateException", Cond.methodLink RL 17 yX4_listen, Cond.instanceMethod yX4_listen, Cond.selects RX4 yX4_listen yX4_listen, Cond.initialized RX4, Cond.code yX4_listen cX4_listen 4 (some .int), Cond.classLink RX4 33 "java/lang/IllegalArgumentException", Cond.initialized "java/lang/IllegalArgumentException", Cond.classLink RX4 48 "java/lang/IllegalStateException", Cond.initialized "java/lang/IllegalStateException", Cond.fieldLink RX4 10 "ParrotJury" "seats" "LParrotJury$Seats;", Cond.methodLink RX4 61 yX4_needParrot, Cond.instanceMethod yX4_needParrot, Cond.selects RX4 yX4_needParrot yX4_needParrot, Cond.code yX4_needParrot cX4_needParrot 2 none, Cond.classLink RX4 106 "java/lang/IndexOutOfBoundsException", Cond.initialized "java/lang/IndexOutOfBoundsException", Cond.methodLink RX4 44 yX2_size, Cond.instanceMethod yX2_size, Cond.selects RX2 yX2_size yX2_size, Cond.initialized RX2, Cond.code yX2_size cX2_size 1 (some .int)]
def wsL_listen_r2 : List Cond := [Cond.fieldLink RX2 9 "ParrotJury$Seats" "size" "I", Cond.methodLink RX4 66 yX2_placeOf, Cond.instanceMethod yX2_placeOf, Cond.selects RX2 yX2_placeOf yX2_placeOf, Cond.code yX2_placeOf cX2_placeOf 5 (some .int), Cond.fieldLink RX2 27 "ParrotJury$Seats" "listening" "LParrotJury$Row;", Cond.methodLink RX2 33 yX1_at, Cond.instanceMethod yX1_at, Cond.selects RX1 yX1_at yX1_at, Cond.initialized RX1, Cond.code yX1_at cX1_at 2 (some .int), Cond.fieldLink RX1 13 "ParrotJury$Row" "cells" "[I", Cond.methodLink RX2 41 yX2_other, Cond.instanceMethod yX2_other, Cond.selects RX2 yX2_other yX2_other, Cond.code yX2_other cX2_other 3 (some .int), Cond.fieldLink RX2 30 "ParrotJury$Seats" "others" "LParrotJury$Row;", Cond.methodLink RX4 69 yX2_dropOther, Cond.instanceMethod yX2_dropOther, Cond.selects RX2 yX2_dropOther yX2_dropOther, Cond.code yX2_dropOther cX2_dropOther 5 none, Cond.methodLink RX2 37 yX1_put, Cond.instanceMethod yX1_put, Cond.selects RX1 yX1_put yX1_put]
def wsL_listen_r3 : List Cond := [Cond.code yX1_put cX1_put 3 none, Cond.methodLink RX4 73 yX2_listening, Cond.instanceMethod yX2_listening, Cond.selects RX2 yX2_listening yX2_listening, Cond.code yX2_listening cX2_listening 2 (some .int), Cond.methodLink RX4 79 yX2_addOther, Cond.instanceMethod yX2_addOther, Cond.selects RX2 yX2_addOther yX2_addOther, Cond.code yX2_addOther cX2_addOther 4 none]
def wsL_listen : List Cond := .codeWith yL_listen cL_listen 5 (some .int) [(0, 10, 13, 20), (0, 10, 17, 13), (0, 10, 21, 15)] :: ((wsL_listen_r1 ++ (wsL_listen_r2 ++ wsL_listen_r3)) ++ wsX40 ++ wsX20 ++ wsX10 ++ (vx_atS RX4 37 "java/lang/IllegalArgumentException" ["java/lang/RuntimeException", "java/lang/Exception"]).filter goodWord ++ (vx_atS RX4 52 "java/lang/IllegalStateException" ["java/lang/RuntimeException", "java/lang/Exception"]).filter goodWord ++ (vx_atS RX4 110 "java/lang/IndexOutOfBoundsException" ["java/lang/RuntimeException", "java/lang/Exception"]).filter goodWord)
def wsL_raise_r1 : List Cond := [Cond.classLink RL 20 "java/lang/IndexOutOfBoundsException", Cond.classLink RL 13 "java/lang/IllegalArgumentException", Cond.methodLink RL 22 yX4_raise, Cond.instanceMethod yX4_raise, Cond.selects RX4 yX4_raise yX4_raise, Cond.initialized RX4, Cond.code yX4_raise cX4_raise 4 (some .int), Cond.fieldLink RX4 10 "ParrotJury" "seats" "LParrotJury$Seats;", Cond.methodLink RX4 61 yX4_needParrot, Cond.instanceMethod yX4_needParrot, Cond.selects RX4 yX4_needParrot yX4_needParrot, Cond.code yX4_needParrot cX4_needParrot 2 none, Cond.classLink RX4 106 "java/lang/IndexOutOfBoundsException", Cond.initialized "java/lang/IndexOutOfBoundsException", Cond.methodLink RX4 44 yX2_size, Cond.instanceMethod yX2_size, Cond.selects RX2 yX2_size yX2_size, Cond.initialized RX2, Cond.code yX2_size cX2_size 1 (some .int), Cond.fieldLink RX2 9 "ParrotJury$Seats" "size" "I", Cond.methodLink RX4 40 yX4_needLoud, Cond.static yX4_needLoud, Cond.code yX4_needLoud cX4_needLoud 1 none, Cond.classLink RX4 33 "java/lang/IllegalArgumentException"]
def wsL_raise_r2 : List Cond := [Cond.initialized "java/lang/IllegalArgumentException", Cond.methodLink RX4 29 yX4_isOutside, Cond.static yX4_isOutside, Cond.code yX4_isOutside cX4_isOutside 3 (some .boolean), Cond.methodLink RX4 82 yX2_loud, Cond.instanceMethod yX2_loud, Cond.selects RX2 yX2_loud yX2_loud, Cond.code yX2_loud cX2_loud 2 (some .int), Cond.fieldLink RX2 24 "ParrotJury$Seats" "loud" "LParrotJury$Row;", Cond.methodLink RX2 33 yX1_at, Cond.instanceMethod yX1_at, Cond.selects RX1 yX1_at yX1_at, Cond.initialized RX1, Cond.code yX1_at cX1_at 2 (some .int), Cond.fieldLink RX1 13 "ParrotJury$Row" "cells" "[I", Cond.methodLink RX4 85 yX2_setLoud, Cond.instanceMethod yX2_setLoud, Cond.selects RX2 yX2_setLoud yX2_setLoud, Cond.code yX2_setLoud cX2_setLoud 3 none, Cond.methodLink RX2 37 yX1_put, Cond.instanceMethod yX1_put, Cond.selects RX1 yX1_put yX1_put, Cond.code yX1_put cX1_put 3 none]
def wsL_raise : List Cond := .codeWith yL_raise cL_raise 5 (some .int) [(0, 10, 13, 20), (0, 10, 17, 13)] :: ((wsL_raise_r1 ++ wsL_raise_r2) ++ wsX40 ++ wsX20 ++ wsX10 ++ (vx_atS RX4 110 "java/lang/IndexOutOfBoundsException" ["java/lang/RuntimeException", "java/lang/Exception"]).filter goodWord ++ (vx_atS RX4 37 "java/lang/IllegalArgumentException" ["java/lang/RuntimeException", "java/lang/Exception"]).filter goodWord)
def wsL_whisper_r1 : List Cond := [Cond.classLink RL 20 "java/lang/IndexOutOfBoundsException", Cond.classLink RL 13 "java/lang/IllegalArgumentException", Cond.methodLink RL 25 yX4_whisper, Cond.instanceMethod yX4_whisper, Cond.selects RX4 yX4_whisper yX4_whisper, Cond.initialized RX4, Cond.code yX4_whisper cX4_whisper 5 (some .int), Cond.classLink RX4 33 "java/lang/IllegalArgumentException", Cond.initialized "java/lang/IllegalArgumentException", Cond.fieldLink RX4 19 "ParrotJury" "now" "LParrotJury$Talk;", Cond.methodLink RX4 61 yX4_needParrot, Cond.instanceMethod yX4_needParrot, Cond.selects RX4 yX4_needParrot yX4_needParrot, Cond.code yX4_needParrot cX4_needParrot 2 none, Cond.classLink RX4 106 "java/lang/IndexOutOfBoundsException", Cond.initialized "java/lang/IndexOutOfBoundsException", Cond.fieldLink RX4 10 "ParrotJury" "seats" "LParrotJury$Seats;", Cond.methodLink RX4 44 yX2_size, Cond.instanceMethod yX2_size, Cond.selects RX2 yX2_size yX2_size, Cond.initialized RX2, Cond.code yX2_size cX2_size 1 (some .int), Cond.fieldLink RX2 9 "ParrotJury$Seats" "size" "I", Cond.methodLink RX4 88 yX4_needWord]
def wsL_whisper_r2 : List Cond := [Cond.static yX4_needWord, Cond.code yX4_needWord cX4_needWord 1 none, Cond.methodLink RX4 29 yX4_isOutside, Cond.static yX4_isOutside, Cond.code yX4_isOutside cX4_isOutside 3 (some .boolean), Cond.methodLink RX4 93 yX3_word, Cond.instanceMethod yX3_word, Cond.selects RX3 yX3_word yX3_word, Cond.initialized RX3, Cond.code yX3_word cX3_word 2 (some .int), Cond.fieldLink RX3 30 "ParrotJury$Talk" "firsts" "LParrotJury$Halves;", Cond.fieldLink RX3 34 "ParrotJury$Talk" "lasts" "LParrotJury$Halves;", Cond.methodLink RX3 41 yX0_value, Cond.instanceMethod yX0_value, Cond.selects RX0 yX0_value yX0_value, Cond.initialized RX0, Cond.code yX0_value cX0_value 2 (some .int), Cond.fieldLink RX0 14 "ParrotJury$Halves" "value" "LParrotJury$Row;", Cond.methodLink RX0 26 yX1_at, Cond.instanceMethod yX1_at, Cond.selects RX1 yX1_at yX1_at, Cond.initialized RX1, Cond.code yX1_at cX1_at 2 (some .int), Cond.fieldLink RX1 13 "ParrotJury$Row" "cells" "[I"]
def wsL_whisper_r3 : List Cond := [Cond.methodLink RX4 57 yX3_takeFromCourt, Cond.instanceMethod yX3_takeFromCourt, Cond.selects RX3 yX3_takeFromCourt yX3_takeFromCourt, Cond.code yX3_takeFromCourt cX3_takeFromCourt 4 none, Cond.fieldLink RX3 23 "ParrotJury$Talk" "sure" "LParrotJury$Row;", Cond.methodLink RX3 44 yX0_takeFromCourt, Cond.instanceMethod yX0_takeFromCourt, Cond.selects RX0 yX0_takeFromCourt yX0_takeFromCourt, Cond.code yX0_takeFromCourt cX0_takeFromCourt 3 none, Cond.fieldLink RX0 20 "ParrotJury$Halves" "from" "LParrotJury$Row;", Cond.fieldLink RX0 23 "ParrotJury$Halves" "over" "LParrotJury$Row;", Cond.methodLink RX0 30 yX1_put, Cond.instanceMethod yX1_put, Cond.selects RX1 yX1_put yX1_put, Cond.code yX1_put cX1_put 3 none, Cond.methodLink RX3 48 yX1_put]
def wsL_whisper : List Cond := .codeWith yL_whisper cL_whisper 6 (some .int) [(0, 12, 15, 20), (0, 12, 19, 13)] :: ((wsL_whisper_r1 ++ (wsL_whisper_r2 ++ wsL_whisper_r3)) ++ wsX40 ++ wsX20 ++ wsX30 ++ wsX00 ++ wsX10 ++ (vx_atS RX4 37 "java/lang/IllegalArgumentException" ["java/lang/RuntimeException", "java/lang/Exception"]).filter goodWord ++ (vx_atS RX4 110 "java/lang/IndexOutOfBoundsException" ["java/lang/RuntimeException", "java/lang/Exception"]).filter goodWord)
def wsL_parrot_r1 : List Cond := [Cond.classLink RL 20 "java/lang/IndexOutOfBoundsException", Cond.methodLink RL 29 yX4_parrot, Cond.instanceMethod yX4_parrot, Cond.selects RX4 yX4_parrot yX4_parrot, Cond.initialized RX4, Cond.code yX4_parrot cX4_parrot 3 (some .int), Cond.methodLink RX4 61 yX4_needParrot, Cond.instanceMethod yX4_needParrot, Cond.selects RX4 yX4_needParrot yX4_needParrot, Cond.code yX4_needParrot cX4_needParrot 2 none, Cond.classLink RX4 106 "java/lang/IndexOutOfBoundsException", Cond.initialized "java/lang/IndexOutOfBoundsException", Cond.fieldLink RX4 10 "ParrotJury" "seats" "LParrotJury$Seats;", Cond.methodLink RX4 44 yX2_size, Cond.instanceMethod yX2_size, Cond.selects RX2 yX2_size yX2_size, Cond.initialized RX2, Cond.code yX2_size cX2_size 1 (some .int), Cond.fieldLink RX2 9 "ParrotJury$Seats" "size" "I", Cond.methodLink RX4 96 yX4_needWhat, Cond.static yX4_needWhat, Cond.code yX4_needWhat cX4_needWhat 2 none, Cond.methodLink RX4 29 yX4_isOutside, Cond.static yX4_isOutside]
def wsL_parrot_r2 : List Cond := [Cond.code yX4_isOutside cX4_isOutside 3 (some .boolean), Cond.methodLink RX4 99 yX4_tellOfParrot, Cond.instanceMethod yX4_tellOfParrot, Cond.selects RX4 yX4_tellOfParrot yX4_tellOfParrot, Cond.code yX4_tellOfParrot cX4_tellOfParrot 3 (some .int), Cond.fieldLink RX4 19 "ParrotJury" "now" "LParrotJury$Talk;", Cond.methodLink RX4 93 yX3_word, Cond.instanceMethod yX3_word, Cond.selects RX3 yX3_word yX3_word, Cond.initialized RX3, Cond.code yX3_word cX3_word 2 (some .int), Cond.fieldLink RX3 30 "ParrotJury$Talk" "firsts" "LParrotJury$Halves;", Cond.fieldLink RX3 34 "ParrotJury$Talk" "lasts" "LParrotJury$Halves;", Cond.methodLink RX3 41 yX0_value, Cond.instanceMethod yX0_value, Cond.selects RX0 yX0_value yX0_value, Cond.initialized RX0, Cond.code yX0_value cX0_value 2 (some .int), Cond.fieldLink RX0 14 "ParrotJury$Halves" "value" "LParrotJury$Row;", Cond.methodLink RX0 26 yX1_at, Cond.instanceMethod yX1_at, Cond.selects RX1 yX1_at yX1_at, Cond.initialized RX1, Cond.code yX1_at cX1_at 2 (some .int)]
def wsL_parrot_r3 : List Cond := [Cond.fieldLink RX1 13 "ParrotJury$Row" "cells" "[I", Cond.methodLink RX4 180 yX3_sure, Cond.instanceMethod yX3_sure, Cond.selects RX3 yX3_sure yX3_sure, Cond.code yX3_sure cX3_sure 2 (some .int), Cond.fieldLink RX3 23 "ParrotJury$Talk" "sure" "LParrotJury$Row;", Cond.methodLink RX3 37 yX1_at, Cond.methodLink RX4 183 yX2_memory, Cond.instanceMethod yX2_memory, Cond.selects RX2 yX2_memory yX2_memory, Cond.code yX2_memory cX2_memory 2 (some .int), Cond.fieldLink RX2 20 "ParrotJury$Seats" "memory" "LParrotJury$Row;", Cond.methodLink RX2 33 yX1_at, Cond.methodLink RX4 82 yX2_loud, Cond.instanceMethod yX2_loud, Cond.selects RX2 yX2_loud yX2_loud, Cond.code yX2_loud cX2_loud 2 (some .int), Cond.fieldLink RX2 24 "ParrotJury$Seats" "loud" "LParrotJury$Row;", Cond.methodLink RX4 73 yX2_listening, Cond.instanceMethod yX2_listening, Cond.selects RX2 yX2_listening yX2_listening, Cond.code yX2_listening cX2_listening 2 (some .int), Cond.fieldLink RX2 27 "ParrotJury$Seats" "listening" "LParrotJury$Row;", Cond.methodLink RX4 186 yX2_listeners]
def wsL_parrot_r4 : List Cond := [Cond.instanceMethod yX2_listeners, Cond.selects RX2 yX2_listeners yX2_listeners, Cond.code yX2_listeners cX2_listeners 4 (some .int), Cond.methodLink RX2 45 yX2_placeOf, Cond.instanceMethod yX2_placeOf, Cond.selects RX2 yX2_placeOf yX2_placeOf, Cond.code yX2_placeOf cX2_placeOf 5 (some .int), Cond.methodLink RX2 41 yX2_other, Cond.instanceMethod yX2_other, Cond.selects RX2 yX2_other yX2_other, Cond.code yX2_other cX2_other 3 (some .int), Cond.fieldLink RX2 30 "ParrotJury$Seats" "others" "LParrotJury$Row;", Cond.methodLink RX4 189 yX2_heard, Cond.instanceMethod yX2_heard, Cond.selects RX2 yX2_heard yX2_heard, Cond.code yX2_heard cX2_heard 7 (some .int)]
def wsL_parrot : List Cond := .codeWith yL_parrot cL_parrot 5 (some .int) [(0, 10, 13, 20)] :: ((wsL_parrot_r1 ++ (wsL_parrot_r2 ++ (wsL_parrot_r3 ++ wsL_parrot_r4))) ++ wsX40 ++ wsX20 ++ wsX30 ++ wsX00 ++ wsX10 ++ (vx_atS RX4 110 "java/lang/IndexOutOfBoundsException" ["java/lang/RuntimeException", "java/lang/Exception"]).filter goodWord)
def wsL_half_r1 : List Cond := [Cond.classLink RL 20 "java/lang/IndexOutOfBoundsException", Cond.methodLink RL 32 yX4_half, Cond.instanceMethod yX4_half, Cond.selects RX4 yX4_half yX4_half, Cond.initialized RX4, Cond.code yX4_half cX4_half 4 (some .int), Cond.methodLink RX4 61 yX4_needParrot, Cond.instanceMethod yX4_needParrot, Cond.selects RX4 yX4_needParrot yX4_needParrot, Cond.code yX4_needParrot cX4_needParrot 2 none, Cond.classLink RX4 106 "java/lang/IndexOutOfBoundsException", Cond.initialized "java/lang/IndexOutOfBoundsException", Cond.fieldLink RX4 10 "ParrotJury" "seats" "LParrotJury$Seats;", Cond.methodLink RX4 44 yX2_size, Cond.instanceMethod yX2_size, Cond.selects RX2 yX2_size yX2_size, Cond.initialized RX2, Cond.code yX2_size cX2_size 1 (some .int), Cond.fieldLink RX2 9 "ParrotJury$Seats" "size" "I", Cond.methodLink RX4 96 yX4_needWhat, Cond.static yX4_needWhat, Cond.code yX4_needWhat cX4_needWhat 2 none, Cond.methodLink RX4 29 yX4_isOutside, Cond.static yX4_isOutside]
def wsL_half_r2 : List Cond := [Cond.code yX4_isOutside cX4_isOutside 3 (some .boolean), Cond.methodLink RX4 102 yX4_tellOfHalf, Cond.instanceMethod yX4_tellOfHalf, Cond.selects RX4 yX4_tellOfHalf yX4_tellOfHalf, Cond.code yX4_tellOfHalf cX4_tellOfHalf 5 (some .int), Cond.fieldLink RX4 19 "ParrotJury" "now" "LParrotJury$Talk;", Cond.methodLink RX4 118 yX3_halves, Cond.instanceMethod yX3_halves, Cond.selects RX3 yX3_halves yX3_halves, Cond.initialized RX3, Cond.code yX3_halves cX3_halves 2 (some (.object "ParrotJury$Halves")), Cond.fieldLink RX3 34 "ParrotJury$Talk" "lasts" "LParrotJury$Halves;", Cond.fieldLink RX3 30 "ParrotJury$Talk" "firsts" "LParrotJury$Halves;", Cond.methodLink RX4 122 yX0_value, Cond.instanceMethod yX0_value, Cond.selects RX0 yX0_value yX0_value, Cond.initialized RX0, Cond.code yX0_value cX0_value 2 (some .int), Cond.fieldLink RX0 14 "ParrotJury$Halves" "value" "LParrotJury$Row;", Cond.methodLink RX0 26 yX1_at, Cond.instanceMethod yX1_at, Cond.selects RX1 yX1_at yX1_at, Cond.initialized RX1, Cond.code yX1_at cX1_at 2 (some .int)]
def wsL_half_r3 : List Cond := [Cond.fieldLink RX1 13 "ParrotJury$Row" "cells" "[I", Cond.methodLink RX4 192 yX0_from, Cond.instanceMethod yX0_from, Cond.selects RX0 yX0_from yX0_from, Cond.code yX0_from cX0_from 2 (some .int), Cond.fieldLink RX0 20 "ParrotJury$Halves" "from" "LParrotJury$Row;", Cond.methodLink RX4 195 yX0_over, Cond.instanceMethod yX0_over, Cond.selects RX0 yX0_over yX0_over, Cond.code yX0_over cX0_over 2 (some .int), Cond.fieldLink RX0 23 "ParrotJury$Halves" "over" "LParrotJury$Row;"]
def wsL_half : List Cond := .codeWith yL_half cL_half 6 (some .int) [(0, 12, 15, 20)] :: ((wsL_half_r1 ++ (wsL_half_r2 ++ wsL_half_r3)) ++ wsX40 ++ wsX20 ++ wsX30 ++ wsX00 ++ wsX10 ++ (vx_atS RX4 110 "java/lang/IndexOutOfBoundsException" ["java/lang/RuntimeException", "java/lang/Exception"]).filter goodWord)
def wsL_hears_r1 : List Cond := [Cond.classLink RL 20 "java/lang/IndexOutOfBoundsException", Cond.methodLink RL 36 yX4_hears, Cond.instanceMethod yX4_hears, Cond.selects RX4 yX4_hears yX4_hears, Cond.initialized RX4, Cond.code yX4_hears cX4_hears 3 (some .int), Cond.classLink RX4 106 "java/lang/IndexOutOfBoundsException", Cond.initialized "java/lang/IndexOutOfBoundsException", Cond.fieldLink RX4 10 "ParrotJury" "seats" "LParrotJury$Seats;", Cond.methodLink RX4 61 yX4_needParrot, Cond.instanceMethod yX4_needParrot, Cond.selects RX4 yX4_needParrot yX4_needParrot, Cond.code yX4_needParrot cX4_needParrot 2 none, Cond.methodLink RX4 44 yX2_size, Cond.instanceMethod yX2_size, Cond.selects RX2 yX2_size yX2_size, Cond.initialized RX2, Cond.code yX2_size cX2_size 1 (some .int), Cond.fieldLink RX2 9 "ParrotJury$Seats" "size" "I", Cond.methodLink RX4 73 yX2_listening, Cond.instanceMethod yX2_listening, Cond.selects RX2 yX2_listening yX2_listening, Cond.code yX2_listening cX2_listening 2 (some .int), Cond.fieldLink RX2 27 "ParrotJury$Seats" "listening" "LParrotJury$Row;"]
def wsL_hears_r2 : List Cond := [Cond.methodLink RX2 33 yX1_at, Cond.instanceMethod yX1_at, Cond.selects RX1 yX1_at yX1_at, Cond.initialized RX1, Cond.code yX1_at cX1_at 2 (some .int), Cond.fieldLink RX1 13 "ParrotJury$Row" "cells" "[I", Cond.methodLink RX4 111 yX2_other, Cond.instanceMethod yX2_other, Cond.selects RX2 yX2_other yX2_other, Cond.code yX2_other cX2_other 3 (some .int), Cond.fieldLink RX2 30 "ParrotJury$Seats" "others" "LParrotJury$Row;"]
def wsL_hears : List Cond := .codeWith yL_hears cL_hears 5 (some .int) [(0, 10, 13, 20)] :: ((wsL_hears_r1 ++ wsL_hears_r2) ++ wsX40 ++ wsX20 ++ wsX10 ++ (vx_atS RX4 110 "java/lang/IndexOutOfBoundsException" ["java/lang/RuntimeException", "java/lang/Exception"]).filter goodWord)
def wsL_votes_r1 : List Cond := [Cond.classLink RL 13 "java/lang/IllegalArgumentException", Cond.methodLink RL 39 yX4_votes, Cond.instanceMethod yX4_votes, Cond.selects RX4 yX4_votes yX4_votes, Cond.initialized RX4, Cond.code yX4_votes cX4_votes 2 (some .int), Cond.fieldLink RX4 19 "ParrotJury" "now" "LParrotJury$Talk;", Cond.methodLink RX4 88 yX4_needWord, Cond.static yX4_needWord, Cond.code yX4_needWord cX4_needWord 1 none, Cond.classLink RX4 33 "java/lang/IllegalArgumentException", Cond.initialized "java/lang/IllegalArgumentException", Cond.methodLink RX4 29 yX4_isOutside, Cond.static yX4_isOutside, Cond.code yX4_isOutside cX4_isOutside 3 (some .boolean), Cond.methodLink RX4 114 yX4_votesIn, Cond.instanceMethod yX4_votesIn, Cond.selects RX4 yX4_votesIn yX4_votesIn, Cond.code yX4_votesIn cX4_votesIn 6 (some .int), Cond.fieldLink RX4 10 "ParrotJury" "seats" "LParrotJury$Seats;", Cond.methodLink RX4 44 yX2_size, Cond.instanceMethod yX2_size, Cond.selects RX2 yX2_size yX2_size, Cond.initialized RX2]
def wsL_votes_r2 : List Cond := [Cond.code yX2_size cX2_size 1 (some .int), Cond.fieldLink RX2 9 "ParrotJury$Seats" "size" "I", Cond.methodLink RX4 93 yX3_word, Cond.instanceMethod yX3_word, Cond.selects RX3 yX3_word yX3_word, Cond.initialized RX3, Cond.code yX3_word cX3_word 2 (some .int), Cond.fieldLink RX3 30 "ParrotJury$Talk" "firsts" "LParrotJury$Halves;", Cond.fieldLink RX3 34 "ParrotJury$Talk" "lasts" "LParrotJury$Halves;", Cond.methodLink RX3 41 yX0_value, Cond.instanceMethod yX0_value, Cond.selects RX0 yX0_value yX0_value, Cond.initialized RX0, Cond.code yX0_value cX0_value 2 (some .int), Cond.fieldLink RX0 14 "ParrotJury$Halves" "value" "LParrotJury$Row;", Cond.methodLink RX0 26 yX1_at, Cond.instanceMethod yX1_at, Cond.selects RX1 yX1_at yX1_at, Cond.initialized RX1, Cond.code yX1_at cX1_at 2 (some .int), Cond.fieldLink RX1 13 "ParrotJury$Row" "cells" "[I"]
def wsL_votes : List Cond := .codeWith yL_votes cL_votes 4 (some .int) [(0, 9, 12, 13)] :: ((wsL_votes_r1 ++ wsL_votes_r2) ++ wsX40 ++ wsX20 ++ wsX30 ++ wsX00 ++ wsX10 ++ (vx_atS RX4 37 "java/lang/IllegalArgumentException" ["java/lang/RuntimeException", "java/lang/Exception"]).filter goodWord)
def wsL_left_r1 : List Cond := [Cond.classLink RL 13 "java/lang/IllegalArgumentException", Cond.methodLink RL 43 yX4_left, Cond.instanceMethod yX4_left, Cond.selects RX4 yX4_left yX4_left, Cond.initialized RX4, Cond.code yX4_left cX4_left 5 (some .int), Cond.fieldLink RX4 10 "ParrotJury" "seats" "LParrotJury$Seats;", Cond.fieldLink RX4 19 "ParrotJury" "now" "LParrotJury$Talk;", Cond.methodLink RX4 88 yX4_needWord, Cond.static yX4_needWord, Cond.code yX4_needWord cX4_needWord 1 none, Cond.classLink RX4 33 "java/lang/IllegalArgumentException", Cond.initialized "java/lang/IllegalArgumentException", Cond.methodLink RX4 29 yX4_isOutside, Cond.static yX4_isOutside, Cond.code yX4_isOutside cX4_isOutside 3 (some .boolean), Cond.methodLink RX4 44 yX2_size, Cond.instanceMethod yX2_size, Cond.selects RX2 yX2_size yX2_size, Cond.initialized RX2, Cond.code yX2_size cX2_size 1 (some .int), Cond.fieldLink RX2 9 "ParrotJury$Seats" "size" "I", Cond.methodLink RX4 118 yX3_halves, Cond.instanceMethod yX3_halves]
def wsL_left_r2 : List Cond := [Cond.selects RX3 yX3_halves yX3_halves, Cond.initialized RX3, Cond.code yX3_halves cX3_halves 2 (some (.object "ParrotJury$Halves")), Cond.fieldLink RX3 34 "ParrotJury$Talk" "lasts" "LParrotJury$Halves;", Cond.fieldLink RX3 30 "ParrotJury$Talk" "firsts" "LParrotJury$Halves;", Cond.methodLink RX4 122 yX0_value, Cond.instanceMethod yX0_value, Cond.selects RX0 yX0_value yX0_value, Cond.initialized RX0, Cond.code yX0_value cX0_value 2 (some .int), Cond.fieldLink RX0 14 "ParrotJury$Halves" "value" "LParrotJury$Row;", Cond.methodLink RX0 26 yX1_at, Cond.instanceMethod yX1_at, Cond.selects RX1 yX1_at yX1_at, Cond.initialized RX1, Cond.code yX1_at cX1_at 2 (some .int), Cond.fieldLink RX1 13 "ParrotJury$Row" "cells" "[I"]
def wsL_left : List Cond := .codeWith yL_left cL_left 4 (some .int) [(0, 9, 12, 13)] :: ((wsL_left_r1 ++ wsL_left_r2) ++ wsX40 ++ wsX20 ++ wsX30 ++ wsX00 ++ wsX10 ++ (vx_atS RX4 37 "java/lang/IllegalArgumentException" ["java/lang/RuntimeException", "java/lang/Exception"]).filter goodWord)
def wsL_count_r1 : List Cond := [Cond.classLink RL 20 "java/lang/IndexOutOfBoundsException", Cond.methodLink RL 46 yX4_count, Cond.instanceMethod yX4_count, Cond.selects RX4 yX4_count yX4_count, Cond.initialized RX4, Cond.code yX4_count cX4_count 2 (some .int), Cond.methodLink RX4 96 yX4_needWhat, Cond.static yX4_needWhat, Cond.code yX4_needWhat cX4_needWhat 2 none, Cond.classLink RX4 106 "java/lang/IndexOutOfBoundsException", Cond.initialized "java/lang/IndexOutOfBoundsException", Cond.methodLink RX4 29 yX4_isOutside, Cond.static yX4_isOutside, Cond.code yX4_isOutside cX4_isOutside 3 (some .boolean), Cond.methodLink RX4 127 yX4_tellOfJury, Cond.instanceMethod yX4_tellOfJury, Cond.selects RX4 yX4_tellOfJury yX4_tellOfJury, Cond.code yX4_tellOfJury cX4_tellOfJury 2 (some .int), Cond.fieldLink RX4 19 "ParrotJury" "now" "LParrotJury$Talk;", Cond.fieldLink RX4 10 "ParrotJury" "seats" "LParrotJury$Seats;", Cond.methodLink RX4 198 yX3_round, Cond.instanceMethod yX3_round, Cond.selects RX3 yX3_round yX3_round, Cond.initialized RX3]
def wsL_count_r2 : List Cond := [Cond.code yX3_round cX3_round 1 (some .int), Cond.fieldLink RX3 9 "ParrotJury$Talk" "round" "I", Cond.methodLink RX4 44 yX2_size, Cond.instanceMethod yX2_size, Cond.selects RX2 yX2_size yX2_size, Cond.initialized RX2, Cond.code yX2_size cX2_size 1 (some .int), Cond.fieldLink RX2 9 "ParrotJury$Seats" "size" "I", Cond.methodLink RX4 201 yX4_differentWords, Cond.instanceMethod yX4_differentWords, Cond.selects RX4 yX4_differentWords yX4_differentWords, Cond.code yX4_differentWords cX4_differentWords 4 (some .int), Cond.methodLink RX4 207 yX4_isFirstWithItsWord, Cond.instanceMethod yX4_isFirstWithItsWord, Cond.selects RX4 yX4_isFirstWithItsWord yX4_isFirstWithItsWord, Cond.code yX4_isFirstWithItsWord cX4_isFirstWithItsWord 4 (some .boolean), Cond.methodLink RX4 93 yX3_word, Cond.instanceMethod yX3_word, Cond.selects RX3 yX3_word yX3_word, Cond.code yX3_word cX3_word 2 (some .int), Cond.fieldLink RX3 30 "ParrotJury$Talk" "firsts" "LParrotJury$Halves;", Cond.fieldLink RX3 34 "ParrotJury$Talk" "lasts" "LParrotJury$Halves;", Cond.methodLink RX3 41 yX0_value, Cond.instanceMethod yX0_value]
def wsL_count_r3 : List Cond := [Cond.selects RX0 yX0_value yX0_value, Cond.initialized RX0, Cond.code yX0_value cX0_value 2 (some .int), Cond.fieldLink RX0 14 "ParrotJury$Halves" "value" "LParrotJury$Row;", Cond.methodLink RX0 26 yX1_at, Cond.instanceMethod yX1_at, Cond.selects RX1 yX1_at yX1_at, Cond.initialized RX1, Cond.code yX1_at cX1_at 2 (some .int), Cond.fieldLink RX1 13 "ParrotJury$Row" "cells" "[I", Cond.methodLink RX4 204 yX4_halvesFromCourt, Cond.instanceMethod yX4_halvesFromCourt, Cond.selects RX4 yX4_halvesFromCourt yX4_halvesFromCourt, Cond.code yX4_halvesFromCourt cX4_halvesFromCourt 4 (some .int), Cond.methodLink RX4 118 yX3_halves, Cond.instanceMethod yX3_halves, Cond.selects RX3 yX3_halves yX3_halves, Cond.code yX3_halves cX3_halves 2 (some (.object "ParrotJury$Halves")), Cond.methodLink RX4 192 yX0_from, Cond.instanceMethod yX0_from, Cond.selects RX0 yX0_from yX0_from, Cond.code yX0_from cX0_from 2 (some .int), Cond.fieldLink RX0 20 "ParrotJury$Halves" "from" "LParrotJury$Row;", Cond.methodLink RX4 158 yX4_sureOfAll]
def wsL_count_r4 : List Cond := [Cond.instanceMethod yX4_sureOfAll, Cond.selects RX4 yX4_sureOfAll yX4_sureOfAll, Cond.code yX4_sureOfAll cX4_sureOfAll 4 (some .int), Cond.methodLink RX4 180 yX3_sure, Cond.instanceMethod yX3_sure, Cond.selects RX3 yX3_sure yX3_sure, Cond.code yX3_sure cX3_sure 2 (some .int), Cond.fieldLink RX3 23 "ParrotJury$Talk" "sure" "LParrotJury$Row;", Cond.methodLink RX3 37 yX1_at, Cond.methodLink RX4 133 yX3_taken, Cond.instanceMethod yX3_taken, Cond.selects RX3 yX3_taken yX3_taken, Cond.code yX3_taken cX3_taken 1 (some .int), Cond.fieldLink RX3 15 "ParrotJury$Talk" "taken" "I"]
def wsL_count : List Cond := .codeWith yL_count cL_count 4 (some .int) [(0, 9, 12, 20)] :: ((wsL_count_r1 ++ (wsL_count_r2 ++ (wsL_count_r3 ++ wsL_count_r4))) ++ wsX40 ++ wsX30 ++ wsX20 ++ wsX00 ++ wsX10 ++ (vx_atS RX4 110 "java/lang/IndexOutOfBoundsException" ["java/lang/RuntimeException", "java/lang/Exception"]).filter goodWord)
def wsL_pass_r1 : List Cond := [Cond.classLink RL 13 "java/lang/IllegalArgumentException", Cond.methodLink RL 49 yX4_pass, Cond.instanceMethod yX4_pass, Cond.selects RX4 yX4_pass yX4_pass, Cond.initialized RX4, Cond.code yX4_pass cX4_pass 3 (some .int), Cond.fieldLink RX4 19 "ParrotJury" "now" "LParrotJury$Talk;", Cond.fieldLink RX4 10 "ParrotJury" "seats" "LParrotJury$Seats;", Cond.fieldLink RX4 26 "ParrotJury" "before" "LParrotJury$Talk;", Cond.methodLink RX4 130 yX4_needRounds, Cond.static yX4_needRounds, Cond.code yX4_needRounds cX4_needRounds 2 none, Cond.classLink RX4 33 "java/lang/IllegalArgumentException", Cond.initialized "java/lang/IllegalArgumentException", Cond.methodLink RX4 29 yX4_isOutside, Cond.static yX4_isOutside, Cond.code yX4_isOutside cX4_isOutside 3 (some .boolean), Cond.methodLink RX4 133 yX3_taken, Cond.instanceMethod yX3_taken, Cond.selects RX3 yX3_taken yX3_taken, Cond.initialized RX3, Cond.code yX3_taken cX3_taken 1 (some .int), Cond.fieldLink RX3 15 "ParrotJury$Talk" "taken" "I", Cond.methodLink RX4 136 yX3_goRounds]
def wsL_pass_r2 : List Cond := [Cond.instanceMethod yX3_goRounds, Cond.selects RX3 yX3_goRounds yX3_goRounds, Cond.code yX3_goRounds cX3_goRounds 5 none, Cond.fieldLink RX3 9 "ParrotJury$Talk" "round" "I", Cond.methodLink RX3 58 yX3_copyFrom, Cond.instanceMethod yX3_copyFrom, Cond.selects RX3 yX3_copyFrom yX3_copyFrom, Cond.code yX3_copyFrom cX3_copyFrom 2 none, Cond.fieldLink RX3 23 "ParrotJury$Talk" "sure" "LParrotJury$Row;", Cond.fieldLink RX3 30 "ParrotJury$Talk" "firsts" "LParrotJury$Halves;", Cond.fieldLink RX3 34 "ParrotJury$Talk" "lasts" "LParrotJury$Halves;", Cond.methodLink RX3 51 yX1_copyFrom, Cond.instanceMethod yX1_copyFrom, Cond.selects RX1 yX1_copyFrom yX1_copyFrom, Cond.initialized RX1, Cond.code yX1_copyFrom cX1_copyFrom 2 none, Cond.fieldLink RX1 13 "ParrotJury$Row" "cells" "[I", Cond.methodLink RX1 19 Lib.Math.min.name, Cond.static Lib.Math.min.name, Cond.initialized "java/lang/Math", Cond.code Lib.Math.min.name Lib.Math.min.code 2 (some .int), Cond.methodLink RX1 22 arraycopyName, Cond.native arraycopyName, Cond.static arraycopyName]
def wsL_pass_r3 : List Cond := [Cond.initialized "java/lang/System", Cond.methodLink RX3 55 yX0_copyFrom, Cond.instanceMethod yX0_copyFrom, Cond.selects RX0 yX0_copyFrom yX0_copyFrom, Cond.initialized RX0, Cond.code yX0_copyFrom cX0_copyFrom 2 none, Cond.fieldLink RX0 14 "ParrotJury$Halves" "value" "LParrotJury$Row;", Cond.fieldLink RX0 20 "ParrotJury$Halves" "from" "LParrotJury$Row;", Cond.fieldLink RX0 23 "ParrotJury$Halves" "over" "LParrotJury$Row;", Cond.methodLink RX0 40 yX1_copyFrom, Cond.methodLink RX3 61 yX3_hearAll, Cond.instanceMethod yX3_hearAll, Cond.selects RX3 yX3_hearAll yX3_hearAll, Cond.code yX3_hearAll cX3_hearAll 6 none, Cond.methodLink RX3 69 yX2_size, Cond.instanceMethod yX2_size, Cond.selects RX2 yX2_size yX2_size, Cond.initialized RX2, Cond.code yX2_size cX2_size 1 (some .int), Cond.fieldLink RX2 9 "ParrotJury$Seats" "size" "I", Cond.methodLink RX3 75 yX2_heard, Cond.instanceMethod yX2_heard, Cond.selects RX2 yX2_heard yX2_heard, Cond.code yX2_heard cX2_heard 7 (some .int)]
def wsL_pass_r4 : List Cond := [Cond.fieldLink RX2 27 "ParrotJury$Seats" "listening" "LParrotJury$Row;", Cond.fieldLink RX2 24 "ParrotJury$Seats" "loud" "LParrotJury$Row;", Cond.methodLink RX2 33 yX1_at, Cond.instanceMethod yX1_at, Cond.selects RX1 yX1_at yX1_at, Cond.code yX1_at cX1_at 2 (some .int), Cond.methodLink RX2 41 yX2_other, Cond.instanceMethod yX2_other, Cond.selects RX2 yX2_other yX2_other, Cond.code yX2_other cX2_other 3 (some .int), Cond.fieldLink RX2 30 "ParrotJury$Seats" "others" "LParrotJury$Row;", Cond.methodLink RX3 78 yX3_hear, Cond.instanceMethod yX3_hear, Cond.selects RX3 yX3_hear yX3_hear, Cond.code yX3_hear cX3_hear 6 none, Cond.methodLink RX3 87 Lib.Math.min.name, Cond.methodLink RX3 82 yX3_sure, Cond.instanceMethod yX3_sure, Cond.selects RX3 yX3_sure yX3_sure, Cond.code yX3_sure cX3_sure 2 (some .int), Cond.methodLink RX3 37 yX1_at, Cond.methodLink RX3 84 yX3_word, Cond.instanceMethod yX3_word, Cond.selects RX3 yX3_word yX3_word]
def wsL_pass_r5 : List Cond := [Cond.code yX3_word cX3_word 2 (some .int), Cond.methodLink RX3 41 yX0_value, Cond.instanceMethod yX0_value, Cond.selects RX0 yX0_value yX0_value, Cond.code yX0_value cX0_value 2 (some .int), Cond.methodLink RX0 26 yX1_at, Cond.methodLink RX3 48 yX1_put, Cond.instanceMethod yX1_put, Cond.selects RX1 yX1_put yX1_put, Cond.code yX1_put cX1_put 3 none, Cond.methodLink RX3 93 yX3_halves, Cond.instanceMethod yX3_halves, Cond.selects RX3 yX3_halves yX3_halves, Cond.code yX3_halves cX3_halves 2 (some (.object "ParrotJury$Halves")), Cond.methodLink RX3 97 yX0_takeFrom, Cond.instanceMethod yX0_takeFrom, Cond.selects RX0 yX0_takeFrom yX0_takeFrom, Cond.code yX0_takeFrom cX0_takeFrom 4 none, Cond.methodLink RX0 34 Lib.Math.min.name, Cond.methodLink RX0 30 yX1_put, Cond.methodLink RX3 65 yX3_forgetAll, Cond.instanceMethod yX3_forgetAll, Cond.selects RX3 yX3_forgetAll yX3_forgetAll, Cond.code yX3_forgetAll cX3_forgetAll 5 none]
def wsL_pass_r6 : List Cond := [Cond.methodLink RX3 104 Lib.Math.max.name, Cond.static Lib.Math.max.name, Cond.code Lib.Math.max.name Lib.Math.max.code 2 (some .int), Cond.methodLink RX3 101 yX2_memory, Cond.instanceMethod yX2_memory, Cond.selects RX2 yX2_memory yX2_memory, Cond.code yX2_memory cX2_memory 2 (some .int), Cond.fieldLink RX2 20 "ParrotJury$Seats" "memory" "LParrotJury$Row;"]
def wsL_pass : List Cond := .codeWith yL_pass cL_pass 4 (some .int) [(0, 9, 12, 13)] :: ((wsL_pass_r1 ++ (wsL_pass_r2 ++ (wsL_pass_r3 ++ (wsL_pass_r4 ++ (wsL_pass_r5 ++ wsL_pass_r6))))) ++ wsX40 ++ wsX30 ++ wsX10 ++ wsX00 ++ wsX20 ++ (vx_atS RX4 37 "java/lang/IllegalArgumentException" ["java/lang/RuntimeException", "java/lang/Exception"]).filter goodWord)
def wsL_foresee_r1 : List Cond := [Cond.classLink RL 13 "java/lang/IllegalArgumentException", Cond.classLink RL 20 "java/lang/IndexOutOfBoundsException", Cond.methodLink RL 52 yX4_foresee, Cond.instanceMethod yX4_foresee, Cond.selects RX4 yX4_foresee yX4_foresee, Cond.initialized RX4, Cond.code yX4_foresee cX4_foresee 3 (some .int), Cond.fieldLink RX4 23 "ParrotJury" "would" "LParrotJury$Talk;", Cond.fieldLink RX4 19 "ParrotJury" "now" "LParrotJury$Talk;", Cond.fieldLink RX4 10 "ParrotJury" "seats" "LParrotJury$Seats;", Cond.fieldLink RX4 26 "ParrotJury" "before" "LParrotJury$Talk;", Cond.methodLink RX4 130 yX4_needRounds, Cond.static yX4_needRounds, Cond.code yX4_needRounds cX4_needRounds 2 none, Cond.classLink RX4 33 "java/lang/IllegalArgumentException", Cond.initialized "java/lang/IllegalArgumentException", Cond.methodLink RX4 29 yX4_isOutside, Cond.static yX4_isOutside, Cond.code yX4_isOutside cX4_isOutside 3 (some .boolean), Cond.methodLink RX4 61 yX4_needParrot, Cond.instanceMethod yX4_needParrot, Cond.selects RX4 yX4_needParrot yX4_needParrot, Cond.code yX4_needParrot cX4_needParrot 2 none, Cond.classLink RX4 106 "java/lang/IndexOutOfBoundsException"]
def wsL_foresee_r2 : List Cond := [Cond.initialized "java/lang/IndexOutOfBoundsException", Cond.methodLink RX4 44 yX2_size, Cond.instanceMethod yX2_size, Cond.selects RX2 yX2_size yX2_size, Cond.initialized RX2, Cond.code yX2_size cX2_size 1 (some .int), Cond.fieldLink RX2 9 "ParrotJury$Seats" "size" "I", Cond.methodLink RX4 140 yX3_copyFrom, Cond.instanceMethod yX3_copyFrom, Cond.selects RX3 yX3_copyFrom yX3_copyFrom, Cond.initialized RX3, Cond.code yX3_copyFrom cX3_copyFrom 2 none, Cond.fieldLink RX3 9 "ParrotJury$Talk" "round" "I", Cond.fieldLink RX3 15 "ParrotJury$Talk" "taken" "I", Cond.fieldLink RX3 23 "ParrotJury$Talk" "sure" "LParrotJury$Row;", Cond.fieldLink RX3 30 "ParrotJury$Talk" "firsts" "LParrotJury$Halves;", Cond.fieldLink RX3 34 "ParrotJury$Talk" "lasts" "LParrotJury$Halves;", Cond.methodLink RX3 51 yX1_copyFrom, Cond.instanceMethod yX1_copyFrom, Cond.selects RX1 yX1_copyFrom yX1_copyFrom, Cond.initialized RX1, Cond.code yX1_copyFrom cX1_copyFrom 2 none, Cond.fieldLink RX1 13 "ParrotJury$Row" "cells" "[I", Cond.methodLink RX1 19 Lib.Math.min.name]
def wsL_foresee_r3 : List Cond := [Cond.static Lib.Math.min.name, Cond.initialized "java/lang/Math", Cond.code Lib.Math.min.name Lib.Math.min.code 2 (some .int), Cond.methodLink RX1 22 arraycopyName, Cond.native arraycopyName, Cond.static arraycopyName, Cond.initialized "java/lang/System", Cond.methodLink RX3 55 yX0_copyFrom, Cond.instanceMethod yX0_copyFrom, Cond.selects RX0 yX0_copyFrom yX0_copyFrom, Cond.initialized RX0, Cond.code yX0_copyFrom cX0_copyFrom 2 none, Cond.fieldLink RX0 14 "ParrotJury$Halves" "value" "LParrotJury$Row;", Cond.fieldLink RX0 20 "ParrotJury$Halves" "from" "LParrotJury$Row;", Cond.fieldLink RX0 23 "ParrotJury$Halves" "over" "LParrotJury$Row;", Cond.methodLink RX0 40 yX1_copyFrom, Cond.methodLink RX4 136 yX3_goRounds, Cond.instanceMethod yX3_goRounds, Cond.selects RX3 yX3_goRounds yX3_goRounds, Cond.code yX3_goRounds cX3_goRounds 5 none, Cond.methodLink RX3 58 yX3_copyFrom, Cond.methodLink RX3 61 yX3_hearAll, Cond.instanceMethod yX3_hearAll, Cond.selects RX3 yX3_hearAll yX3_hearAll]
def wsL_foresee_r4 : List Cond := [Cond.code yX3_hearAll cX3_hearAll 6 none, Cond.methodLink RX3 69 yX2_size, Cond.methodLink RX3 75 yX2_heard, Cond.instanceMethod yX2_heard, Cond.selects RX2 yX2_heard yX2_heard, Cond.code yX2_heard cX2_heard 7 (some .int), Cond.fieldLink RX2 27 "ParrotJury$Seats" "listening" "LParrotJury$Row;", Cond.fieldLink RX2 24 "ParrotJury$Seats" "loud" "LParrotJury$Row;", Cond.methodLink RX2 33 yX1_at, Cond.instanceMethod yX1_at, Cond.selects RX1 yX1_at yX1_at, Cond.code yX1_at cX1_at 2 (some .int), Cond.methodLink RX2 41 yX2_other, Cond.instanceMethod yX2_other, Cond.selects RX2 yX2_other yX2_other, Cond.code yX2_other cX2_other 3 (some .int), Cond.fieldLink RX2 30 "ParrotJury$Seats" "others" "LParrotJury$Row;", Cond.methodLink RX3 78 yX3_hear, Cond.instanceMethod yX3_hear, Cond.selects RX3 yX3_hear yX3_hear, Cond.code yX3_hear cX3_hear 6 none, Cond.methodLink RX3 87 Lib.Math.min.name, Cond.methodLink RX3 82 yX3_sure, Cond.instanceMethod yX3_sure]
def wsL_foresee_r5 : List Cond := [Cond.selects RX3 yX3_sure yX3_sure, Cond.code yX3_sure cX3_sure 2 (some .int), Cond.methodLink RX3 37 yX1_at, Cond.methodLink RX3 84 yX3_word, Cond.instanceMethod yX3_word, Cond.selects RX3 yX3_word yX3_word, Cond.code yX3_word cX3_word 2 (some .int), Cond.methodLink RX3 41 yX0_value, Cond.instanceMethod yX0_value, Cond.selects RX0 yX0_value yX0_value, Cond.code yX0_value cX0_value 2 (some .int), Cond.methodLink RX0 26 yX1_at, Cond.methodLink RX3 48 yX1_put, Cond.instanceMethod yX1_put, Cond.selects RX1 yX1_put yX1_put, Cond.code yX1_put cX1_put 3 none, Cond.methodLink RX3 93 yX3_halves, Cond.instanceMethod yX3_halves, Cond.selects RX3 yX3_halves yX3_halves, Cond.code yX3_halves cX3_halves 2 (some (.object "ParrotJury$Halves")), Cond.methodLink RX3 97 yX0_takeFrom, Cond.instanceMethod yX0_takeFrom, Cond.selects RX0 yX0_takeFrom yX0_takeFrom, Cond.code yX0_takeFrom cX0_takeFrom 4 none]
def wsL_foresee_r6 : List Cond := [Cond.methodLink RX0 34 Lib.Math.min.name, Cond.methodLink RX0 30 yX1_put, Cond.methodLink RX3 65 yX3_forgetAll, Cond.instanceMethod yX3_forgetAll, Cond.selects RX3 yX3_forgetAll yX3_forgetAll, Cond.code yX3_forgetAll cX3_forgetAll 5 none, Cond.methodLink RX3 104 Lib.Math.max.name, Cond.static Lib.Math.max.name, Cond.code Lib.Math.max.name Lib.Math.max.code 2 (some .int), Cond.methodLink RX3 101 yX2_memory, Cond.instanceMethod yX2_memory, Cond.selects RX2 yX2_memory yX2_memory, Cond.code yX2_memory cX2_memory 2 (some .int), Cond.fieldLink RX2 20 "ParrotJury$Seats" "memory" "LParrotJury$Row;", Cond.methodLink RX4 93 yX3_word]
def wsL_foresee : List Cond := .codeWith yL_foresee cL_foresee 5 (some .int) [(0, 10, 13, 13), (0, 10, 17, 20)] :: ((wsL_foresee_r1 ++ (wsL_foresee_r2 ++ (wsL_foresee_r3 ++ (wsL_foresee_r4 ++ (wsL_foresee_r5 ++ wsL_foresee_r6))))) ++ wsX40 ++ wsX20 ++ wsX30 ++ wsX10 ++ wsX00 ++ (vx_atS RX4 37 "java/lang/IllegalArgumentException" ["java/lang/RuntimeException", "java/lang/Exception"]).filter goodWord ++ (vx_atS RX4 110 "java/lang/IndexOutOfBoundsException" ["java/lang/RuntimeException", "java/lang/Exception"]).filter goodWord)
def wsL_advise_r1 : List Cond := [Cond.classLink RL 13 "java/lang/IllegalArgumentException", Cond.methodLink RL 55 yX4_advise, Cond.instanceMethod yX4_advise, Cond.selects RX4 yX4_advise yX4_advise, Cond.initialized RX4, Cond.code yX4_advise cX4_advise 8 (some .int), Cond.fieldLink RX4 10 "ParrotJury" "seats" "LParrotJury$Seats;", Cond.methodLink RX4 88 yX4_needWord, Cond.static yX4_needWord, Cond.code yX4_needWord cX4_needWord 1 none, Cond.classLink RX4 33 "java/lang/IllegalArgumentException", Cond.initialized "java/lang/IllegalArgumentException", Cond.methodLink RX4 29 yX4_isOutside, Cond.static yX4_isOutside, Cond.code yX4_isOutside cX4_isOutside 3 (some .boolean), Cond.methodLink RX4 130 yX4_needRounds, Cond.static yX4_needRounds, Cond.code yX4_needRounds cX4_needRounds 2 none, Cond.methodLink RX4 44 yX2_size, Cond.instanceMethod yX2_size, Cond.selects RX2 yX2_size yX2_size, Cond.initialized RX2, Cond.code yX2_size cX2_size 1 (some .int), Cond.fieldLink RX2 9 "ParrotJury$Seats" "size" "I"]
def wsL_advise_r2 : List Cond := [Cond.methodLink RX4 148 yX4_votesIfWhispered, Cond.instanceMethod yX4_votesIfWhispered, Cond.selects RX4 yX4_votesIfWhispered yX4_votesIfWhispered, Cond.code yX4_votesIfWhispered cX4_votesIfWhispered 4 (some .int), Cond.fieldLink RX4 23 "ParrotJury" "would" "LParrotJury$Talk;", Cond.fieldLink RX4 19 "ParrotJury" "now" "LParrotJury$Talk;", Cond.fieldLink RX4 26 "ParrotJury" "before" "LParrotJury$Talk;", Cond.methodLink RX4 140 yX3_copyFrom, Cond.instanceMethod yX3_copyFrom, Cond.selects RX3 yX3_copyFrom yX3_copyFrom, Cond.initialized RX3, Cond.code yX3_copyFrom cX3_copyFrom 2 none, Cond.fieldLink RX3 9 "ParrotJury$Talk" "round" "I", Cond.fieldLink RX3 15 "ParrotJury$Talk" "taken" "I", Cond.fieldLink RX3 23 "ParrotJury$Talk" "sure" "LParrotJury$Row;", Cond.fieldLink RX3 30 "ParrotJury$Talk" "firsts" "LParrotJury$Halves;", Cond.fieldLink RX3 34 "ParrotJury$Talk" "lasts" "LParrotJury$Halves;", Cond.methodLink RX3 51 yX1_copyFrom, Cond.instanceMethod yX1_copyFrom, Cond.selects RX1 yX1_copyFrom yX1_copyFrom, Cond.initialized RX1, Cond.code yX1_copyFrom cX1_copyFrom 2 none, Cond.fieldLink RX1 13 "ParrotJury$Row" "cells" "[I", Cond.methodLink RX1 19 Lib.Math.min.name]
def wsL_advise_r3 : List Cond := [Cond.static Lib.Math.min.name, Cond.initialized "java/lang/Math", Cond.code Lib.Math.min.name Lib.Math.min.code 2 (some .int), Cond.methodLink RX1 22 arraycopyName, Cond.native arraycopyName, Cond.static arraycopyName, Cond.initialized "java/lang/System", Cond.methodLink RX3 55 yX0_copyFrom, Cond.instanceMethod yX0_copyFrom, Cond.selects RX0 yX0_copyFrom yX0_copyFrom, Cond.initialized RX0, Cond.code yX0_copyFrom cX0_copyFrom 2 none, Cond.fieldLink RX0 14 "ParrotJury$Halves" "value" "LParrotJury$Row;", Cond.fieldLink RX0 20 "ParrotJury$Halves" "from" "LParrotJury$Row;", Cond.fieldLink RX0 23 "ParrotJury$Halves" "over" "LParrotJury$Row;", Cond.methodLink RX0 40 yX1_copyFrom, Cond.methodLink RX4 57 yX3_takeFromCourt, Cond.instanceMethod yX3_takeFromCourt, Cond.selects RX3 yX3_takeFromCourt yX3_takeFromCourt, Cond.code yX3_takeFromCourt cX3_takeFromCourt 4 none, Cond.methodLink RX3 44 yX0_takeFromCourt, Cond.instanceMethod yX0_takeFromCourt, Cond.selects RX0 yX0_takeFromCourt yX0_takeFromCourt, Cond.code yX0_takeFromCourt cX0_takeFromCourt 3 none]
def wsL_advise_r4 : List Cond := [Cond.methodLink RX0 30 yX1_put, Cond.instanceMethod yX1_put, Cond.selects RX1 yX1_put yX1_put, Cond.code yX1_put cX1_put 3 none, Cond.methodLink RX3 48 yX1_put, Cond.methodLink RX4 136 yX3_goRounds, Cond.instanceMethod yX3_goRounds, Cond.selects RX3 yX3_goRounds yX3_goRounds, Cond.code yX3_goRounds cX3_goRounds 5 none, Cond.methodLink RX3 58 yX3_copyFrom, Cond.methodLink RX3 61 yX3_hearAll, Cond.instanceMethod yX3_hearAll, Cond.selects RX3 yX3_hearAll yX3_hearAll, Cond.code yX3_hearAll cX3_hearAll 6 none, Cond.methodLink RX3 69 yX2_size, Cond.methodLink RX3 75 yX2_heard, Cond.instanceMethod yX2_heard, Cond.selects RX2 yX2_heard yX2_heard, Cond.code yX2_heard cX2_heard 7 (some .int), Cond.fieldLink RX2 27 "ParrotJury$Seats" "listening" "LParrotJury$Row;", Cond.fieldLink RX2 24 "ParrotJury$Seats" "loud" "LParrotJury$Row;", Cond.methodLink RX2 33 yX1_at, Cond.instanceMethod yX1_at, Cond.selects RX1 yX1_at yX1_at]
def wsL_advise_r5 : List Cond := [Cond.code yX1_at cX1_at 2 (some .int), Cond.methodLink RX2 41 yX2_other, Cond.instanceMethod yX2_other, Cond.selects RX2 yX2_other yX2_other, Cond.code yX2_other cX2_other 3 (some .int), Cond.fieldLink RX2 30 "ParrotJury$Seats" "others" "LParrotJury$Row;", Cond.methodLink RX3 78 yX3_hear, Cond.instanceMethod yX3_hear, Cond.selects RX3 yX3_hear yX3_hear, Cond.code yX3_hear cX3_hear 6 none, Cond.methodLink RX3 87 Lib.Math.min.name, Cond.methodLink RX3 82 yX3_sure, Cond.instanceMethod yX3_sure, Cond.selects RX3 yX3_sure yX3_sure, Cond.code yX3_sure cX3_sure 2 (some .int), Cond.methodLink RX3 37 yX1_at, Cond.methodLink RX3 84 yX3_word, Cond.instanceMethod yX3_word, Cond.selects RX3 yX3_word yX3_word, Cond.code yX3_word cX3_word 2 (some .int), Cond.methodLink RX3 41 yX0_value, Cond.instanceMethod yX0_value, Cond.selects RX0 yX0_value yX0_value, Cond.code yX0_value cX0_value 2 (some .int)]
def wsL_advise_r6 : List Cond := [Cond.methodLink RX0 26 yX1_at, Cond.methodLink RX3 93 yX3_halves, Cond.instanceMethod yX3_halves, Cond.selects RX3 yX3_halves yX3_halves, Cond.code yX3_halves cX3_halves 2 (some (.object "ParrotJury$Halves")), Cond.methodLink RX3 97 yX0_takeFrom, Cond.instanceMethod yX0_takeFrom, Cond.selects RX0 yX0_takeFrom yX0_takeFrom, Cond.code yX0_takeFrom cX0_takeFrom 4 none, Cond.methodLink RX0 34 Lib.Math.min.name, Cond.methodLink RX3 65 yX3_forgetAll, Cond.instanceMethod yX3_forgetAll, Cond.selects RX3 yX3_forgetAll yX3_forgetAll, Cond.code yX3_forgetAll cX3_forgetAll 5 none, Cond.methodLink RX3 104 Lib.Math.max.name, Cond.static Lib.Math.max.name, Cond.code Lib.Math.max.name Lib.Math.max.code 2 (some .int), Cond.methodLink RX3 101 yX2_memory, Cond.instanceMethod yX2_memory, Cond.selects RX2 yX2_memory yX2_memory, Cond.code yX2_memory cX2_memory 2 (some .int), Cond.fieldLink RX2 20 "ParrotJury$Seats" "memory" "LParrotJury$Row;", Cond.methodLink RX4 114 yX4_votesIn, Cond.instanceMethod yX4_votesIn]
def wsL_advise_r7 : List Cond := [Cond.selects RX4 yX4_votesIn yX4_votesIn, Cond.code yX4_votesIn cX4_votesIn 6 (some .int), Cond.methodLink RX4 93 yX3_word]
def wsL_advise : List Cond := .codeWith yL_advise cL_advise 5 (some .int) [(0, 10, 13, 13)] :: ((wsL_advise_r1 ++ (wsL_advise_r2 ++ (wsL_advise_r3 ++ (wsL_advise_r4 ++ (wsL_advise_r5 ++ (wsL_advise_r6 ++ wsL_advise_r7)))))) ++ wsX40 ++ wsX20 ++ wsX30 ++ wsX10 ++ wsX00 ++ (vx_atS RX4 37 "java/lang/IllegalArgumentException" ["java/lang/RuntimeException", "java/lang/Exception"]).filter goodWord)
def wsL_source_r1 : List Cond := [Cond.classLink RL 20 "java/lang/IndexOutOfBoundsException", Cond.methodLink RL 58 yX4_source, Cond.instanceMethod yX4_source, Cond.selects RX4 yX4_source yX4_source, Cond.initialized RX4, Cond.code yX4_source cX4_source 4 (some .int), Cond.fieldLink RX4 10 "ParrotJury" "seats" "LParrotJury$Seats;", Cond.methodLink RX4 61 yX4_needParrot, Cond.instanceMethod yX4_needParrot, Cond.selects RX4 yX4_needParrot yX4_needParrot, Cond.code yX4_needParrot cX4_needParrot 2 none, Cond.classLink RX4 106 "java/lang/IndexOutOfBoundsException", Cond.initialized "java/lang/IndexOutOfBoundsException", Cond.methodLink RX4 44 yX2_size, Cond.instanceMethod yX2_size, Cond.selects RX2 yX2_size yX2_size, Cond.initialized RX2, Cond.code yX2_size cX2_size 1 (some .int), Cond.fieldLink RX2 9 "ParrotJury$Seats" "size" "I", Cond.methodLink RX4 152 yX2_othersAsSet, Cond.instanceMethod yX2_othersAsSet, Cond.selects RX2 yX2_othersAsSet yX2_othersAsSet, Cond.code yX2_othersAsSet cX2_othersAsSet 5 (some .int), Cond.fieldLink RX2 27 "ParrotJury$Seats" "listening" "LParrotJury$Row;"]
def wsL_source_r2 : List Cond := [Cond.methodLink RX2 33 yX1_at, Cond.instanceMethod yX1_at, Cond.selects RX1 yX1_at yX1_at, Cond.initialized RX1, Cond.code yX1_at cX1_at 2 (some .int), Cond.fieldLink RX1 13 "ParrotJury$Row" "cells" "[I", Cond.methodLink RX2 41 yX2_other, Cond.instanceMethod yX2_other, Cond.selects RX2 yX2_other yX2_other, Cond.code yX2_other cX2_other 3 (some .int), Cond.fieldLink RX2 30 "ParrotJury$Seats" "others" "LParrotJury$Row;", Cond.methodLink RX4 155 yX2_othersOfAll, Cond.instanceMethod yX2_othersOfAll, Cond.selects RX2 yX2_othersOfAll yX2_othersOfAll, Cond.code yX2_othersOfAll cX2_othersOfAll 4 (some .int), Cond.methodLink RX2 48 yX2_othersAsSet]
def wsL_source : List Cond := .codeWith yL_source cL_source 4 (some .int) [(0, 9, 12, 20)] :: ((wsL_source_r1 ++ wsL_source_r2) ++ wsX40 ++ wsX20 ++ wsX10 ++ (vx_atS RX4 110 "java/lang/IndexOutOfBoundsException" ["java/lang/RuntimeException", "java/lang/Exception"]).filter goodWord)
def wsL_law0_r1 : List Cond := [Cond.classLink RL 8 RX4, Cond.instantiable RX4 4, Cond.initialized RX4, Cond.classLink RL 62 RX5, Cond.instantiable RX5 6, Cond.initialized RX5, Cond.arrayClass .long, Cond.methodLink RL 61 yX4_init, Cond.instanceMethod yX4_init, Cond.code yX4_init cX4_init 1 none, Cond.methodLink RX4 1 objectInit, Cond.instanceMethod objectInit, Cond.code objectInit ⟨#[0xb1]⟩ 1 none, Cond.classLink RX4 7 RX2, Cond.instantiable RX2 5, Cond.initialized RX2, Cond.fieldLink RX4 10 "ParrotJury" "seats" "LParrotJury$Seats;", Cond.classLink RX4 16 RX3, Cond.instantiable RX3 5, Cond.initialized RX3, Cond.fieldLink RX4 19 "ParrotJury" "now" "LParrotJury$Talk;", Cond.fieldLink RX4 23 "ParrotJury" "would" "LParrotJury$Talk;", Cond.fieldLink RX4 26 "ParrotJury" "before" "LParrotJury$Talk;", Cond.methodLink RX4 9 yX2_init]
def wsL_law0_r2 : List Cond := [Cond.instanceMethod yX2_init, Cond.code yX2_init cX2_init 1 none, Cond.methodLink RX2 3 objectInit, Cond.fieldLink RX2 9 "ParrotJury$Seats" "size" "I", Cond.classLink RX2 15 RX1, Cond.instantiable RX1 1, Cond.initialized RX1, Cond.fieldLink RX2 20 "ParrotJury$Seats" "memory" "LParrotJury$Row;", Cond.fieldLink RX2 24 "ParrotJury$Seats" "loud" "LParrotJury$Row;", Cond.fieldLink RX2 27 "ParrotJury$Seats" "listening" "LParrotJury$Row;", Cond.fieldLink RX2 30 "ParrotJury$Seats" "others" "LParrotJury$Row;", Cond.methodLink RX2 17 yX1_init, Cond.instanceMethod yX1_init, Cond.code yX1_init cX1_init 2 none, Cond.methodLink RX1 1 objectInit, Cond.methodLink RX1 7 Lib.Math.max.name, Cond.static Lib.Math.max.name, Cond.initialized "java/lang/Math", Cond.code Lib.Math.max.name Lib.Math.max.code 2 (some .int), Cond.arrayClass .int, Cond.fieldLink RX1 13 "ParrotJury$Row" "cells" "[I", Cond.methodLink RX4 18 yX3_init, Cond.instanceMethod yX3_init, Cond.code yX3_init cX3_init 1 none]
def wsL_law0_r3 : List Cond := [Cond.methodLink RX3 3 objectInit, Cond.fieldLink RX3 9 "ParrotJury$Talk" "round" "I", Cond.fieldLink RX3 15 "ParrotJury$Talk" "taken" "I", Cond.classLink RX3 18 RX1, Cond.fieldLink RX3 23 "ParrotJury$Talk" "sure" "LParrotJury$Row;", Cond.classLink RX3 27 RX0, Cond.instantiable RX0 3, Cond.initialized RX0, Cond.fieldLink RX3 30 "ParrotJury$Talk" "firsts" "LParrotJury$Halves;", Cond.fieldLink RX3 34 "ParrotJury$Talk" "lasts" "LParrotJury$Halves;", Cond.methodLink RX3 20 yX1_init, Cond.methodLink RX3 29 yX0_init, Cond.instanceMethod yX0_init, Cond.code yX0_init cX0_init 1 none, Cond.methodLink RX0 3 objectInit, Cond.classLink RX0 9 RX1, Cond.fieldLink RX0 14 "ParrotJury$Halves" "value" "LParrotJury$Row;", Cond.fieldLink RX0 20 "ParrotJury$Halves" "from" "LParrotJury$Row;", Cond.fieldLink RX0 23 "ParrotJury$Halves" "over" "LParrotJury$Row;", Cond.methodLink RX0 11 yX1_init, Cond.methodLink RL 64 yX5_init, Cond.instanceMethod yX5_init, Cond.code yX5_init cX5_init 1 none, Cond.methodLink RX5 1 objectInit]
def wsL_law0_r4 : List Cond := [Cond.fieldLink RX5 9 "ParrotJuryModel" "jury" "[I", Cond.fieldLink RX5 13 "ParrotJuryModel" "before" "[I", Cond.fieldLink RX5 16 "ParrotJuryModel" "ears" "[I", Cond.fieldLink RX5 19 "ParrotJuryModel" "numbers" "[I", Cond.methodLink RL 65 yL_come, Cond.static yL_come, Cond.initialized RL, Cond.codeWith yL_come cL_come 5 (some .int) [(0, 10, 13, 13), (0, 10, 17, 15)], Cond.classLink RL 13 "java/lang/IllegalArgumentException", Cond.classLink RL 15 "java/lang/IllegalStateException", Cond.methodLink RL 7 yX4_come, Cond.instanceMethod yX4_come, Cond.selects RX4 yX4_come yX4_come, Cond.code yX4_come cX4_come 4 (some .int), Cond.classLink RX4 33 "java/lang/IllegalArgumentException", Cond.initialized "java/lang/IllegalArgumentException", Cond.classLink RX4 48 "java/lang/IllegalStateException", Cond.initialized "java/lang/IllegalStateException", Cond.methodLink RX4 29 yX4_isOutside, Cond.static yX4_isOutside, Cond.code yX4_isOutside cX4_isOutside 3 (some .boolean), Cond.methodLink RX4 40 yX4_needLoud, Cond.static yX4_needLoud, Cond.code yX4_needLoud cX4_needLoud 1 none]
def wsL_law0_r5 : List Cond := [Cond.methodLink RX4 44 yX2_size, Cond.instanceMethod yX2_size, Cond.selects RX2 yX2_size yX2_size, Cond.code yX2_size cX2_size 1 (some .int), Cond.methodLink RX4 53 yX2_seat, Cond.instanceMethod yX2_seat, Cond.selects RX2 yX2_seat yX2_seat, Cond.code yX2_seat cX2_seat 4 (some .int), Cond.methodLink RX2 37 yX1_put, Cond.instanceMethod yX1_put, Cond.selects RX1 yX1_put yX1_put, Cond.code yX1_put cX1_put 3 none, Cond.methodLink RX4 57 yX3_takeFromCourt, Cond.instanceMethod yX3_takeFromCourt, Cond.selects RX3 yX3_takeFromCourt yX3_takeFromCourt, Cond.code yX3_takeFromCourt cX3_takeFromCourt 4 none, Cond.methodLink RX3 44 yX0_takeFromCourt, Cond.instanceMethod yX0_takeFromCourt, Cond.selects RX0 yX0_takeFromCourt yX0_takeFromCourt, Cond.code yX0_takeFromCourt cX0_takeFromCourt 3 none, Cond.methodLink RX0 30 yX1_put, Cond.methodLink RX3 48 yX1_put, Cond.methodLink RL 70 yX5_come, Cond.instanceMethod yX5_come]
def wsL_law0_r6 : List Cond := [Cond.selects RX5 yX5_come yX5_come, Cond.code yX5_come cX5_come 4 (some .int), Cond.fieldLink RX5 22 "ParrotJuryModel" "thrown" "I", Cond.fieldLink RX5 26 "ParrotJuryModel" "parrots" "I", Cond.methodLink RX5 41 arraycopyName, Cond.native arraycopyName, Cond.static arraycopyName, Cond.initialized "java/lang/System", Cond.methodLink RX5 29 yX5_isIn, Cond.static yX5_isIn, Cond.code yX5_isIn cX5_isIn 3 (some .boolean), Cond.methodLink RX5 37 yX5_fail, Cond.instanceMethod yX5_fail, Cond.selects RX5 yX5_fail yX5_fail, Cond.code yX5_fail cX5_fail 2 (some .int), Cond.methodLink RL 71 yX5_thrown, Cond.instanceMethod yX5_thrown, Cond.selects RX5 yX5_thrown yX5_thrown, Cond.code yX5_thrown cX5_thrown 1 (some .int), Cond.methodLink RL 75 yL_listen, Cond.static yL_listen, Cond.codeWith yL_listen cL_listen 5 (some .int) [(0, 10, 13, 20), (0, 10, 17, 13), (0, 10, 21, 15)], Cond.classLink RL 20 "java/lang/IndexOutOfBoundsException", Cond.methodLink RL 17 yX4_listen]
def wsL_law0_r7 : List Cond := [Cond.instanceMethod yX4_listen, Cond.selects RX4 yX4_listen yX4_listen, Cond.code yX4_listen cX4_listen 4 (some .int), Cond.methodLink RX4 61 yX4_needParrot, Cond.instanceMethod yX4_needParrot, Cond.selects RX4 yX4_needParrot yX4_needParrot, Cond.code yX4_needParrot cX4_needParrot 2 none, Cond.classLink RX4 106 "java/lang/IndexOutOfBoundsException", Cond.initialized "java/lang/IndexOutOfBoundsException", Cond.methodLink RX4 66 yX2_placeOf, Cond.instanceMethod yX2_placeOf, Cond.selects RX2 yX2_placeOf yX2_placeOf, Cond.code yX2_placeOf cX2_placeOf 5 (some .int), Cond.methodLink RX2 33 yX1_at, Cond.instanceMethod yX1_at, Cond.selects RX1 yX1_at yX1_at, Cond.code yX1_at cX1_at 2 (some .int), Cond.methodLink RX2 41 yX2_other, Cond.instanceMethod yX2_other, Cond.selects RX2 yX2_other yX2_other, Cond.code yX2_other cX2_other 3 (some .int), Cond.methodLink RX4 69 yX2_dropOther, Cond.instanceMethod yX2_dropOther, Cond.selects RX2 yX2_dropOther yX2_dropOther]
def wsL_law0_r8 : List Cond := [Cond.code yX2_dropOther cX2_dropOther 5 none, Cond.methodLink RX4 73 yX2_listening, Cond.instanceMethod yX2_listening, Cond.selects RX2 yX2_listening yX2_listening, Cond.code yX2_listening cX2_listening 2 (some .int), Cond.methodLink RX4 79 yX2_addOther, Cond.instanceMethod yX2_addOther, Cond.selects RX2 yX2_addOther yX2_addOther, Cond.code yX2_addOther cX2_addOther 4 none, Cond.methodLink RL 77 yX5_listen, Cond.instanceMethod yX5_listen, Cond.selects RX5 yX5_listen yX5_listen, Cond.code yX5_listen cX5_listen 5 (some .int), Cond.methodLink RX5 47 yX5_isParrot, Cond.instanceMethod yX5_isParrot, Cond.selects RX5 yX5_isParrot yX5_isParrot, Cond.code yX5_isParrot cX5_isParrot 2 (some .boolean), Cond.methodLink RX5 51 yX5_place, Cond.instanceMethod yX5_place, Cond.selects RX5 yX5_place yX5_place, Cond.code yX5_place cX5_place 4 (some .int), Cond.methodLink RX5 33 yX5_ju, Cond.instanceMethod yX5_ju, Cond.selects RX5 yX5_ju yX5_ju]
def wsL_law0_r9 : List Cond := [Cond.code yX5_ju cX5_ju 3 (some .int), Cond.methodLink RX5 54 yX5_put, Cond.instanceMethod yX5_put, Cond.selects RX5 yX5_put yX5_put, Cond.code yX5_put cX5_put 4 none, Cond.methodLink RL 78 yL_raise, Cond.static yL_raise, Cond.codeWith yL_raise cL_raise 5 (some .int) [(0, 10, 13, 20), (0, 10, 17, 13)], Cond.methodLink RL 22 yX4_raise, Cond.instanceMethod yX4_raise, Cond.selects RX4 yX4_raise yX4_raise, Cond.code yX4_raise cX4_raise 4 (some .int), Cond.methodLink RX4 82 yX2_loud, Cond.instanceMethod yX2_loud, Cond.selects RX2 yX2_loud yX2_loud, Cond.code yX2_loud cX2_loud 2 (some .int), Cond.methodLink RX4 85 yX2_setLoud, Cond.instanceMethod yX2_setLoud, Cond.selects RX2 yX2_setLoud yX2_setLoud, Cond.code yX2_setLoud cX2_setLoud 3 none, Cond.methodLink RL 80 yX5_raise, Cond.instanceMethod yX5_raise, Cond.selects RX5 yX5_raise yX5_raise, Cond.code yX5_raise cX5_raise 4 (some .int)]
def wsL_law0_r10 : List Cond := [Cond.methodLink RL 81 yL_whisper, Cond.static yL_whisper, Cond.codeWith yL_whisper cL_whisper 6 (some .int) [(0, 12, 15, 20), (0, 12, 19, 13)], Cond.methodLink RL 25 yX4_whisper, Cond.instanceMethod yX4_whisper, Cond.selects RX4 yX4_whisper yX4_whisper, Cond.code yX4_whisper cX4_whisper 5 (some .int), Cond.methodLink RX4 88 yX4_needWord, Cond.static yX4_needWord, Cond.code yX4_needWord cX4_needWord 1 none, Cond.methodLink RX4 93 yX3_word, Cond.instanceMethod yX3_word, Cond.selects RX3 yX3_word yX3_word, Cond.code yX3_word cX3_word 2 (some .int), Cond.methodLink RX3 41 yX0_value, Cond.instanceMethod yX0_value, Cond.selects RX0 yX0_value yX0_value, Cond.code yX0_value cX0_value 2 (some .int), Cond.methodLink RX0 26 yX1_at, Cond.methodLink RL 84 yX5_whisper, Cond.instanceMethod yX5_whisper, Cond.selects RX5 yX5_whisper yX5_whisper, Cond.code yX5_whisper cX5_whisper 5 (some .int), Cond.methodLink RX5 58 yX5_isWord]
def wsL_law0_r11 : List Cond := [Cond.static yX5_isWord, Cond.code yX5_isWord cX5_isWord 1 (some .boolean), Cond.methodLink RX5 61 yX5_word, Cond.instanceMethod yX5_word, Cond.selects RX5 yX5_word yX5_word, Cond.code yX5_word cX5_word 2 (some .int), Cond.methodLink RX5 64 yX5_say, Cond.instanceMethod yX5_say, Cond.selects RX5 yX5_say yX5_say, Cond.code yX5_say cX5_say 5 none, Cond.methodLink RL 85 yL_parrot, Cond.static yL_parrot, Cond.codeWith yL_parrot cL_parrot 5 (some .int) [(0, 10, 13, 20)], Cond.methodLink RL 29 yX4_parrot, Cond.instanceMethod yX4_parrot, Cond.selects RX4 yX4_parrot yX4_parrot, Cond.code yX4_parrot cX4_parrot 3 (some .int), Cond.methodLink RX4 96 yX4_needWhat, Cond.static yX4_needWhat, Cond.code yX4_needWhat cX4_needWhat 2 none, Cond.methodLink RX4 99 yX4_tellOfParrot, Cond.instanceMethod yX4_tellOfParrot, Cond.selects RX4 yX4_tellOfParrot yX4_tellOfParrot, Cond.code yX4_tellOfParrot cX4_tellOfParrot 3 (some .int)]
def wsL_law0_r12 : List Cond := [Cond.methodLink RX4 180 yX3_sure, Cond.instanceMethod yX3_sure, Cond.selects RX3 yX3_sure yX3_sure, Cond.code yX3_sure cX3_sure 2 (some .int), Cond.methodLink RX3 37 yX1_at, Cond.methodLink RX4 183 yX2_memory, Cond.instanceMethod yX2_memory, Cond.selects RX2 yX2_memory yX2_memory, Cond.code yX2_memory cX2_memory 2 (some .int), Cond.methodLink RX4 186 yX2_listeners, Cond.instanceMethod yX2_listeners, Cond.selects RX2 yX2_listeners yX2_listeners, Cond.code yX2_listeners cX2_listeners 4 (some .int), Cond.methodLink RX2 45 yX2_placeOf, Cond.methodLink RX4 189 yX2_heard, Cond.instanceMethod yX2_heard, Cond.selects RX2 yX2_heard yX2_heard, Cond.code yX2_heard cX2_heard 7 (some .int), Cond.methodLink RL 87 yX5_parrot, Cond.instanceMethod yX5_parrot, Cond.selects RX5 yX5_parrot yX5_parrot, Cond.code yX5_parrot cX5_parrot 3 (some .int), Cond.methodLink RX5 70 yX5_parrotTold, Cond.instanceMethod yX5_parrotTold]
def wsL_law0_r13 : List Cond := [Cond.selects RX5 yX5_parrotTold yX5_parrotTold, Cond.code yX5_parrotTold cX5_parrotTold 5 (some .int), Cond.methodLink RX5 67 yX5_heard, Cond.instanceMethod yX5_heard, Cond.selects RX5 yX5_heard yX5_heard, Cond.code yX5_heard cX5_heard 4 (some .int), Cond.methodLink RL 88 yL_half, Cond.static yL_half, Cond.codeWith yL_half cL_half 6 (some .int) [(0, 12, 15, 20)], Cond.methodLink RL 32 yX4_half, Cond.instanceMethod yX4_half, Cond.selects RX4 yX4_half yX4_half, Cond.code yX4_half cX4_half 4 (some .int), Cond.methodLink RX4 102 yX4_tellOfHalf, Cond.instanceMethod yX4_tellOfHalf, Cond.selects RX4 yX4_tellOfHalf yX4_tellOfHalf, Cond.code yX4_tellOfHalf cX4_tellOfHalf 5 (some .int), Cond.methodLink RX4 118 yX3_halves, Cond.instanceMethod yX3_halves, Cond.selects RX3 yX3_halves yX3_halves, Cond.code yX3_halves cX3_halves 2 (some (.object "ParrotJury$Halves")), Cond.methodLink RX4 122 yX0_value, Cond.methodLink RX4 192 yX0_from, Cond.instanceMethod yX0_from]
def wsL_law0_r14 : List Cond := [Cond.selects RX0 yX0_from yX0_from, Cond.code yX0_from cX0_from 2 (some .int), Cond.methodLink RX4 195 yX0_over, Cond.instanceMethod yX0_over, Cond.selects RX0 yX0_over yX0_over, Cond.code yX0_over cX0_over 2 (some .int), Cond.methodLink RL 91 yX5_half, Cond.instanceMethod yX5_half, Cond.selects RX5 yX5_half yX5_half, Cond.code yX5_half cX5_half 4 (some .int), Cond.methodLink RX5 73 yX5_halfTold, Cond.instanceMethod yX5_halfTold, Cond.selects RX5 yX5_halfTold yX5_halfTold, Cond.code yX5_halfTold cX5_halfTold 4 (some .int), Cond.methodLink RL 92 yL_hears, Cond.static yL_hears, Cond.codeWith yL_hears cL_hears 5 (some .int) [(0, 10, 13, 20)], Cond.methodLink RL 36 yX4_hears, Cond.instanceMethod yX4_hears, Cond.selects RX4 yX4_hears yX4_hears, Cond.code yX4_hears cX4_hears 3 (some .int), Cond.methodLink RX4 111 yX2_other, Cond.methodLink RL 94 yX5_hears, Cond.instanceMethod yX5_hears]
def wsL_law0_r15 : List Cond := [Cond.selects RX5 yX5_hears yX5_hears, Cond.code yX5_hears cX5_hears 3 (some .int), Cond.methodLink RL 95 yL_votes, Cond.static yL_votes, Cond.codeWith yL_votes cL_votes 4 (some .int) [(0, 9, 12, 13)], Cond.methodLink RL 39 yX4_votes, Cond.instanceMethod yX4_votes, Cond.selects RX4 yX4_votes yX4_votes, Cond.code yX4_votes cX4_votes 2 (some .int), Cond.methodLink RX4 114 yX4_votesIn, Cond.instanceMethod yX4_votesIn, Cond.selects RX4 yX4_votesIn yX4_votesIn, Cond.code yX4_votesIn cX4_votesIn 6 (some .int), Cond.methodLink RL 98 yX5_votes, Cond.instanceMethod yX5_votes, Cond.selects RX5 yX5_votes yX5_votes, Cond.code yX5_votes cX5_votes 2 (some .int), Cond.methodLink RX5 77 yX5_votesFor, Cond.instanceMethod yX5_votesFor, Cond.selects RX5 yX5_votesFor yX5_votesFor, Cond.code yX5_votesFor cX5_votesFor 4 (some .int), Cond.methodLink RL 99 yX4_verdict, Cond.instanceMethod yX4_verdict, Cond.selects RX4 yX4_verdict yX4_verdict]
def wsL_law0_r16 : List Cond := [Cond.code yX4_verdict cX4_verdict 7 (some .int), Cond.methodLink RL 102 yX5_verdict, Cond.instanceMethod yX5_verdict, Cond.selects RX5 yX5_verdict yX5_verdict, Cond.code yX5_verdict cX5_verdict 3 (some .int), Cond.methodLink RL 103 yL_left, Cond.static yL_left, Cond.codeWith yL_left cL_left 4 (some .int) [(0, 9, 12, 13)], Cond.methodLink RL 43 yX4_left, Cond.instanceMethod yX4_left, Cond.selects RX4 yX4_left yX4_left, Cond.code yX4_left cX4_left 5 (some .int), Cond.methodLink RL 105 yX5_left, Cond.instanceMethod yX5_left, Cond.selects RX5 yX5_left yX5_left, Cond.code yX5_left cX5_left 4 (some .int), Cond.methodLink RL 106 yL_count, Cond.static yL_count, Cond.codeWith yL_count cL_count 4 (some .int) [(0, 9, 12, 20)], Cond.methodLink RL 46 yX4_count, Cond.instanceMethod yX4_count, Cond.selects RX4 yX4_count yX4_count, Cond.code yX4_count cX4_count 2 (some .int), Cond.methodLink RX4 127 yX4_tellOfJury]
def wsL_law0_r17 : List Cond := [Cond.instanceMethod yX4_tellOfJury, Cond.selects RX4 yX4_tellOfJury yX4_tellOfJury, Cond.code yX4_tellOfJury cX4_tellOfJury 2 (some .int), Cond.methodLink RX4 198 yX3_round, Cond.instanceMethod yX3_round, Cond.selects RX3 yX3_round yX3_round, Cond.code yX3_round cX3_round 1 (some .int), Cond.methodLink RX4 201 yX4_differentWords, Cond.instanceMethod yX4_differentWords, Cond.selects RX4 yX4_differentWords yX4_differentWords, Cond.code yX4_differentWords cX4_differentWords 4 (some .int), Cond.methodLink RX4 207 yX4_isFirstWithItsWord, Cond.instanceMethod yX4_isFirstWithItsWord, Cond.selects RX4 yX4_isFirstWithItsWord yX4_isFirstWithItsWord, Cond.code yX4_isFirstWithItsWord cX4_isFirstWithItsWord 4 (some .boolean), Cond.methodLink RX4 204 yX4_halvesFromCourt, Cond.instanceMethod yX4_halvesFromCourt, Cond.selects RX4 yX4_halvesFromCourt yX4_halvesFromCourt, Cond.code yX4_halvesFromCourt cX4_halvesFromCourt 4 (some .int), Cond.methodLink RX4 158 yX4_sureOfAll, Cond.instanceMethod yX4_sureOfAll, Cond.selects RX4 yX4_sureOfAll yX4_sureOfAll, Cond.code yX4_sureOfAll cX4_sureOfAll 4 (some .int), Cond.methodLink RX4 133 yX3_taken]
def wsL_law0_r18 : List Cond := [Cond.instanceMethod yX3_taken, Cond.selects RX3 yX3_taken yX3_taken, Cond.code yX3_taken cX3_taken 1 (some .int), Cond.methodLink RL 108 yX5_count, Cond.instanceMethod yX5_count, Cond.selects RX5 yX5_count yX5_count, Cond.code yX5_count cX5_count 2 (some .int), Cond.methodLink RX5 80 yX5_counted, Cond.instanceMethod yX5_counted, Cond.selects RX5 yX5_counted yX5_counted, Cond.code yX5_counted cX5_counted 6 (some .int), Cond.methodLink RL 109 yL_pass, Cond.static yL_pass, Cond.codeWith yL_pass cL_pass 4 (some .int) [(0, 9, 12, 13)], Cond.methodLink RL 49 yX4_pass, Cond.instanceMethod yX4_pass, Cond.selects RX4 yX4_pass yX4_pass, Cond.code yX4_pass cX4_pass 3 (some .int), Cond.methodLink RX4 130 yX4_needRounds, Cond.static yX4_needRounds, Cond.code yX4_needRounds cX4_needRounds 2 none, Cond.methodLink RX4 136 yX3_goRounds, Cond.instanceMethod yX3_goRounds, Cond.selects RX3 yX3_goRounds yX3_goRounds]
def wsL_law0_r19 : List Cond := [Cond.code yX3_goRounds cX3_goRounds 5 none, Cond.methodLink RX3 58 yX3_copyFrom, Cond.instanceMethod yX3_copyFrom, Cond.selects RX3 yX3_copyFrom yX3_copyFrom, Cond.code yX3_copyFrom cX3_copyFrom 2 none, Cond.methodLink RX3 51 yX1_copyFrom, Cond.instanceMethod yX1_copyFrom, Cond.selects RX1 yX1_copyFrom yX1_copyFrom, Cond.code yX1_copyFrom cX1_copyFrom 2 none, Cond.methodLink RX1 19 Lib.Math.min.name, Cond.static Lib.Math.min.name, Cond.code Lib.Math.min.name Lib.Math.min.code 2 (some .int), Cond.methodLink RX1 22 arraycopyName, Cond.methodLink RX3 55 yX0_copyFrom, Cond.instanceMethod yX0_copyFrom, Cond.selects RX0 yX0_copyFrom yX0_copyFrom, Cond.code yX0_copyFrom cX0_copyFrom 2 none, Cond.methodLink RX0 40 yX1_copyFrom, Cond.methodLink RX3 61 yX3_hearAll, Cond.instanceMethod yX3_hearAll, Cond.selects RX3 yX3_hearAll yX3_hearAll, Cond.code yX3_hearAll cX3_hearAll 6 none, Cond.methodLink RX3 69 yX2_size, Cond.methodLink RX3 75 yX2_heard]
def wsL_law0_r20 : List Cond := [Cond.methodLink RX3 78 yX3_hear, Cond.instanceMethod yX3_hear, Cond.selects RX3 yX3_hear yX3_hear, Cond.code yX3_hear cX3_hear 6 none, Cond.methodLink RX3 87 Lib.Math.min.name, Cond.methodLink RX3 82 yX3_sure, Cond.methodLink RX3 84 yX3_word, Cond.methodLink RX3 93 yX3_halves, Cond.methodLink RX3 97 yX0_takeFrom, Cond.instanceMethod yX0_takeFrom, Cond.selects RX0 yX0_takeFrom yX0_takeFrom, Cond.code yX0_takeFrom cX0_takeFrom 4 none, Cond.methodLink RX0 34 Lib.Math.min.name, Cond.methodLink RX3 65 yX3_forgetAll, Cond.instanceMethod yX3_forgetAll, Cond.selects RX3 yX3_forgetAll yX3_forgetAll, Cond.code yX3_forgetAll cX3_forgetAll 5 none, Cond.methodLink RX3 104 Lib.Math.max.name, Cond.methodLink RX3 101 yX2_memory, Cond.methodLink RL 111 yX5_pass, Cond.instanceMethod yX5_pass, Cond.selects RX5 yX5_pass yX5_pass, Cond.code yX5_pass cX5_pass 3 (some .int), Cond.methodLink RX5 100 yX5_roundsOn]
def wsL_law0_r21 : List Cond := [Cond.instanceMethod yX5_roundsOn, Cond.selects RX5 yX5_roundsOn yX5_roundsOn, Cond.code yX5_roundsOn cX5_roundsOn 3 none, Cond.methodLink RX5 97 yX5_roundOn, Cond.instanceMethod yX5_roundOn, Cond.selects RX5 yX5_roundOn yX5_roundOn, Cond.code yX5_roundOn cX5_roundOn 2 none, Cond.methodLink RX5 94 Lib.Math.max.name, Cond.methodLink RX5 91 yX5_takes, Cond.instanceMethod yX5_takes, Cond.selects RX5 yX5_takes yX5_takes, Cond.code yX5_takes cX5_takes 4 (some .boolean), Cond.methodLink RX5 86 Lib.Math.min.name, Cond.methodLink RX5 83 yX5_be, Cond.instanceMethod yX5_be, Cond.selects RX5 yX5_be yX5_be, Cond.code yX5_be cX5_be 3 (some .int), Cond.methodLink RL 112 yX4_agrees, Cond.instanceMethod yX4_agrees, Cond.selects RX4 yX4_agrees yX4_agrees, Cond.code yX4_agrees cX4_agrees 2 (some .int), Cond.methodLink RX4 140 yX3_copyFrom, Cond.methodLink RX4 144 yX4_sayTheSame, Cond.instanceMethod yX4_sayTheSame]
def wsL_law0_r22 : List Cond := [Cond.selects RX4 yX4_sayTheSame yX4_sayTheSame, Cond.code yX4_sayTheSame cX4_sayTheSame 3 (some .boolean), Cond.methodLink RL 115 yX5_agrees, Cond.instanceMethod yX5_agrees, Cond.selects RX5 yX5_agrees yX5_agrees, Cond.code yX5_agrees cX5_agrees 3 (some .int), Cond.methodLink RX5 109 yX5_kept, Cond.instanceMethod yX5_kept, Cond.selects RX5 yX5_kept yX5_kept, Cond.code yX5_kept cX5_kept 1 (some (.array (.array .int))), Cond.classLink RX5 104 "[I", Cond.methodLink RX5 105 ⟨"[I", "clone", "()Ljava/lang/Object;"⟩, Cond.sameMethod "[I" "java/lang/Object" "clone" "()Ljava/lang/Object;", Cond.native ⟨"java/lang/Object", "clone", "()Ljava/lang/Object;"⟩, Cond.instanceMethod ⟨"java/lang/Object", "clone", "()Ljava/lang/Object;"⟩, Cond.selects "[I" ⟨"[I", "clone", "()Ljava/lang/Object;"⟩ ⟨"java/lang/Object", "clone", "()Ljava/lang/Object;"⟩, Cond.methodLink RX5 113 yX5_bringBack, Cond.instanceMethod yX5_bringBack, Cond.selects RX5 yX5_bringBack yX5_bringBack, Cond.code yX5_bringBack cX5_bringBack 2 none, Cond.methodLink RL 116 yL_foresee, Cond.static yL_foresee, Cond.codeWith yL_foresee cL_foresee 5 (some .int) [(0, 10, 13, 13), (0, 10, 17, 20)], Cond.methodLink RL 52 yX4_foresee]
def wsL_law0_r23 : List Cond := [Cond.instanceMethod yX4_foresee, Cond.selects RX4 yX4_foresee yX4_foresee, Cond.code yX4_foresee cX4_foresee 3 (some .int), Cond.methodLink RL 118 yX5_foresee, Cond.instanceMethod yX5_foresee, Cond.selects RX5 yX5_foresee yX5_foresee, Cond.code yX5_foresee cX5_foresee 5 (some .int), Cond.methodLink RL 119 yL_advise, Cond.static yL_advise, Cond.codeWith yL_advise cL_advise 5 (some .int) [(0, 10, 13, 13)], Cond.methodLink RL 55 yX4_advise, Cond.instanceMethod yX4_advise, Cond.selects RX4 yX4_advise yX4_advise, Cond.code yX4_advise cX4_advise 8 (some .int), Cond.methodLink RX4 148 yX4_votesIfWhispered, Cond.instanceMethod yX4_votesIfWhispered, Cond.selects RX4 yX4_votesIfWhispered yX4_votesIfWhispered, Cond.code yX4_votesIfWhispered cX4_votesIfWhispered 4 (some .int), Cond.methodLink RL 121 yX5_advise, Cond.instanceMethod yX5_advise, Cond.selects RX5 yX5_advise yX5_advise, Cond.code yX5_advise cX5_advise 8 (some .int), Cond.methodLink RL 122 yL_source, Cond.static yL_source]
def wsL_law0_r24 : List Cond := [Cond.codeWith yL_source cL_source 4 (some .int) [(0, 9, 12, 20)], Cond.methodLink RL 58 yX4_source, Cond.instanceMethod yX4_source, Cond.selects RX4 yX4_source yX4_source, Cond.code yX4_source cX4_source 4 (some .int), Cond.methodLink RX4 152 yX2_othersAsSet, Cond.instanceMethod yX2_othersAsSet, Cond.selects RX2 yX2_othersAsSet yX2_othersAsSet, Cond.code yX2_othersAsSet cX2_othersAsSet 5 (some .int), Cond.methodLink RX4 155 yX2_othersOfAll, Cond.instanceMethod yX2_othersOfAll, Cond.selects RX2 yX2_othersOfAll yX2_othersOfAll, Cond.code yX2_othersOfAll cX2_othersOfAll 4 (some .int), Cond.methodLink RX2 48 yX2_othersAsSet, Cond.methodLink RL 124 yX5_source, Cond.instanceMethod yX5_source, Cond.selects RX5 yX5_source yX5_source, Cond.code yX5_source cX5_source 6 (some .int), Cond.methodLink RL 125 yX4_mean, Cond.instanceMethod yX4_mean, Cond.selects RX4 yX4_mean yX4_mean, Cond.code yX4_mean cX4_mean 2 (some .double), Cond.methodLink RL 129 yX5_mean, Cond.instanceMethod yX5_mean]
def wsL_law0_r25 : List Cond := [Cond.selects RX5 yX5_mean yX5_mean, Cond.code yX5_mean cX5_mean 1 (some .double), Cond.methodLink RL 130 yX4_digest, Cond.instanceMethod yX4_digest, Cond.selects RX4 yX4_digest yX4_digest, Cond.code yX4_digest cX4_digest 5 (some .long), Cond.constantLong RX4 161 (911), Cond.methodLink RX4 163 yX4_mix, Cond.static yX4_mix, Cond.code yX4_mix cX4_mix 3 (some .long), Cond.constantLong RX4 211 (31), Cond.methodLink RX4 167 yX4_mixParrot, Cond.instanceMethod yX4_mixParrot, Cond.selects RX4 yX4_mixParrot yX4_mixParrot, Cond.code yX4_mixParrot cX4_mixParrot 8 (some .long), Cond.methodLink RL 134 yX5_digest, Cond.instanceMethod yX5_digest, Cond.selects RX5 yX5_digest yX5_digest, Cond.code yX5_digest cX5_digest 6 (some .long), Cond.constantLong RX5 117 (911), Cond.constantLong RX5 119 (31)]
def wsL_law0 : List Cond := (wsL_law0_r1 ++ (wsL_law0_r2 ++ (wsL_law0_r3 ++ (wsL_law0_r4 ++ (wsL_law0_r5 ++ (wsL_law0_r6 ++ (wsL_law0_r7 ++ (wsL_law0_r8 ++ (wsL_law0_r9 ++ (wsL_law0_r10 ++ (wsL_law0_r11 ++ (wsL_law0_r12 ++ (wsL_law0_r13 ++ (wsL_law0_r14 ++ (wsL_law0_r15 ++ (wsL_law0_r16 ++ (wsL_law0_r17 ++ (wsL_law0_r18 ++ (wsL_law0_r19 ++ (wsL_law0_r20 ++ (wsL_law0_r21 ++ (wsL_law0_r22 ++ (wsL_law0_r23 ++ (wsL_law0_r24 ++ wsL_law0_r25)))))))))))))))))))))))) ++ wsX40 ++ wsX50 ++ wsX20 ++ wsX30 ++ wsX10 ++ wsX00 ++ ([] : List Cond)
def wsL_law : List Cond := wsL_law0 ++ (vx_atS RX4 37 "java/lang/IllegalArgumentException" ["java/lang/RuntimeException", "java/lang/Exception"]).filter goodWord ++ (vx_atS RX4 52 "java/lang/IllegalStateException" ["java/lang/RuntimeException", "java/lang/Exception"]).filter goodWord ++ (vx_atS RX4 110 "java/lang/IndexOutOfBoundsException" ["java/lang/RuntimeException", "java/lang/Exception"]).filter goodWord
end
section
/-! the law's words among the tables', by their places -/
theorem z_mem {ws big : List Cond} (ps : List Nat) (e : ws = ps.filterMap (fun i => big[i]?)) : ∀ w ∈ ws, w ∈ big := by
  intro w h
  rw [e] at h
  obtain ⟨i, -, hi⟩ := List.mem_filterMap.mp h
  exact List.mem_of_getElem? hi
theorem z_mapp {a b big : List Cond} (ha : ∀ w ∈ a, w ∈ big) (hb : ∀ w ∈ b, w ∈ big) : ∀ w ∈ a ++ b, w ∈ big := fun w h => (List.mem_append.mp h).elim (ha w) (hb w)
set_option maxRecDepth 20000 in
theorem zl_wsL_law0_r1 : ∀ w ∈ wsL_law0_r1, w ∈ lw_tbl := z_mem [49, 50, 35, 602, 603, 41, 794, 51, 52, 53, 54, 55, 56, 57, 58, 36, 135, 93, 94, 39, 136, 137, 138, 59] (by decide +kernel)
set_option maxRecDepth 20000 in
theorem zl_wsL_law0_r2 : ∀ w ∈ wsL_law0_r2, w ∈ lw_tbl := z_mem [60, 61, 62, 77, 63, 64, 37, 78, 79, 80, 81, 65, 66, 67, 68, 69, 70, 38, 71, 76, 72, 95, 96, 97] (by decide +kernel)
set_option maxRecDepth 20000 in
theorem zl_wsL_law0_r3 : ∀ w ∈ wsL_law0_r3, w ∈ lw_tbl := z_mem [98, 119, 120, 99, 121, 101, 102, 40, 122, 123, 100, 103, 104, 105, 106, 107, 109, 110, 111, 108, 604, 605, 606, 607] (by decide +kernel)
set_option maxRecDepth 20000 in
theorem zl_wsL_law0_r4 : ∀ w ∈ wsL_law0_r4, w ∈ lw_tbl := z_mem [610, 611, 612, 613, 335, 336, 34, 337, 338, 339, 340, 341, 342, 343, 347, 45, 419, 46, 344, 345, 346, 415, 416, 417] (by decide +kernel)
set_option maxRecDepth 20000 in
theorem zl_wsL_law0_r5 : ∀ w ∈ wsL_law0_r5, w ∈ lw_tbl := z_mem [152, 153, 154, 155, 435, 436, 437, 438, 439, 230, 231, 232, 440, 441, 442, 443, 444, 445, 446, 447, 241, 229, 631, 632] (by decide +kernel)
set_option maxRecDepth 20000 in
theorem zl_wsL_law0_r6 : ∀ w ∈ wsL_law0_r6, w ∈ lw_tbl := z_mem [633, 634, 608, 609, 642, 189, 188, 47, 635, 636, 637, 638, 640, 16, 641, 627, 628, 629, 630, 448, 449, 450, 451, 452] (by decide +kernel)
set_option maxRecDepth 20000 in
theorem zl_wsL_law0_r7 : ∀ w ∈ wsL_law0_r7, w ∈ lw_tbl := z_mem [453, 454, 455, 456, 458, 14, 459, 460, 48, 477, 321, 322, 323, 213, 165, 166, 167, 214, 215, 216, 217, 478, 479, 480] (by decide +kernel)
set_option maxRecDepth 20000 in
theorem zl_wsL_law0_r8 : ∀ w ∈ wsL_law0_r8, w ∈ lw_tbl := z_mem [481, 312, 313, 314, 315, 483, 484, 485, 486, 643, 644, 645, 646, 647, 649, 17, 650, 651, 653, 18, 654, 655, 657, 19] (by decide +kernel)
set_option maxRecDepth 20000 in
theorem zl_wsL_law0_r9 : ∀ w ∈ wsL_law0_r9, w ∈ lw_tbl := z_mem [658, 659, 661, 20, 662, 487, 488, 489, 490, 491, 492, 493, 308, 309, 310, 311, 494, 495, 496, 497, 663, 664, 665, 666] (by decide +kernel)
set_option maxRecDepth 20000 in
theorem zl_wsL_law0_r10 : ∀ w ∈ wsL_law0_r10, w ∈ lw_tbl := z_mem [498, 499, 500, 501, 502, 503, 504, 505, 506, 507, 156, 157, 158, 159, 160, 161, 162, 163, 164, 667, 668, 669, 670, 671] (by decide +kernel)
set_option maxRecDepth 20000 in
theorem zl_wsL_law0_r11 : ∀ w ∈ wsL_law0_r11, w ∈ lw_tbl := z_mem [672, 673, 674, 676, 21, 677, 678, 680, 22, 681, 510, 511, 512, 513, 514, 515, 516, 517, 518, 519, 303, 305, 11, 306] (by decide +kernel)
set_option maxRecDepth 20000 in
theorem zl_wsL_law0_r12 : ∀ w ∈ wsL_law0_r12, w ∈ lw_tbl := z_mem [260, 223, 224, 225, 226, 307, 248, 249, 250, 316, 317, 318, 319, 320, 324, 210, 211, 212, 682, 683, 684, 685, 686, 688] (by decide +kernel)
set_option maxRecDepth 20000 in
theorem zl_wsL_law0_r13 : ∀ w ∈ wsL_law0_r13, w ∈ lw_tbl := z_mem [23, 689, 690, 692, 24, 693, 521, 522, 523, 524, 525, 526, 527, 325, 327, 12, 328, 286, 234, 235, 236, 329, 287, 288] (by decide +kernel)
set_option maxRecDepth 20000 in
theorem zl_wsL_law0_r14 : ∀ w ∈ wsL_law0_r14, w ∈ lw_tbl := z_mem [289, 290, 330, 331, 332, 333, 694, 695, 696, 697, 698, 700, 25, 701, 528, 529, 530, 531, 532, 533, 534, 334, 702, 703] (by decide +kernel)
set_option maxRecDepth 20000 in
theorem zl_wsL_law0_r15 : ∀ w ∈ wsL_law0_r15, w ∈ lw_tbl := z_mem [704, 705, 536, 537, 538, 539, 540, 541, 542, 168, 170, 0, 171, 706, 707, 708, 709, 710, 712, 26, 713, 148, 149, 150] (by decide +kernel)
set_option maxRecDepth 20000 in
theorem zl_wsL_law0_r16 : ∀ w ∈ wsL_law0_r16, w ∈ lw_tbl := z_mem [151, 714, 715, 716, 717, 543, 544, 545, 546, 547, 548, 549, 718, 719, 720, 721, 550, 551, 552, 553, 554, 555, 556, 266] (by decide +kernel)
set_option maxRecDepth 20000 in
theorem zl_wsL_law0_r17 : ∀ w ∈ wsL_law0_r17, w ∈ lw_tbl := z_mem [268, 6, 269, 270, 271, 272, 273, 274, 276, 7, 277, 278, 280, 8, 281, 282, 284, 9, 285, 256, 258, 5, 259, 291] (by decide +kernel)
set_option maxRecDepth 20000 in
theorem zl_wsL_law0_r18 : ∀ w ∈ wsL_law0_r18, w ∈ lw_tbl := z_mem [292, 293, 294, 722, 723, 724, 725, 726, 728, 27, 729, 557, 558, 559, 560, 561, 562, 563, 564, 565, 566, 199, 200, 201] (by decide +kernel)
set_option maxRecDepth 20000 in
theorem zl_wsL_law0_r19 : ∀ w ∈ wsL_law0_r19, w ∈ lw_tbl := z_mem [202, 203, 177, 178, 179, 180, 181, 182, 183, 184, 185, 186, 187, 190, 191, 192, 193, 194, 204, 206, 2, 207, 208, 209] (by decide +kernel)
set_option maxRecDepth 20000 in
theorem zl_wsL_law0_r20 : ∀ w ∈ wsL_law0_r20, w ∈ lw_tbl := z_mem [218, 220, 3, 221, 228, 222, 227, 233, 237, 238, 239, 240, 242, 243, 245, 4, 246, 251, 247, 730, 731, 732, 733, 734] (by decide +kernel)
set_option maxRecDepth 20000 in
theorem zl_wsL_law0_r21 : ∀ w ∈ wsL_law0_r21, w ∈ lw_tbl := z_mem [736, 28, 737, 738, 740, 29, 741, 751, 742, 744, 30, 745, 750, 746, 748, 31, 749, 172, 173, 174, 175, 176, 195, 197] (by decide +kernel)
set_option maxRecDepth 20000 in
theorem zl_wsL_law0_r22 : ∀ w ∈ wsL_law0_r22, w ∈ lw_tbl := z_mem [1, 198, 752, 753, 754, 755, 756, 758, 32, 759, 760, 762, 763, 764, 765, 766, 768, 770, 33, 771, 568, 569, 570, 571] (by decide +kernel)
set_option maxRecDepth 20000 in
theorem zl_wsL_law0_r23 : ∀ w ∈ wsL_law0_r23, w ∈ lw_tbl := z_mem [572, 573, 574, 772, 773, 774, 775, 575, 576, 577, 578, 579, 580, 581, 582, 584, 15, 585, 776, 777, 778, 779, 586, 587] (by decide +kernel)
set_option maxRecDepth 20000 in
theorem zl_wsL_law0_r24 : ∀ w ∈ wsL_law0_r24, w ∈ lw_tbl := z_mem [588, 589, 590, 591, 592, 593, 594, 595, 596, 597, 598, 599, 600, 601, 780, 781, 782, 783, 252, 253, 254, 255, 784, 785] (by decide +kernel)
set_option maxRecDepth 20000 in
theorem zl_wsL_law0_r25 : ∀ w ∈ wsL_law0_r25, w ∈ lw_tbl := z_mem [786, 787, 261, 262, 263, 264, 265, 295, 296, 297, 298, 299, 301, 10, 302, 788, 789, 790, 791, 792, 793] (by decide +kernel)
set_option maxRecDepth 20000 in
theorem zl_wsX40 : ∀ w ∈ wsX40, w ∈ lw_tbl := z_mem [139, 141, 143, 145] (by decide +kernel)
set_option maxRecDepth 20000 in
theorem zl_wsX50 : ∀ w ∈ wsX50, w ∈ lw_tbl := z_mem [614, 616, 618, 620, 622, 624] (by decide +kernel)
set_option maxRecDepth 20000 in
theorem zl_wsX20 : ∀ w ∈ wsX20, w ∈ lw_tbl := z_mem [82, 84, 86, 88, 90] (by decide +kernel)
set_option maxRecDepth 20000 in
theorem zl_wsX30 : ∀ w ∈ wsX30, w ∈ lw_tbl := z_mem [124, 126, 128, 130, 132] (by decide +kernel)
set_option maxRecDepth 20000 in
theorem zl_wsX10 : ∀ w ∈ wsX10, w ∈ lw_tbl := z_mem [73] (by decide +kernel)
set_option maxRecDepth 20000 in
theorem zl_wsX00 : ∀ w ∈ wsX00, w ∈ lw_tbl := z_mem [112, 114, 116] (by decide +kernel)
theorem wsL_law_in0 : ∀ w ∈ wsL_law0, w ∈ lw_tbl := (z_mapp (z_mapp (z_mapp (z_mapp (z_mapp (z_mapp (z_mapp (z_mapp zl_wsL_law0_r1 (z_mapp zl_wsL_law0_r2 (z_mapp zl_wsL_law0_r3 (z_mapp zl_wsL_law0_r4 (z_mapp zl_wsL_law0_r5 (z_mapp zl_wsL_law0_r6 (z_mapp zl_wsL_law0_r7 (z_mapp zl_wsL_law0_r8 (z_mapp zl_wsL_law0_r9 (z_mapp zl_wsL_law0_r10 (z_mapp zl_wsL_law0_r11 (z_mapp zl_wsL_law0_r12 (z_mapp zl_wsL_law0_r13 (z_mapp zl_wsL_law0_r14 (z_mapp zl_wsL_law0_r15 (z_mapp zl_wsL_law0_r16 (z_mapp zl_wsL_law0_r17 (z_mapp zl_wsL_law0_r18 (z_mapp zl_wsL_law0_r19 (z_mapp zl_wsL_law0_r20 (z_mapp zl_wsL_law0_r21 (z_mapp zl_wsL_law0_r22 (z_mapp zl_wsL_law0_r23 (z_mapp zl_wsL_law0_r24 zl_wsL_law0_r25)))))))))))))))))))))))) zl_wsX40) zl_wsX50) zl_wsX20) zl_wsX30) zl_wsX10) zl_wsX00) (fun _ h => absurd h List.not_mem_nil))
theorem wsL_law_x0 : ∀ w ∈ (vx_atS RX4 37 "java/lang/IllegalArgumentException" ["java/lang/RuntimeException", "java/lang/Exception"]).filter goodWord, w ∈ lw_tbl := by decide +kernel
theorem wsL_law_x1 : ∀ w ∈ (vx_atS RX4 52 "java/lang/IllegalStateException" ["java/lang/RuntimeException", "java/lang/Exception"]).filter goodWord, w ∈ lw_tbl := by decide +kernel
theorem wsL_law_x2 : ∀ w ∈ (vx_atS RX4 110 "java/lang/IndexOutOfBoundsException" ["java/lang/RuntimeException", "java/lang/Exception"]).filter goodWord, w ∈ lw_tbl := by decide +kernel
theorem wsL_law_in : ∀ w ∈ wsL_law, w ∈ lw_tbl := fun w h => (List.mem_append.mp h).elim (fun h => (List.mem_append.mp h).elim (fun h => (List.mem_append.mp h).elim (fun h => wsL_law_in0 w h) (fun h => wsL_law_x0 w h)) (fun h => wsL_law_x1 w h)) (fun h => wsL_law_x2 w h)
theorem inlX0 : ∀ w ∈ wsX00, w ∈ wsL_law := fun _ h => List.mem_append_left _ (List.mem_append_left _ (List.mem_append_left _ (List.mem_append_left _ (List.mem_append_right _ h))))
theorem inX0 : ∀ w ∈ wsX00, w ∈ lw_tbl := fun w h => wsL_law_in w (inlX0 w h)
theorem inlX1 : ∀ w ∈ wsX10, w ∈ wsL_law := fun _ h => List.mem_append_left _ (List.mem_append_left _ (List.mem_append_left _ (List.mem_append_left _ (List.mem_append_left _ (List.mem_append_right _ h)))))
theorem inX1 : ∀ w ∈ wsX10, w ∈ lw_tbl := fun w h => wsL_law_in w (inlX1 w h)
theorem inlX2 : ∀ w ∈ wsX20, w ∈ wsL_law := fun _ h => List.mem_append_left _ (List.mem_append_left _ (List.mem_append_left _ (List.mem_append_left _ (List.mem_append_left _ (List.mem_append_left _ (List.mem_append_left _ (List.mem_append_right _ h)))))))
theorem inX2 : ∀ w ∈ wsX20, w ∈ lw_tbl := fun w h => wsL_law_in w (inlX2 w h)
theorem inlX3 : ∀ w ∈ wsX30, w ∈ wsL_law := fun _ h => List.mem_append_left _ (List.mem_append_left _ (List.mem_append_left _ (List.mem_append_left _ (List.mem_append_left _ (List.mem_append_left _ (List.mem_append_right _ h))))))
theorem inX3 : ∀ w ∈ wsX30, w ∈ lw_tbl := fun w h => wsL_law_in w (inlX3 w h)
theorem inlX4 : ∀ w ∈ wsX40, w ∈ wsL_law := fun _ h => List.mem_append_left _ (List.mem_append_left _ (List.mem_append_left _ (List.mem_append_left _ (List.mem_append_left _ (List.mem_append_left _ (List.mem_append_left _ (List.mem_append_left _ (List.mem_append_left _ (List.mem_append_right _ h)))))))))
theorem inX4 : ∀ w ∈ wsX40, w ∈ lw_tbl := fun w h => wsL_law_in w (inlX4 w h)
theorem inlX5 : ∀ w ∈ wsX50, w ∈ wsL_law := fun _ h => List.mem_append_left _ (List.mem_append_left _ (List.mem_append_left _ (List.mem_append_left _ (List.mem_append_left _ (List.mem_append_left _ (List.mem_append_left _ (List.mem_append_left _ (List.mem_append_right _ h))))))))
theorem inX5 : ∀ w ∈ wsX50, w ∈ lw_tbl := fun w h => wsL_law_in w (inlX5 w h)
theorem inJx8e188 : ∀ w ∈ wsJx8e1880, w ∈ lw_tbl := by decide +kernel
theorem inJ9 : ∀ w ∈ wsJ90, w ∈ lw_tbl := by decide +kernel
theorem inJ0 : ∀ w ∈ wsJ00, w ∈ lw_tbl := by decide +kernel
theorem inJ10 : ∀ w ∈ wsJ100, w ∈ lw_tbl := by decide +kernel
set_option maxRecDepth 20000 in
theorem ggX0_init_X1_init : GoodIn wsX0_init wsX1_init := goodIn_r _ [12, 13, 2, 3, 14, 15, 16, 17, 18, 19, 20] (by decide +kernel) (by decide +kernel)
set_option maxRecDepth 20000 in
theorem gX0_init_X1_init : GoodIn wsX0_init (wsX1_init) := ggX0_init_X1_init
end
section
theorem dX0_init_0 : decode cX0_init 0 = .ok (.aload_n 0, 1) := by decide +kernel
theorem dX0_init_1 : decode cX0_init 1 = .ok (.invokespecial 3, 3) := by decide +kernel
theorem dX0_init_4 : decode cX0_init 4 = .ok (.aload_n 0, 1) := by decide +kernel
theorem dX0_init_5 : decode cX0_init 5 = .ok (.new 9, 3) := by decide +kernel
theorem dX0_init_8 : decode cX0_init 8 = .ok (.dup, 1) := by decide +kernel
theorem dX0_init_9 : decode cX0_init 9 = .ok (.bipush 12, 2) := by decide +kernel
theorem dX0_init_11 : decode cX0_init 11 = .ok (.invokespecial 11, 3) := by decide +kernel
theorem dX0_init_14 : decode cX0_init 14 = .ok (.putfield 14, 3) := by decide +kernel
theorem dX0_init_17 : decode cX0_init 17 = .ok (.aload_n 0, 1) := by decide +kernel
theorem dX0_init_18 : decode cX0_init 18 = .ok (.new 9, 3) := by decide +kernel
theorem dX0_init_21 : decode cX0_init 21 = .ok (.dup, 1) := by decide +kernel
theorem dX0_init_22 : decode cX0_init 22 = .ok (.bipush 12, 2) := by decide +kernel
theorem dX0_init_24 : decode cX0_init 24 = .ok (.invokespecial 11, 3) := by decide +kernel
theorem dX0_init_27 : decode cX0_init 27 = .ok (.putfield 20, 3) := by decide +kernel
theorem dX0_init_30 : decode cX0_init 30 = .ok (.aload_n 0, 1) := by decide +kernel
theorem dX0_init_31 : decode cX0_init 31 = .ok (.new 9, 3) := by decide +kernel
theorem dX0_init_34 : decode cX0_init 34 = .ok (.dup, 1) := by decide +kernel
theorem dX0_init_35 : decode cX0_init 35 = .ok (.bipush 12, 2) := by decide +kernel
theorem dX0_init_37 : decode cX0_init 37 = .ok (.invokespecial 11, 3) := by decide +kernel
theorem dX0_init_40 : decode cX0_init 40 = .ok (.putfield 23, 3) := by decide +kernel
theorem dX0_init_43 : decode cX0_init 43 = .ok (.return_, 1) := by decide +kernel
set_option maxRecDepth 20000 in
theorem ggX0_value_X1_at : GoodIn wsX0_value wsX1_at := goodIn_r _ [6, 7, 11] (by decide +kernel) (by decide +kernel)
set_option maxRecDepth 20000 in
theorem gX0_value_X1_at : GoodIn wsX0_value (wsV RX0 26 RX1 yX1_at wsX1_at) := goodIn_app (goodIn_of _ (by decide +kernel)) ggX0_value_X1_at
theorem dX0_value_0 : decode cX0_value 0 = .ok (.aload_n 0, 1) := by decide +kernel
theorem dX0_value_1 : decode cX0_value 1 = .ok (.getfield 14, 3) := by decide +kernel
theorem dX0_value_4 : decode cX0_value 4 = .ok (.iload_n 1, 1) := by decide +kernel
theorem dX0_value_5 : decode cX0_value 5 = .ok (.invokevirtual 26, 3) := by decide +kernel
theorem dX0_value_8 : decode cX0_value 8 = .ok (.ireturn, 1) := by decide +kernel
set_option maxRecDepth 20000 in
theorem ggX0_from_X1_at : GoodIn wsX0_from wsX1_at := goodIn_r _ [6, 7, 11] (by decide +kernel) (by decide +kernel)
set_option maxRecDepth 20000 in
theorem gX0_from_X1_at : GoodIn wsX0_from (wsV RX0 26 RX1 yX1_at wsX1_at) := goodIn_app (goodIn_of _ (by decide +kernel)) ggX0_from_X1_at
theorem dX0_from_0 : decode cX0_from 0 = .ok (.aload_n 0, 1) := by decide +kernel
theorem dX0_from_1 : decode cX0_from 1 = .ok (.getfield 20, 3) := by decide +kernel
theorem dX0_from_4 : decode cX0_from 4 = .ok (.iload_n 1, 1) := by decide +kernel
theorem dX0_from_5 : decode cX0_from 5 = .ok (.invokevirtual 26, 3) := by decide +kernel
theorem dX0_from_8 : decode cX0_from 8 = .ok (.ireturn, 1) := by decide +kernel
set_option maxRecDepth 20000 in
theorem ggX0_over_X1_at : GoodIn wsX0_over wsX1_at := goodIn_r _ [6, 7, 11] (by decide +kernel) (by decide +kernel)
set_option maxRecDepth 20000 in
theorem gX0_over_X1_at : GoodIn wsX0_over (wsV RX0 26 RX1 yX1_at wsX1_at) := goodIn_app (goodIn_of _ (by decide +kernel)) ggX0_over_X1_at
theorem dX0_over_0 : decode cX0_over 0 = .ok (.aload_n 0, 1) := by decide +kernel
theorem dX0_over_1 : decode cX0_over 1 = .ok (.getfield 23, 3) := by decide +kernel
theorem dX0_over_4 : decode cX0_over 4 = .ok (.iload_n 1, 1) := by decide +kernel
theorem dX0_over_5 : decode cX0_over 5 = .ok (.invokevirtual 26, 3) := by decide +kernel
theorem dX0_over_8 : decode cX0_over 8 = .ok (.ireturn, 1) := by decide +kernel
set_option maxRecDepth 20000 in
theorem ggX0_takeFromCourt_X1_put : GoodIn wsX0_takeFromCourt wsX1_put := goodIn_r _ [8, 9, 13] (by decide +kernel) (by decide +kernel)
set_option maxRecDepth 20000 in
theorem gX0_takeFromCourt_X1_put : GoodIn wsX0_takeFromCourt (wsV RX0 30 RX1 yX1_put wsX1_put) := goodIn_app (goodIn_of _ (by decide +kernel)) ggX0_takeFromCourt_X1_put
theorem dX0_takeFromCourt_0 : decode cX0_takeFromCourt 0 = .ok (.aload_n 0, 1) := by decide +kernel
theorem dX0_takeFromCourt_1 : decode cX0_takeFromCourt 1 = .ok (.getfield 14, 3) := by decide +kernel
theorem dX0_takeFromCourt_4 : decode cX0_takeFromCourt 4 = .ok (.iload_n 1, 1) := by decide +kernel
theorem dX0_takeFromCourt_5 : decode cX0_takeFromCourt 5 = .ok (.iload_n 2, 1) := by decide +kernel
theorem dX0_takeFromCourt_6 : decode cX0_takeFromCourt 6 = .ok (.invokevirtual 30, 3) := by decide +kernel
theorem dX0_takeFromCourt_9 : decode cX0_takeFromCourt 9 = .ok (.aload_n 0, 1) := by decide +kernel
theorem dX0_takeFromCourt_10 : decode cX0_takeFromCourt 10 = .ok (.getfield 20, 3) := by decide +kernel
theorem dX0_takeFromCourt_13 : decode cX0_takeFromCourt 13 = .ok (.iload_n 1, 1) := by decide +kernel
theorem dX0_takeFromCourt_14 : decode cX0_takeFromCourt 14 = .ok (.iconst (-1), 1) := by decide +kernel
theorem dX0_takeFromCourt_15 : decode cX0_takeFromCourt 15 = .ok (.invokevirtual 30, 3) := by decide +kernel
theorem dX0_takeFromCourt_18 : decode cX0_takeFromCourt 18 = .ok (.aload_n 0, 1) := by decide +kernel
theorem dX0_takeFromCourt_19 : decode cX0_takeFromCourt 19 = .ok (.getfield 23, 3) := by decide +kernel
theorem dX0_takeFromCourt_22 : decode cX0_takeFromCourt 22 = .ok (.iload_n 1, 1) := by decide +kernel
theorem dX0_takeFromCourt_23 : decode cX0_takeFromCourt 23 = .ok (.iconst 0, 1) := by decide +kernel
theorem dX0_takeFromCourt_24 : decode cX0_takeFromCourt 24 = .ok (.invokevirtual 30, 3) := by decide +kernel
theorem dX0_takeFromCourt_27 : decode cX0_takeFromCourt 27 = .ok (.return_, 1) := by decide +kernel
set_option maxRecDepth 20000 in
theorem ggX0_takeFrom_X1_at : GoodIn wsX0_takeFrom wsX1_at := goodIn_r _ [12, 13, 21] (by decide +kernel) (by decide +kernel)
set_option maxRecDepth 20000 in
theorem gX0_takeFrom_X1_at : GoodIn wsX0_takeFrom (wsV RX0 26 RX1 yX1_at wsX1_at) := goodIn_app (goodIn_of _ (by decide +kernel)) ggX0_takeFrom_X1_at
set_option maxRecDepth 20000 in
theorem ggX0_takeFrom_X1_put : GoodIn wsX0_takeFrom wsX1_put := goodIn_r _ [17, 13, 21] (by decide +kernel) (by decide +kernel)
set_option maxRecDepth 20000 in
theorem gX0_takeFrom_X1_put : GoodIn wsX0_takeFrom (wsV RX0 30 RX1 yX1_put wsX1_put) := goodIn_app (goodIn_of _ (by decide +kernel)) ggX0_takeFrom_X1_put
theorem dX0_takeFrom_0 : decode cX0_takeFrom 0 = .ok (.aload_n 0, 1) := by decide +kernel
theorem dX0_takeFrom_1 : decode cX0_takeFrom 1 = .ok (.getfield 14, 3) := by decide +kernel
theorem dX0_takeFrom_4 : decode cX0_takeFrom 4 = .ok (.iload_n 1, 1) := by decide +kernel
theorem dX0_takeFrom_5 : decode cX0_takeFrom 5 = .ok (.aload_n 3, 1) := by decide +kernel
theorem dX0_takeFrom_6 : decode cX0_takeFrom 6 = .ok (.getfield 14, 3) := by decide +kernel
theorem dX0_takeFrom_9 : decode cX0_takeFrom 9 = .ok (.iload_n 2, 1) := by decide +kernel
theorem dX0_takeFrom_10 : decode cX0_takeFrom 10 = .ok (.invokevirtual 26, 3) := by decide +kernel
theorem dX0_takeFrom_13 : decode cX0_takeFrom 13 = .ok (.invokevirtual 30, 3) := by decide +kernel
theorem dX0_takeFrom_16 : decode cX0_takeFrom 16 = .ok (.aload_n 0, 1) := by decide +kernel
theorem dX0_takeFrom_17 : decode cX0_takeFrom 17 = .ok (.getfield 20, 3) := by decide +kernel
theorem dX0_takeFrom_20 : decode cX0_takeFrom 20 = .ok (.iload_n 1, 1) := by decide +kernel
theorem dX0_takeFrom_21 : decode cX0_takeFrom 21 = .ok (.iload_n 2, 1) := by decide +kernel
theorem dX0_takeFrom_22 : decode cX0_takeFrom 22 = .ok (.invokevirtual 30, 3) := by decide +kernel
theorem dX0_takeFrom_25 : decode cX0_takeFrom 25 = .ok (.aload_n 0, 1) := by decide +kernel
theorem dX0_takeFrom_26 : decode cX0_takeFrom 26 = .ok (.getfield 23, 3) := by decide +kernel
theorem dX0_takeFrom_29 : decode cX0_takeFrom 29 = .ok (.iload_n 1, 1) := by decide +kernel
theorem dX0_takeFrom_30 : decode cX0_takeFrom 30 = .ok (.aload_n 3, 1) := by decide +kernel
theorem dX0_takeFrom_31 : decode cX0_takeFrom 31 = .ok (.getfield 23, 3) := by decide +kernel
theorem dX0_takeFrom_34 : decode cX0_takeFrom 34 = .ok (.iload_n 2, 1) := by decide +kernel
theorem dX0_takeFrom_35 : decode cX0_takeFrom 35 = .ok (.invokevirtual 26, 3) := by decide +kernel
theorem dX0_takeFrom_38 : decode cX0_takeFrom 38 = .ok (.iconst 1, 1) := by decide +kernel
theorem dX0_takeFrom_39 : decode cX0_takeFrom 39 = .ok (.iadd, 1) := by decide +kernel
theorem dX0_takeFrom_40 : decode cX0_takeFrom 40 = .ok (.bipush 99, 2) := by decide +kernel
theorem dX0_takeFrom_42 : decode cX0_takeFrom 42 = .ok (.invokestatic 34, 3) := by decide +kernel
theorem dX0_takeFrom_45 : decode cX0_takeFrom 45 = .ok (.invokevirtual 30, 3) := by decide +kernel
theorem dX0_takeFrom_48 : decode cX0_takeFrom 48 = .ok (.return_, 1) := by decide +kernel
set_option maxRecDepth 20000 in
theorem ggX0_copyFrom_X1_copyFrom : GoodIn wsX0_copyFrom wsX1_copyFrom := goodIn_r _ [8, 9, 10, 11, 12, 13, 14, 15, 16, 17, 21] (by decide +kernel) (by decide +kernel)
set_option maxRecDepth 20000 in
theorem gX0_copyFrom_X1_copyFrom : GoodIn wsX0_copyFrom (wsV RX0 40 RX1 yX1_copyFrom wsX1_copyFrom) := goodIn_app (goodIn_of _ (by decide +kernel)) ggX0_copyFrom_X1_copyFrom
theorem dX0_copyFrom_0 : decode cX0_copyFrom 0 = .ok (.aload_n 0, 1) := by decide +kernel
theorem dX0_copyFrom_1 : decode cX0_copyFrom 1 = .ok (.getfield 14, 3) := by decide +kernel
theorem dX0_copyFrom_4 : decode cX0_copyFrom 4 = .ok (.aload_n 1, 1) := by decide +kernel
theorem dX0_copyFrom_5 : decode cX0_copyFrom 5 = .ok (.getfield 14, 3) := by decide +kernel
theorem dX0_copyFrom_8 : decode cX0_copyFrom 8 = .ok (.invokevirtual 40, 3) := by decide +kernel
theorem dX0_copyFrom_11 : decode cX0_copyFrom 11 = .ok (.aload_n 0, 1) := by decide +kernel
theorem dX0_copyFrom_12 : decode cX0_copyFrom 12 = .ok (.getfield 20, 3) := by decide +kernel
theorem dX0_copyFrom_15 : decode cX0_copyFrom 15 = .ok (.aload_n 1, 1) := by decide +kernel
theorem dX0_copyFrom_16 : decode cX0_copyFrom 16 = .ok (.getfield 20, 3) := by decide +kernel
theorem dX0_copyFrom_19 : decode cX0_copyFrom 19 = .ok (.invokevirtual 40, 3) := by decide +kernel
theorem dX0_copyFrom_22 : decode cX0_copyFrom 22 = .ok (.aload_n 0, 1) := by decide +kernel
theorem dX0_copyFrom_23 : decode cX0_copyFrom 23 = .ok (.getfield 23, 3) := by decide +kernel
theorem dX0_copyFrom_26 : decode cX0_copyFrom 26 = .ok (.aload_n 1, 1) := by decide +kernel
theorem dX0_copyFrom_27 : decode cX0_copyFrom 27 = .ok (.getfield 23, 3) := by decide +kernel
theorem dX0_copyFrom_30 : decode cX0_copyFrom 30 = .ok (.invokevirtual 40, 3) := by decide +kernel
theorem dX0_copyFrom_33 : decode cX0_copyFrom 33 = .ok (.return_, 1) := by decide +kernel
theorem dX1_init_0 : decode cX1_init 0 = .ok (.aload_n 0, 1) := by decide +kernel
theorem dX1_init_1 : decode cX1_init 1 = .ok (.invokespecial 1, 3) := by decide +kernel
theorem dX1_init_4 : decode cX1_init 4 = .ok (.aload_n 0, 1) := by decide +kernel
theorem dX1_init_5 : decode cX1_init 5 = .ok (.iload_n 1, 1) := by decide +kernel
theorem dX1_init_6 : decode cX1_init 6 = .ok (.iconst 0, 1) := by decide +kernel
theorem dX1_init_7 : decode cX1_init 7 = .ok (.invokestatic 7, 3) := by decide +kernel
theorem dX1_init_10 : decode cX1_init 10 = .ok (.newarray .int, 2) := by decide +kernel
theorem dX1_init_12 : decode cX1_init 12 = .ok (.putfield 13, 3) := by decide +kernel
theorem dX1_init_15 : decode cX1_init 15 = .ok (.return_, 1) := by decide +kernel
theorem dX1_at_0 : decode cX1_at 0 = .ok (.iload_n 1, 1) := by decide +kernel
theorem dX1_at_1 : decode cX1_at 1 = .ok (.ifCond .lt 21, 3) := by decide +kernel
theorem dX1_at_4 : decode cX1_at 4 = .ok (.iload_n 1, 1) := by decide +kernel
theorem dX1_at_5 : decode cX1_at 5 = .ok (.aload_n 0, 1) := by decide +kernel
theorem dX1_at_6 : decode cX1_at 6 = .ok (.getfield 13, 3) := by decide +kernel
theorem dX1_at_9 : decode cX1_at 9 = .ok (.arraylength, 1) := by decide +kernel
theorem dX1_at_10 : decode cX1_at 10 = .ok (.if_icmp .ge 12, 3) := by decide +kernel
theorem dX1_at_13 : decode cX1_at 13 = .ok (.aload_n 0, 1) := by decide +kernel
theorem dX1_at_14 : decode cX1_at 14 = .ok (.getfield 13, 3) := by decide +kernel
theorem dX1_at_17 : decode cX1_at 17 = .ok (.iload_n 1, 1) := by decide +kernel
theorem dX1_at_18 : decode cX1_at 18 = .ok (.iaload, 1) := by decide +kernel
theorem dX1_at_19 : decode cX1_at 19 = .ok (.goto 4, 3) := by decide +kernel
theorem dX1_at_22 : decode cX1_at 22 = .ok (.iconst 0, 1) := by decide +kernel
theorem dX1_at_23 : decode cX1_at 23 = .ok (.ireturn, 1) := by decide +kernel
theorem dX1_put_0 : decode cX1_put 0 = .ok (.iload_n 1, 1) := by decide +kernel
theorem dX1_put_1 : decode cX1_put 1 = .ok (.ifCond .lt 19, 3) := by decide +kernel
theorem dX1_put_4 : decode cX1_put 4 = .ok (.iload_n 1, 1) := by decide +kernel
theorem dX1_put_5 : decode cX1_put 5 = .ok (.aload_n 0, 1) := by decide +kernel
theorem dX1_put_6 : decode cX1_put 6 = .ok (.getfield 13, 3) := by decide +kernel
theorem dX1_put_9 : decode cX1_put 9 = .ok (.arraylength, 1) := by decide +kernel
theorem dX1_put_10 : decode cX1_put 10 = .ok (.if_icmp .ge 10, 3) := by decide +kernel
theorem dX1_put_13 : decode cX1_put 13 = .ok (.aload_n 0, 1) := by decide +kernel
theorem dX1_put_14 : decode cX1_put 14 = .ok (.getfield 13, 3) := by decide +kernel
theorem dX1_put_17 : decode cX1_put 17 = .ok (.iload_n 1, 1) := by decide +kernel
theorem dX1_put_18 : decode cX1_put 18 = .ok (.iload_n 2, 1) := by decide +kernel
theorem dX1_put_19 : decode cX1_put 19 = .ok (.iastore, 1) := by decide +kernel
theorem dX1_put_20 : decode cX1_put 20 = .ok (.return_, 1) := by decide +kernel
theorem dX1_copyFrom_0 : decode cX1_copyFrom 0 = .ok (.aload_n 1, 1) := by decide +kernel
theorem dX1_copyFrom_1 : decode cX1_copyFrom 1 = .ok (.getfield 13, 3) := by decide +kernel
theorem dX1_copyFrom_4 : decode cX1_copyFrom 4 = .ok (.iconst 0, 1) := by decide +kernel
theorem dX1_copyFrom_5 : decode cX1_copyFrom 5 = .ok (.aload_n 0, 1) := by decide +kernel
theorem dX1_copyFrom_6 : decode cX1_copyFrom 6 = .ok (.getfield 13, 3) := by decide +kernel
theorem dX1_copyFrom_9 : decode cX1_copyFrom 9 = .ok (.iconst 0, 1) := by decide +kernel
theorem dX1_copyFrom_10 : decode cX1_copyFrom 10 = .ok (.aload_n 1, 1) := by decide +kernel
theorem dX1_copyFrom_11 : decode cX1_copyFrom 11 = .ok (.getfield 13, 3) := by decide +kernel
theorem dX1_copyFrom_14 : decode cX1_copyFrom 14 = .ok (.arraylength, 1) := by decide +kernel
theorem dX1_copyFrom_15 : decode cX1_copyFrom 15 = .ok (.aload_n 0, 1) := by decide +kernel
theorem dX1_copyFrom_16 : decode cX1_copyFrom 16 = .ok (.getfield 13, 3) := by decide +kernel
theorem dX1_copyFrom_19 : decode cX1_copyFrom 19 = .ok (.arraylength, 1) := by decide +kernel
theorem dX1_copyFrom_20 : decode cX1_copyFrom 20 = .ok (.invokestatic 19, 3) := by decide +kernel
theorem dX1_copyFrom_23 : decode cX1_copyFrom 23 = .ok (.invokestatic 22, 3) := by decide +kernel
theorem dX1_copyFrom_26 : decode cX1_copyFrom 26 = .ok (.return_, 1) := by decide +kernel
set_option maxRecDepth 20000 in
theorem ggX2_init_X1_init : GoodIn wsX2_init wsX1_init := goodIn_r _ [14, 15, 2, 3, 16, 17, 18, 19, 20, 21, 27] (by decide +kernel) (by decide +kernel)
set_option maxRecDepth 20000 in
theorem gX2_init_X1_init : GoodIn wsX2_init (wsX1_init) := ggX2_init_X1_init
theorem dX2_init_0 : decode cX2_init 0 = .ok (.aload_n 0, 1) := by decide +kernel
theorem dX2_init_1 : decode cX2_init 1 = .ok (.invokespecial 3, 3) := by decide +kernel
theorem dX2_init_4 : decode cX2_init 4 = .ok (.aload_n 0, 1) := by decide +kernel
theorem dX2_init_5 : decode cX2_init 5 = .ok (.iconst 0, 1) := by decide +kernel
theorem dX2_init_6 : decode cX2_init 6 = .ok (.putfield 9, 3) := by decide +kernel
theorem dX2_init_9 : decode cX2_init 9 = .ok (.aload_n 0, 1) := by decide +kernel
theorem dX2_init_10 : decode cX2_init 10 = .ok (.new 15, 3) := by decide +kernel
theorem dX2_init_13 : decode cX2_init 13 = .ok (.dup, 1) := by decide +kernel
theorem dX2_init_14 : decode cX2_init 14 = .ok (.bipush 12, 2) := by decide +kernel
theorem dX2_init_16 : decode cX2_init 16 = .ok (.invokespecial 17, 3) := by decide +kernel
theorem dX2_init_19 : decode cX2_init 19 = .ok (.putfield 20, 3) := by decide +kernel
theorem dX2_init_22 : decode cX2_init 22 = .ok (.aload_n 0, 1) := by decide +kernel
theorem dX2_init_23 : decode cX2_init 23 = .ok (.new 15, 3) := by decide +kernel
theorem dX2_init_26 : decode cX2_init 26 = .ok (.dup, 1) := by decide +kernel
theorem dX2_init_27 : decode cX2_init 27 = .ok (.bipush 12, 2) := by decide +kernel
theorem dX2_init_29 : decode cX2_init 29 = .ok (.invokespecial 17, 3) := by decide +kernel
theorem dX2_init_32 : decode cX2_init 32 = .ok (.putfield 24, 3) := by decide +kernel
theorem dX2_init_35 : decode cX2_init 35 = .ok (.aload_n 0, 1) := by decide +kernel
theorem dX2_init_36 : decode cX2_init 36 = .ok (.new 15, 3) := by decide +kernel
theorem dX2_init_39 : decode cX2_init 39 = .ok (.dup, 1) := by decide +kernel
theorem dX2_init_40 : decode cX2_init 40 = .ok (.bipush 12, 2) := by decide +kernel
theorem dX2_init_42 : decode cX2_init 42 = .ok (.invokespecial 17, 3) := by decide +kernel
theorem dX2_init_45 : decode cX2_init 45 = .ok (.putfield 27, 3) := by decide +kernel
theorem dX2_init_48 : decode cX2_init 48 = .ok (.aload_n 0, 1) := by decide +kernel
theorem dX2_init_49 : decode cX2_init 49 = .ok (.new 15, 3) := by decide +kernel
theorem dX2_init_52 : decode cX2_init 52 = .ok (.dup, 1) := by decide +kernel
theorem dX2_init_53 : decode cX2_init 53 = .ok (.bipush 48, 2) := by decide +kernel
theorem dX2_init_55 : decode cX2_init 55 = .ok (.invokespecial 17, 3) := by decide +kernel
theorem dX2_init_58 : decode cX2_init 58 = .ok (.putfield 30, 3) := by decide +kernel
theorem dX2_init_61 : decode cX2_init 61 = .ok (.return_, 1) := by decide +kernel
theorem dX2_size_0 : decode cX2_size 0 = .ok (.aload_n 0, 1) := by decide +kernel
theorem dX2_size_1 : decode cX2_size 1 = .ok (.getfield 9, 3) := by decide +kernel
theorem dX2_size_4 : decode cX2_size 4 = .ok (.ireturn, 1) := by decide +kernel
set_option maxRecDepth 20000 in
theorem ggX2_memory_X1_at : GoodIn wsX2_memory wsX1_at := goodIn_r _ [6, 7, 13] (by decide +kernel) (by decide +kernel)
set_option maxRecDepth 20000 in
theorem gX2_memory_X1_at : GoodIn wsX2_memory (wsV RX2 33 RX1 yX1_at wsX1_at) := goodIn_app (goodIn_of _ (by decide +kernel)) ggX2_memory_X1_at
theorem dX2_memory_0 : decode cX2_memory 0 = .ok (.aload_n 0, 1) := by decide +kernel
theorem dX2_memory_1 : decode cX2_memory 1 = .ok (.getfield 20, 3) := by decide +kernel
theorem dX2_memory_4 : decode cX2_memory 4 = .ok (.iload_n 1, 1) := by decide +kernel
theorem dX2_memory_5 : decode cX2_memory 5 = .ok (.invokevirtual 33, 3) := by decide +kernel
theorem dX2_memory_8 : decode cX2_memory 8 = .ok (.ireturn, 1) := by decide +kernel
set_option maxRecDepth 20000 in
theorem ggX2_loud_X1_at : GoodIn wsX2_loud wsX1_at := goodIn_r _ [6, 7, 13] (by decide +kernel) (by decide +kernel)
set_option maxRecDepth 20000 in
theorem gX2_loud_X1_at : GoodIn wsX2_loud (wsV RX2 33 RX1 yX1_at wsX1_at) := goodIn_app (goodIn_of _ (by decide +kernel)) ggX2_loud_X1_at
theorem dX2_loud_0 : decode cX2_loud 0 = .ok (.aload_n 0, 1) := by decide +kernel
theorem dX2_loud_1 : decode cX2_loud 1 = .ok (.getfield 24, 3) := by decide +kernel
theorem dX2_loud_4 : decode cX2_loud 4 = .ok (.iload_n 1, 1) := by decide +kernel
theorem dX2_loud_5 : decode cX2_loud 5 = .ok (.invokevirtual 33, 3) := by decide +kernel
theorem dX2_loud_8 : decode cX2_loud 8 = .ok (.ireturn, 1) := by decide +kernel
set_option maxRecDepth 20000 in
theorem ggX2_setLoud_X1_put : GoodIn wsX2_setLoud wsX1_put := goodIn_r _ [6, 7, 13] (by decide +kernel) (by decide +kernel)
set_option maxRecDepth 20000 in
theorem gX2_setLoud_X1_put : GoodIn wsX2_setLoud (wsV RX2 37 RX1 yX1_put wsX1_put) := goodIn_app (goodIn_of _ (by decide +kernel)) ggX2_setLoud_X1_put
theorem dX2_setLoud_0 : decode cX2_setLoud 0 = .ok (.aload_n 0, 1) := by decide +kernel
theorem dX2_setLoud_1 : decode cX2_setLoud 1 = .ok (.getfield 24, 3) := by decide +kernel
theorem dX2_setLoud_4 : decode cX2_setLoud 4 = .ok (.iload_n 1, 1) := by decide +kernel
theorem dX2_setLoud_5 : decode cX2_setLoud 5 = .ok (.iload_n 2, 1) := by decide +kernel
theorem dX2_setLoud_6 : decode cX2_setLoud 6 = .ok (.invokevirtual 37, 3) := by decide +kernel
theorem dX2_setLoud_9 : decode cX2_setLoud 9 = .ok (.return_, 1) := by decide +kernel
set_option maxRecDepth 20000 in
theorem ggX2_listening_X1_at : GoodIn wsX2_listening wsX1_at := goodIn_r _ [6, 7, 13] (by decide +kernel) (by decide +kernel)
set_option maxRecDepth 20000 in
theorem gX2_listening_X1_at : GoodIn wsX2_listening (wsV RX2 33 RX1 yX1_at wsX1_at) := goodIn_app (goodIn_of _ (by decide +kernel)) ggX2_listening_X1_at
theorem dX2_listening_0 : decode cX2_listening 0 = .ok (.aload_n 0, 1) := by decide +kernel
theorem dX2_listening_1 : decode cX2_listening 1 = .ok (.getfield 27, 3) := by decide +kernel
theorem dX2_listening_4 : decode cX2_listening 4 = .ok (.iload_n 1, 1) := by decide +kernel
theorem dX2_listening_5 : decode cX2_listening 5 = .ok (.invokevirtual 33, 3) := by decide +kernel
theorem dX2_listening_8 : decode cX2_listening 8 = .ok (.ireturn, 1) := by decide +kernel
set_option maxRecDepth 20000 in
theorem ggX2_other_X1_at : GoodIn wsX2_other wsX1_at := goodIn_r _ [6, 7, 13] (by decide +kernel) (by decide +kernel)
set_option maxRecDepth 20000 in
theorem gX2_other_X1_at : GoodIn wsX2_other (wsV RX2 33 RX1 yX1_at wsX1_at) := goodIn_app (goodIn_of _ (by decide +kernel)) ggX2_other_X1_at
theorem dX2_other_0 : decode cX2_other 0 = .ok (.aload_n 0, 1) := by decide +kernel
theorem dX2_other_1 : decode cX2_other 1 = .ok (.getfield 30, 3) := by decide +kernel
theorem dX2_other_4 : decode cX2_other 4 = .ok (.iload_n 1, 1) := by decide +kernel
theorem dX2_other_5 : decode cX2_other 5 = .ok (.iconst 4, 1) := by decide +kernel
theorem dX2_other_6 : decode cX2_other 6 = .ok (.imul, 1) := by decide +kernel
theorem dX2_other_7 : decode cX2_other 7 = .ok (.iload_n 2, 1) := by decide +kernel
theorem dX2_other_8 : decode cX2_other 8 = .ok (.iadd, 1) := by decide +kernel
theorem dX2_other_9 : decode cX2_other 9 = .ok (.invokevirtual 33, 3) := by decide +kernel
theorem dX2_other_12 : decode cX2_other 12 = .ok (.ireturn, 1) := by decide +kernel
set_option maxRecDepth 20000 in
theorem ggX2_seat_X1_put : GoodIn wsX2_seat wsX1_put := goodIn_r _ [8, 9, 15] (by decide +kernel) (by decide +kernel)
set_option maxRecDepth 20000 in
theorem gX2_seat_X1_put : GoodIn wsX2_seat (wsV RX2 37 RX1 yX1_put wsX1_put) := goodIn_app (goodIn_of _ (by decide +kernel)) ggX2_seat_X1_put
theorem dX2_seat_0 : decode cX2_seat 0 = .ok (.aload_n 0, 1) := by decide +kernel
theorem dX2_seat_1 : decode cX2_seat 1 = .ok (.getfield 9, 3) := by decide +kernel
theorem dX2_seat_4 : decode cX2_seat 4 = .ok (.istore_n 3, 1) := by decide +kernel
theorem dX2_seat_5 : decode cX2_seat 5 = .ok (.aload_n 0, 1) := by decide +kernel
theorem dX2_seat_6 : decode cX2_seat 6 = .ok (.getfield 20, 3) := by decide +kernel
theorem dX2_seat_9 : decode cX2_seat 9 = .ok (.iload_n 3, 1) := by decide +kernel
theorem dX2_seat_10 : decode cX2_seat 10 = .ok (.iload_n 1, 1) := by decide +kernel
theorem dX2_seat_11 : decode cX2_seat 11 = .ok (.invokevirtual 37, 3) := by decide +kernel
theorem dX2_seat_14 : decode cX2_seat 14 = .ok (.aload_n 0, 1) := by decide +kernel
theorem dX2_seat_15 : decode cX2_seat 15 = .ok (.getfield 24, 3) := by decide +kernel
theorem dX2_seat_18 : decode cX2_seat 18 = .ok (.iload_n 3, 1) := by decide +kernel
theorem dX2_seat_19 : decode cX2_seat 19 = .ok (.iload_n 2, 1) := by decide +kernel
theorem dX2_seat_20 : decode cX2_seat 20 = .ok (.invokevirtual 37, 3) := by decide +kernel
theorem dX2_seat_23 : decode cX2_seat 23 = .ok (.aload_n 0, 1) := by decide +kernel
theorem dX2_seat_24 : decode cX2_seat 24 = .ok (.dup, 1) := by decide +kernel
theorem dX2_seat_25 : decode cX2_seat 25 = .ok (.getfield 9, 3) := by decide +kernel
theorem dX2_seat_28 : decode cX2_seat 28 = .ok (.iconst 1, 1) := by decide +kernel
theorem dX2_seat_29 : decode cX2_seat 29 = .ok (.iadd, 1) := by decide +kernel
theorem dX2_seat_30 : decode cX2_seat 30 = .ok (.putfield 9, 3) := by decide +kernel
theorem dX2_seat_33 : decode cX2_seat 33 = .ok (.iload_n 3, 1) := by decide +kernel
theorem dX2_seat_34 : decode cX2_seat 34 = .ok (.ireturn, 1) := by decide +kernel
set_option maxRecDepth 20000 in
theorem ggX2_placeOf_X1_at : GoodIn wsX2_placeOf wsX1_at := goodIn_r _ [6, 7, 19] (by decide +kernel) (by decide +kernel)
set_option maxRecDepth 20000 in
theorem gX2_placeOf_X1_at : GoodIn wsX2_placeOf (wsV RX2 33 RX1 yX1_at wsX1_at) := goodIn_app (goodIn_of _ (by decide +kernel)) ggX2_placeOf_X1_at
set_option maxRecDepth 20000 in
theorem ggX2_placeOf_X2_other : GoodIn wsX2_placeOf wsX2_other := goodIn_r _ [12, 13, 2, 3, 4, 5, 6, 7, 14, 15, 16, 17, 18, 19] (by decide +kernel) (by decide +kernel)
set_option maxRecDepth 20000 in
theorem gX2_placeOf_X2_other : GoodIn wsX2_placeOf (wsV RX2 41 RX2 yX2_other wsX2_other) := goodIn_app (goodIn_of _ (by decide +kernel)) ggX2_placeOf_X2_other
theorem dX2_placeOf_0 : decode cX2_placeOf 0 = .ok (.aload_n 0, 1) := by decide +kernel
theorem dX2_placeOf_1 : decode cX2_placeOf 1 = .ok (.getfield 27, 3) := by decide +kernel
theorem dX2_placeOf_4 : decode cX2_placeOf 4 = .ok (.iload_n 1, 1) := by decide +kernel
theorem dX2_placeOf_5 : decode cX2_placeOf 5 = .ok (.invokevirtual 33, 3) := by decide +kernel
theorem dX2_placeOf_8 : decode cX2_placeOf 8 = .ok (.istore_n 3, 1) := by decide +kernel
theorem dX2_placeOf_9 : decode cX2_placeOf 9 = .ok (.iconst 0, 1) := by decide +kernel
theorem dX2_placeOf_10 : decode cX2_placeOf 10 = .ok (.istore 4, 2) := by decide +kernel
theorem dX2_placeOf_12 : decode cX2_placeOf 12 = .ok (.iload 4, 2) := by decide +kernel
theorem dX2_placeOf_14 : decode cX2_placeOf 14 = .ok (.iload_n 3, 1) := by decide +kernel
theorem dX2_placeOf_15 : decode cX2_placeOf 15 = .ok (.if_icmp .ge 23, 3) := by decide +kernel
theorem dX2_placeOf_18 : decode cX2_placeOf 18 = .ok (.aload_n 0, 1) := by decide +kernel
theorem dX2_placeOf_19 : decode cX2_placeOf 19 = .ok (.iload_n 1, 1) := by decide +kernel
theorem dX2_placeOf_20 : decode cX2_placeOf 20 = .ok (.iload 4, 2) := by decide +kernel
theorem dX2_placeOf_22 : decode cX2_placeOf 22 = .ok (.invokevirtual 41, 3) := by decide +kernel
theorem dX2_placeOf_25 : decode cX2_placeOf 25 = .ok (.iload_n 2, 1) := by decide +kernel
theorem dX2_placeOf_26 : decode cX2_placeOf 26 = .ok (.if_icmp .ne 6, 3) := by decide +kernel
theorem dX2_placeOf_29 : decode cX2_placeOf 29 = .ok (.iload 4, 2) := by decide +kernel
theorem dX2_placeOf_31 : decode cX2_placeOf 31 = .ok (.ireturn, 1) := by decide +kernel
theorem dX2_placeOf_32 : decode cX2_placeOf 32 = .ok (.iinc 4 1, 3) := by decide +kernel
theorem dX2_placeOf_35 : decode cX2_placeOf 35 = .ok (.goto (-23), 3) := by decide +kernel
theorem dX2_placeOf_38 : decode cX2_placeOf 38 = .ok (.iconst (-1), 1) := by decide +kernel
theorem dX2_placeOf_39 : decode cX2_placeOf 39 = .ok (.ireturn, 1) := by decide +kernel
set_option maxRecDepth 20000 in
theorem ggX2_addOther_X1_at : GoodIn wsX2_addOther wsX1_at := goodIn_r _ [7, 8, 18] (by decide +kernel) (by decide +kernel)
set_option maxRecDepth 20000 in
theorem gX2_addOther_X1_at : GoodIn wsX2_addOther (wsV RX2 33 RX1 yX1_at wsX1_at) := goodIn_app (goodIn_of _ (by decide +kernel)) ggX2_addOther_X1_at
set_option maxRecDepth 20000 in
theorem ggX2_addOther_X1_put : GoodIn wsX2_addOther wsX1_put := goodIn_r _ [12, 8, 18] (by decide +kernel) (by decide +kernel)
set_option maxRecDepth 20000 in
theorem gX2_addOther_X1_put : GoodIn wsX2_addOther (wsV RX2 37 RX1 yX1_put wsX1_put) := goodIn_app (goodIn_of _ (by decide +kernel)) ggX2_addOther_X1_put
theorem dX2_addOther_0 : decode cX2_addOther 0 = .ok (.aload_n 0, 1) := by decide +kernel
theorem dX2_addOther_1 : decode cX2_addOther 1 = .ok (.getfield 27, 3) := by decide +kernel
theorem dX2_addOther_4 : decode cX2_addOther 4 = .ok (.iload_n 1, 1) := by decide +kernel
theorem dX2_addOther_5 : decode cX2_addOther 5 = .ok (.invokevirtual 33, 3) := by decide +kernel
theorem dX2_addOther_8 : decode cX2_addOther 8 = .ok (.istore_n 3, 1) := by decide +kernel
theorem dX2_addOther_9 : decode cX2_addOther 9 = .ok (.aload_n 0, 1) := by decide +kernel
theorem dX2_addOther_10 : decode cX2_addOther 10 = .ok (.getfield 30, 3) := by decide +kernel
theorem dX2_addOther_13 : decode cX2_addOther 13 = .ok (.iload_n 1, 1) := by decide +kernel
theorem dX2_addOther_14 : decode cX2_addOther 14 = .ok (.iconst 4, 1) := by decide +kernel
theorem dX2_addOther_15 : decode cX2_addOther 15 = .ok (.imul, 1) := by decide +kernel
theorem dX2_addOther_16 : decode cX2_addOther 16 = .ok (.iload_n 3, 1) := by decide +kernel
theorem dX2_addOther_17 : decode cX2_addOther 17 = .ok (.iadd, 1) := by decide +kernel
theorem dX2_addOther_18 : decode cX2_addOther 18 = .ok (.iload_n 2, 1) := by decide +kernel
theorem dX2_addOther_19 : decode cX2_addOther 19 = .ok (.invokevirtual 37, 3) := by decide +kernel
theorem dX2_addOther_22 : decode cX2_addOther 22 = .ok (.aload_n 0, 1) := by decide +kernel
theorem dX2_addOther_23 : decode cX2_addOther 23 = .ok (.getfield 27, 3) := by decide +kernel
theorem dX2_addOther_26 : decode cX2_addOther 26 = .ok (.iload_n 1, 1) := by decide +kernel
theorem dX2_addOther_27 : decode cX2_addOther 27 = .ok (.iload_n 3, 1) := by decide +kernel
theorem dX2_addOther_28 : decode cX2_addOther 28 = .ok (.iconst 1, 1) := by decide +kernel
theorem dX2_addOther_29 : decode cX2_addOther 29 = .ok (.iadd, 1) := by decide +kernel
theorem dX2_addOther_30 : decode cX2_addOther 30 = .ok (.invokevirtual 37, 3) := by decide +kernel
theorem dX2_addOther_33 : decode cX2_addOther 33 = .ok (.return_, 1) := by decide +kernel
set_option maxRecDepth 20000 in
theorem ggX2_dropOther_X1_at : GoodIn wsX2_dropOther wsX1_at := goodIn_r _ [7, 8, 23] (by decide +kernel) (by decide +kernel)
set_option maxRecDepth 20000 in
theorem gX2_dropOther_X1_at : GoodIn wsX2_dropOther (wsV RX2 33 RX1 yX1_at wsX1_at) := goodIn_app (goodIn_of _ (by decide +kernel)) ggX2_dropOther_X1_at
set_option maxRecDepth 20000 in
theorem ggX2_dropOther_X2_other : GoodIn wsX2_dropOther wsX2_other := goodIn_r _ [13, 2, 3, 4, 5, 6, 7, 8, 18, 19, 20, 21, 22, 23] (by decide +kernel) (by decide +kernel)
set_option maxRecDepth 20000 in
theorem gX2_dropOther_X2_other : GoodIn wsX2_dropOther (wsV RX2 41 RX2 yX2_other wsX2_other) := goodIn_app (goodIn_of _ (by decide +kernel)) ggX2_dropOther_X2_other
set_option maxRecDepth 20000 in
theorem ggX2_dropOther_X1_put : GoodIn wsX2_dropOther wsX1_put := goodIn_r _ [17, 8, 23] (by decide +kernel) (by decide +kernel)
set_option maxRecDepth 20000 in
theorem gX2_dropOther_X1_put : GoodIn wsX2_dropOther (wsV RX2 37 RX1 yX1_put wsX1_put) := goodIn_app (goodIn_of _ (by decide +kernel)) ggX2_dropOther_X1_put
theorem dX2_dropOther_0 : decode cX2_dropOther 0 = .ok (.aload_n 0, 1) := by decide +kernel
theorem dX2_dropOther_1 : decode cX2_dropOther 1 = .ok (.getfield 27, 3) := by decide +kernel
theorem dX2_dropOther_4 : decode cX2_dropOther 4 = .ok (.iload_n 1, 1) := by decide +kernel
theorem dX2_dropOther_5 : decode cX2_dropOther 5 = .ok (.invokevirtual 33, 3) := by decide +kernel
theorem dX2_dropOther_8 : decode cX2_dropOther 8 = .ok (.iconst 1, 1) := by decide +kernel
theorem dX2_dropOther_9 : decode cX2_dropOther 9 = .ok (.isub, 1) := by decide +kernel
theorem dX2_dropOther_10 : decode cX2_dropOther 10 = .ok (.istore_n 3, 1) := by decide +kernel
theorem dX2_dropOther_11 : decode cX2_dropOther 11 = .ok (.iload_n 2, 1) := by decide +kernel
theorem dX2_dropOther_12 : decode cX2_dropOther 12 = .ok (.istore 4, 2) := by decide +kernel
theorem dX2_dropOther_14 : decode cX2_dropOther 14 = .ok (.iload 4, 2) := by decide +kernel
theorem dX2_dropOther_16 : decode cX2_dropOther 16 = .ok (.iload_n 3, 1) := by decide +kernel
theorem dX2_dropOther_17 : decode cX2_dropOther 17 = .ok (.if_icmp .ge 31, 3) := by decide +kernel
theorem dX2_dropOther_20 : decode cX2_dropOther 20 = .ok (.aload_n 0, 1) := by decide +kernel
theorem dX2_dropOther_21 : decode cX2_dropOther 21 = .ok (.getfield 30, 3) := by decide +kernel
theorem dX2_dropOther_24 : decode cX2_dropOther 24 = .ok (.iload_n 1, 1) := by decide +kernel
theorem dX2_dropOther_25 : decode cX2_dropOther 25 = .ok (.iconst 4, 1) := by decide +kernel
theorem dX2_dropOther_26 : decode cX2_dropOther 26 = .ok (.imul, 1) := by decide +kernel
theorem dX2_dropOther_27 : decode cX2_dropOther 27 = .ok (.iload 4, 2) := by decide +kernel
theorem dX2_dropOther_29 : decode cX2_dropOther 29 = .ok (.iadd, 1) := by decide +kernel
theorem dX2_dropOther_30 : decode cX2_dropOther 30 = .ok (.aload_n 0, 1) := by decide +kernel
theorem dX2_dropOther_31 : decode cX2_dropOther 31 = .ok (.iload_n 1, 1) := by decide +kernel
theorem dX2_dropOther_32 : decode cX2_dropOther 32 = .ok (.iload 4, 2) := by decide +kernel
theorem dX2_dropOther_34 : decode cX2_dropOther 34 = .ok (.iconst 1, 1) := by decide +kernel
theorem dX2_dropOther_35 : decode cX2_dropOther 35 = .ok (.iadd, 1) := by decide +kernel
theorem dX2_dropOther_36 : decode cX2_dropOther 36 = .ok (.invokevirtual 41, 3) := by decide +kernel
theorem dX2_dropOther_39 : decode cX2_dropOther 39 = .ok (.invokevirtual 37, 3) := by decide +kernel
theorem dX2_dropOther_42 : decode cX2_dropOther 42 = .ok (.iinc 4 1, 3) := by decide +kernel
theorem dX2_dropOther_45 : decode cX2_dropOther 45 = .ok (.goto (-31), 3) := by decide +kernel
theorem dX2_dropOther_48 : decode cX2_dropOther 48 = .ok (.aload_n 0, 1) := by decide +kernel
theorem dX2_dropOther_49 : decode cX2_dropOther 49 = .ok (.getfield 27, 3) := by decide +kernel
theorem dX2_dropOther_52 : decode cX2_dropOther 52 = .ok (.iload_n 1, 1) := by decide +kernel
theorem dX2_dropOther_53 : decode cX2_dropOther 53 = .ok (.iload_n 3, 1) := by decide +kernel
theorem dX2_dropOther_54 : decode cX2_dropOther 54 = .ok (.invokevirtual 37, 3) := by decide +kernel
theorem dX2_dropOther_57 : decode cX2_dropOther 57 = .ok (.return_, 1) := by decide +kernel
set_option maxRecDepth 20000 in
theorem ggX2_listeners_X2_placeOf : GoodIn wsX2_listeners wsX2_placeOf := goodIn_r _ [6, 7, 8, 9, 10, 11, 12, 13, 14, 15, 16, 5, 17, 18, 19, 20, 21, 22, 23, 24] (by decide +kernel) (by decide +kernel)
set_option maxRecDepth 20000 in
theorem gX2_listeners_X2_placeOf : GoodIn wsX2_listeners (wsV RX2 45 RX2 yX2_placeOf wsX2_placeOf) := goodIn_app (goodIn_of _ (by decide +kernel)) ggX2_listeners_X2_placeOf
theorem dX2_listeners_0 : decode cX2_listeners 0 = .ok (.iconst 0, 1) := by decide +kernel
theorem dX2_listeners_1 : decode cX2_listeners 1 = .ok (.istore_n 2, 1) := by decide +kernel
theorem dX2_listeners_2 : decode cX2_listeners 2 = .ok (.iconst 0, 1) := by decide +kernel
theorem dX2_listeners_3 : decode cX2_listeners 3 = .ok (.istore_n 3, 1) := by decide +kernel
theorem dX2_listeners_4 : decode cX2_listeners 4 = .ok (.iload_n 3, 1) := by decide +kernel
theorem dX2_listeners_5 : decode cX2_listeners 5 = .ok (.aload_n 0, 1) := by decide +kernel
theorem dX2_listeners_6 : decode cX2_listeners 6 = .ok (.getfield 9, 3) := by decide +kernel
theorem dX2_listeners_9 : decode cX2_listeners 9 = .ok (.if_icmp .ge 22, 3) := by decide +kernel
theorem dX2_listeners_12 : decode cX2_listeners 12 = .ok (.aload_n 0, 1) := by decide +kernel
theorem dX2_listeners_13 : decode cX2_listeners 13 = .ok (.iload_n 3, 1) := by decide +kernel
theorem dX2_listeners_14 : decode cX2_listeners 14 = .ok (.iload_n 1, 1) := by decide +kernel
theorem dX2_listeners_15 : decode cX2_listeners 15 = .ok (.invokevirtual 45, 3) := by decide +kernel
theorem dX2_listeners_18 : decode cX2_listeners 18 = .ok (.iconst (-1), 1) := by decide +kernel
theorem dX2_listeners_19 : decode cX2_listeners 19 = .ok (.if_icmp .eq 6, 3) := by decide +kernel
theorem dX2_listeners_22 : decode cX2_listeners 22 = .ok (.iinc 2 1, 3) := by decide +kernel
theorem dX2_listeners_25 : decode cX2_listeners 25 = .ok (.iinc 3 1, 3) := by decide +kernel
theorem dX2_listeners_28 : decode cX2_listeners 28 = .ok (.goto (-24), 3) := by decide +kernel
theorem dX2_listeners_31 : decode cX2_listeners 31 = .ok (.iload_n 2, 1) := by decide +kernel
theorem dX2_listeners_32 : decode cX2_listeners 32 = .ok (.ireturn, 1) := by decide +kernel
set_option maxRecDepth 20000 in
theorem ggX2_heard_X1_at : GoodIn wsX2_heard wsX1_at := goodIn_r _ [7, 8, 20] (by decide +kernel) (by decide +kernel)
set_option maxRecDepth 20000 in
theorem gX2_heard_X1_at : GoodIn wsX2_heard (wsV RX2 33 RX1 yX1_at wsX1_at) := goodIn_app (goodIn_of _ (by decide +kernel)) ggX2_heard_X1_at
set_option maxRecDepth 20000 in
theorem ggX2_heard_X2_other : GoodIn wsX2_heard wsX2_other := goodIn_r _ [13, 14, 3, 4, 5, 6, 7, 8, 15, 16, 17, 18, 19, 20] (by decide +kernel) (by decide +kernel)
set_option maxRecDepth 20000 in
theorem gX2_heard_X2_other : GoodIn wsX2_heard (wsV RX2 41 RX2 yX2_other wsX2_other) := goodIn_app (goodIn_of _ (by decide +kernel)) ggX2_heard_X2_other
theorem dX2_heard_0 : decode cX2_heard 0 = .ok (.aload_n 0, 1) := by decide +kernel
theorem dX2_heard_1 : decode cX2_heard 1 = .ok (.getfield 27, 3) := by decide +kernel
theorem dX2_heard_4 : decode cX2_heard 4 = .ok (.iload_n 1, 1) := by decide +kernel
theorem dX2_heard_5 : decode cX2_heard 5 = .ok (.invokevirtual 33, 3) := by decide +kernel
theorem dX2_heard_8 : decode cX2_heard 8 = .ok (.istore_n 2, 1) := by decide +kernel
theorem dX2_heard_9 : decode cX2_heard 9 = .ok (.iconst (-1), 1) := by decide +kernel
theorem dX2_heard_10 : decode cX2_heard 10 = .ok (.istore_n 3, 1) := by decide +kernel
theorem dX2_heard_11 : decode cX2_heard 11 = .ok (.iconst 0, 1) := by decide +kernel
theorem dX2_heard_12 : decode cX2_heard 12 = .ok (.istore 4, 2) := by decide +kernel
theorem dX2_heard_14 : decode cX2_heard 14 = .ok (.iconst 0, 1) := by decide +kernel
theorem dX2_heard_15 : decode cX2_heard 15 = .ok (.istore 5, 2) := by decide +kernel
theorem dX2_heard_17 : decode cX2_heard 17 = .ok (.iload 5, 2) := by decide +kernel
theorem dX2_heard_19 : decode cX2_heard 19 = .ok (.iload_n 2, 1) := by decide +kernel
theorem dX2_heard_20 : decode cX2_heard 20 = .ok (.if_icmp .ge 46, 3) := by decide +kernel
theorem dX2_heard_23 : decode cX2_heard 23 = .ok (.aload_n 0, 1) := by decide +kernel
theorem dX2_heard_24 : decode cX2_heard 24 = .ok (.iload_n 1, 1) := by decide +kernel
theorem dX2_heard_25 : decode cX2_heard 25 = .ok (.iload 5, 2) := by decide +kernel
theorem dX2_heard_27 : decode cX2_heard 27 = .ok (.invokevirtual 41, 3) := by decide +kernel
theorem dX2_heard_30 : decode cX2_heard 30 = .ok (.istore 6, 2) := by decide +kernel
theorem dX2_heard_32 : decode cX2_heard 32 = .ok (.aload_n 0, 1) := by decide +kernel
theorem dX2_heard_33 : decode cX2_heard 33 = .ok (.getfield 24, 3) := by decide +kernel
theorem dX2_heard_36 : decode cX2_heard 36 = .ok (.iload 6, 2) := by decide +kernel
theorem dX2_heard_38 : decode cX2_heard 38 = .ok (.invokevirtual 33, 3) := by decide +kernel
theorem dX2_heard_41 : decode cX2_heard 41 = .ok (.iload 4, 2) := by decide +kernel
theorem dX2_heard_43 : decode cX2_heard 43 = .ok (.if_icmp .le 17, 3) := by decide +kernel
theorem dX2_heard_46 : decode cX2_heard 46 = .ok (.aload_n 0, 1) := by decide +kernel
theorem dX2_heard_47 : decode cX2_heard 47 = .ok (.getfield 24, 3) := by decide +kernel
theorem dX2_heard_50 : decode cX2_heard 50 = .ok (.iload 6, 2) := by decide +kernel
theorem dX2_heard_52 : decode cX2_heard 52 = .ok (.invokevirtual 33, 3) := by decide +kernel
theorem dX2_heard_55 : decode cX2_heard 55 = .ok (.istore 4, 2) := by decide +kernel
theorem dX2_heard_57 : decode cX2_heard 57 = .ok (.iload 6, 2) := by decide +kernel
theorem dX2_heard_59 : decode cX2_heard 59 = .ok (.istore_n 3, 1) := by decide +kernel
theorem dX2_heard_60 : decode cX2_heard 60 = .ok (.iinc 5 1, 3) := by decide +kernel
theorem dX2_heard_63 : decode cX2_heard 63 = .ok (.goto (-46), 3) := by decide +kernel
theorem dX2_heard_66 : decode cX2_heard 66 = .ok (.iload_n 3, 1) := by decide +kernel
theorem dX2_heard_67 : decode cX2_heard 67 = .ok (.ireturn, 1) := by decide +kernel
set_option maxRecDepth 20000 in
theorem ggX2_othersAsSet_X1_at : GoodIn wsX2_othersAsSet wsX1_at := goodIn_r _ [6, 7, 19] (by decide +kernel) (by decide +kernel)
set_option maxRecDepth 20000 in
theorem gX2_othersAsSet_X1_at : GoodIn wsX2_othersAsSet (wsV RX2 33 RX1 yX1_at wsX1_at) := goodIn_app (goodIn_of _ (by decide +kernel)) ggX2_othersAsSet_X1_at
set_option maxRecDepth 20000 in
theorem ggX2_othersAsSet_X2_other : GoodIn wsX2_othersAsSet wsX2_other := goodIn_r _ [12, 13, 2, 3, 4, 5, 6, 7, 14, 15, 16, 17, 18, 19] (by decide +kernel) (by decide +kernel)
set_option maxRecDepth 20000 in
theorem gX2_othersAsSet_X2_other : GoodIn wsX2_othersAsSet (wsV RX2 41 RX2 yX2_other wsX2_other) := goodIn_app (goodIn_of _ (by decide +kernel)) ggX2_othersAsSet_X2_other
theorem dX2_othersAsSet_0 : decode cX2_othersAsSet 0 = .ok (.aload_n 0, 1) := by decide +kernel
theorem dX2_othersAsSet_1 : decode cX2_othersAsSet 1 = .ok (.getfield 27, 3) := by decide +kernel
theorem dX2_othersAsSet_4 : decode cX2_othersAsSet 4 = .ok (.iload_n 1, 1) := by decide +kernel
theorem dX2_othersAsSet_5 : decode cX2_othersAsSet 5 = .ok (.invokevirtual 33, 3) := by decide +kernel
theorem dX2_othersAsSet_8 : decode cX2_othersAsSet 8 = .ok (.istore_n 2, 1) := by decide +kernel
theorem dX2_othersAsSet_9 : decode cX2_othersAsSet 9 = .ok (.iconst 0, 1) := by decide +kernel
theorem dX2_othersAsSet_10 : decode cX2_othersAsSet 10 = .ok (.istore_n 3, 1) := by decide +kernel
theorem dX2_othersAsSet_11 : decode cX2_othersAsSet 11 = .ok (.iconst 0, 1) := by decide +kernel
theorem dX2_othersAsSet_12 : decode cX2_othersAsSet 12 = .ok (.istore 4, 2) := by decide +kernel
theorem dX2_othersAsSet_14 : decode cX2_othersAsSet 14 = .ok (.iload 4, 2) := by decide +kernel
theorem dX2_othersAsSet_16 : decode cX2_othersAsSet 16 = .ok (.iload_n 2, 1) := by decide +kernel
theorem dX2_othersAsSet_17 : decode cX2_othersAsSet 17 = .ok (.if_icmp .ge 21, 3) := by decide +kernel
theorem dX2_othersAsSet_20 : decode cX2_othersAsSet 20 = .ok (.iload_n 3, 1) := by decide +kernel
theorem dX2_othersAsSet_21 : decode cX2_othersAsSet 21 = .ok (.iconst 1, 1) := by decide +kernel
theorem dX2_othersAsSet_22 : decode cX2_othersAsSet 22 = .ok (.aload_n 0, 1) := by decide +kernel
theorem dX2_othersAsSet_23 : decode cX2_othersAsSet 23 = .ok (.iload_n 1, 1) := by decide +kernel
theorem dX2_othersAsSet_24 : decode cX2_othersAsSet 24 = .ok (.iload 4, 2) := by decide +kernel
theorem dX2_othersAsSet_26 : decode cX2_othersAsSet 26 = .ok (.invokevirtual 41, 3) := by decide +kernel
theorem dX2_othersAsSet_29 : decode cX2_othersAsSet 29 = .ok (.ishl, 1) := by decide +kernel
theorem dX2_othersAsSet_30 : decode cX2_othersAsSet 30 = .ok (.ior, 1) := by decide +kernel
theorem dX2_othersAsSet_31 : decode cX2_othersAsSet 31 = .ok (.istore_n 3, 1) := by decide +kernel
theorem dX2_othersAsSet_32 : decode cX2_othersAsSet 32 = .ok (.iinc 4 1, 3) := by decide +kernel
theorem dX2_othersAsSet_35 : decode cX2_othersAsSet 35 = .ok (.goto (-21), 3) := by decide +kernel
theorem dX2_othersAsSet_38 : decode cX2_othersAsSet 38 = .ok (.iload_n 3, 1) := by decide +kernel
theorem dX2_othersAsSet_39 : decode cX2_othersAsSet 39 = .ok (.ireturn, 1) := by decide +kernel
set_option maxRecDepth 20000 in
theorem ggX2_othersOfAll_X2_othersAsSet : GoodIn wsX2_othersOfAll wsX2_othersAsSet := goodIn_r _ [6, 7, 8, 9, 10, 11, 12, 13, 14, 15, 16, 5, 17, 18, 19, 20, 21, 22, 23, 24] (by decide +kernel) (by decide +kernel)
set_option maxRecDepth 20000 in
theorem gX2_othersOfAll_X2_othersAsSet : GoodIn wsX2_othersOfAll (wsV RX2 48 RX2 yX2_othersAsSet wsX2_othersAsSet) := goodIn_app (goodIn_of _ (by decide +kernel)) ggX2_othersOfAll_X2_othersAsSet
theorem dX2_othersOfAll_0 : decode cX2_othersOfAll 0 = .ok (.iconst 0, 1) := by decide +kernel
theorem dX2_othersOfAll_1 : decode cX2_othersOfAll 1 = .ok (.istore_n 2, 1) := by decide +kernel
theorem dX2_othersOfAll_2 : decode cX2_othersOfAll 2 = .ok (.iconst 0, 1) := by decide +kernel
theorem dX2_othersOfAll_3 : decode cX2_othersOfAll 3 = .ok (.istore_n 3, 1) := by decide +kernel
theorem dX2_othersOfAll_4 : decode cX2_othersOfAll 4 = .ok (.iload_n 3, 1) := by decide +kernel
theorem dX2_othersOfAll_5 : decode cX2_othersOfAll 5 = .ok (.aload_n 0, 1) := by decide +kernel
theorem dX2_othersOfAll_6 : decode cX2_othersOfAll 6 = .ok (.getfield 9, 3) := by decide +kernel
theorem dX2_othersOfAll_9 : decode cX2_othersOfAll 9 = .ok (.if_icmp .ge 26, 3) := by decide +kernel
theorem dX2_othersOfAll_12 : decode cX2_othersOfAll 12 = .ok (.iload_n 1, 1) := by decide +kernel
theorem dX2_othersOfAll_13 : decode cX2_othersOfAll 13 = .ok (.iload_n 3, 1) := by decide +kernel
theorem dX2_othersOfAll_14 : decode cX2_othersOfAll 14 = .ok (.ishr, 1) := by decide +kernel
theorem dX2_othersOfAll_15 : decode cX2_othersOfAll 15 = .ok (.iconst 1, 1) := by decide +kernel
theorem dX2_othersOfAll_16 : decode cX2_othersOfAll 16 = .ok (.iand, 1) := by decide +kernel
theorem dX2_othersOfAll_17 : decode cX2_othersOfAll 17 = .ok (.iconst 1, 1) := by decide +kernel
theorem dX2_othersOfAll_18 : decode cX2_othersOfAll 18 = .ok (.if_icmp .ne 11, 3) := by decide +kernel
theorem dX2_othersOfAll_21 : decode cX2_othersOfAll 21 = .ok (.iload_n 2, 1) := by decide +kernel
theorem dX2_othersOfAll_22 : decode cX2_othersOfAll 22 = .ok (.aload_n 0, 1) := by decide +kernel
theorem dX2_othersOfAll_23 : decode cX2_othersOfAll 23 = .ok (.iload_n 3, 1) := by decide +kernel
theorem dX2_othersOfAll_24 : decode cX2_othersOfAll 24 = .ok (.invokevirtual 48, 3) := by decide +kernel
theorem dX2_othersOfAll_27 : decode cX2_othersOfAll 27 = .ok (.ior, 1) := by decide +kernel
theorem dX2_othersOfAll_28 : decode cX2_othersOfAll 28 = .ok (.istore_n 2, 1) := by decide +kernel
theorem dX2_othersOfAll_29 : decode cX2_othersOfAll 29 = .ok (.iinc 3 1, 3) := by decide +kernel
theorem dX2_othersOfAll_32 : decode cX2_othersOfAll 32 = .ok (.goto (-28), 3) := by decide +kernel
theorem dX2_othersOfAll_35 : decode cX2_othersOfAll 35 = .ok (.iload_n 2, 1) := by decide +kernel
theorem dX2_othersOfAll_36 : decode cX2_othersOfAll 36 = .ok (.ireturn, 1) := by decide +kernel
set_option maxRecDepth 20000 in
theorem ggX3_init_X1_init : GoodIn wsX3_init wsX1_init := goodIn_r _ [17, 18, 2, 3, 19, 20, 21, 22, 23, 24, 39] (by decide +kernel) (by decide +kernel)
set_option maxRecDepth 20000 in
theorem gX3_init_X1_init : GoodIn wsX3_init (wsX1_init) := ggX3_init_X1_init
set_option maxRecDepth 20000 in
theorem ggX3_init_X0_init : GoodIn wsX3_init wsX0_init := goodIn_r _ [27, 28, 2, 3, 29, 7, 8, 30, 31, 32, 33, 16, 17, 18, 19, 20, 21, 22, 23, 24, 39, 40, 41, 42] (by decide +kernel) (by decide +kernel)
set_option maxRecDepth 20000 in
theorem gX3_init_X0_init : GoodIn wsX3_init (wsX0_init) := ggX3_init_X0_init
theorem dX3_init_0 : decode cX3_init 0 = .ok (.aload_n 0, 1) := by decide +kernel
theorem dX3_init_1 : decode cX3_init 1 = .ok (.invokespecial 3, 3) := by decide +kernel
theorem dX3_init_4 : decode cX3_init 4 = .ok (.aload_n 0, 1) := by decide +kernel
theorem dX3_init_5 : decode cX3_init 5 = .ok (.iconst 0, 1) := by decide +kernel
theorem dX3_init_6 : decode cX3_init 6 = .ok (.putfield 9, 3) := by decide +kernel
theorem dX3_init_9 : decode cX3_init 9 = .ok (.aload_n 0, 1) := by decide +kernel
theorem dX3_init_10 : decode cX3_init 10 = .ok (.iconst 0, 1) := by decide +kernel
theorem dX3_init_11 : decode cX3_init 11 = .ok (.putfield 15, 3) := by decide +kernel
theorem dX3_init_14 : decode cX3_init 14 = .ok (.aload_n 0, 1) := by decide +kernel
theorem dX3_init_15 : decode cX3_init 15 = .ok (.new 18, 3) := by decide +kernel
theorem dX3_init_18 : decode cX3_init 18 = .ok (.dup, 1) := by decide +kernel
theorem dX3_init_19 : decode cX3_init 19 = .ok (.bipush 12, 2) := by decide +kernel
theorem dX3_init_21 : decode cX3_init 21 = .ok (.invokespecial 20, 3) := by decide +kernel
theorem dX3_init_24 : decode cX3_init 24 = .ok (.putfield 23, 3) := by decide +kernel
theorem dX3_init_27 : decode cX3_init 27 = .ok (.aload_n 0, 1) := by decide +kernel
theorem dX3_init_28 : decode cX3_init 28 = .ok (.new 27, 3) := by decide +kernel
theorem dX3_init_31 : decode cX3_init 31 = .ok (.dup, 1) := by decide +kernel
theorem dX3_init_32 : decode cX3_init 32 = .ok (.invokespecial 29, 3) := by decide +kernel
theorem dX3_init_35 : decode cX3_init 35 = .ok (.putfield 30, 3) := by decide +kernel
theorem dX3_init_38 : decode cX3_init 38 = .ok (.aload_n 0, 1) := by decide +kernel
theorem dX3_init_39 : decode cX3_init 39 = .ok (.new 27, 3) := by decide +kernel
theorem dX3_init_42 : decode cX3_init 42 = .ok (.dup, 1) := by decide +kernel
theorem dX3_init_43 : decode cX3_init 43 = .ok (.invokespecial 29, 3) := by decide +kernel
theorem dX3_init_46 : decode cX3_init 46 = .ok (.putfield 34, 3) := by decide +kernel
theorem dX3_init_49 : decode cX3_init 49 = .ok (.return_, 1) := by decide +kernel
theorem dX3_round_0 : decode cX3_round 0 = .ok (.aload_n 0, 1) := by decide +kernel
theorem dX3_round_1 : decode cX3_round 1 = .ok (.getfield 9, 3) := by decide +kernel
theorem dX3_round_4 : decode cX3_round 4 = .ok (.ireturn, 1) := by decide +kernel
theorem dX3_taken_0 : decode cX3_taken 0 = .ok (.aload_n 0, 1) := by decide +kernel
theorem dX3_taken_1 : decode cX3_taken 1 = .ok (.getfield 15, 3) := by decide +kernel
theorem dX3_taken_4 : decode cX3_taken 4 = .ok (.ireturn, 1) := by decide +kernel
set_option maxRecDepth 20000 in
theorem ggX3_sure_X1_at : GoodIn wsX3_sure wsX1_at := goodIn_r _ [6, 7, 13] (by decide +kernel) (by decide +kernel)
set_option maxRecDepth 20000 in
theorem gX3_sure_X1_at : GoodIn wsX3_sure (wsV RX3 37 RX1 yX1_at wsX1_at) := goodIn_app (goodIn_of _ (by decide +kernel)) ggX3_sure_X1_at
theorem dX3_sure_0 : decode cX3_sure 0 = .ok (.aload_n 0, 1) := by decide +kernel
theorem dX3_sure_1 : decode cX3_sure 1 = .ok (.getfield 23, 3) := by decide +kernel
theorem dX3_sure_4 : decode cX3_sure 4 = .ok (.iload_n 1, 1) := by decide +kernel
theorem dX3_sure_5 : decode cX3_sure 5 = .ok (.invokevirtual 37, 3) := by decide +kernel
theorem dX3_sure_8 : decode cX3_sure 8 = .ok (.ireturn, 1) := by decide +kernel
theorem dX3_halves_0 : decode cX3_halves 0 = .ok (.iload_n 1, 1) := by decide +kernel
theorem dX3_halves_1 : decode cX3_halves 1 = .ok (.ifCond .eq 10, 3) := by decide +kernel
theorem dX3_halves_4 : decode cX3_halves 4 = .ok (.aload_n 0, 1) := by decide +kernel
theorem dX3_halves_5 : decode cX3_halves 5 = .ok (.getfield 34, 3) := by decide +kernel
theorem dX3_halves_8 : decode cX3_halves 8 = .ok (.goto 7, 3) := by decide +kernel
theorem dX3_halves_11 : decode cX3_halves 11 = .ok (.aload_n 0, 1) := by decide +kernel
theorem dX3_halves_12 : decode cX3_halves 12 = .ok (.getfield 30, 3) := by decide +kernel
theorem dX3_halves_15 : decode cX3_halves 15 = .ok (.areturn, 1) := by decide +kernel
set_option maxRecDepth 20000 in
theorem ggX3_word_X0_value : GoodIn wsX3_word wsX0_value := goodIn_r _ [7, 8, 9, 10, 11, 12, 13, 14, 20, 21, 22, 23] (by decide +kernel) (by decide +kernel)
set_option maxRecDepth 20000 in
theorem gX3_word_X0_value : GoodIn wsX3_word (wsV RX3 41 RX0 yX0_value wsX0_value) := goodIn_app (goodIn_of _ (by decide +kernel)) ggX3_word_X0_value
theorem dX3_word_0 : decode cX3_word 0 = .ok (.aload_n 0, 1) := by decide +kernel
theorem dX3_word_1 : decode cX3_word 1 = .ok (.getfield 30, 3) := by decide +kernel
theorem dX3_word_4 : decode cX3_word 4 = .ok (.iload_n 1, 1) := by decide +kernel
theorem dX3_word_5 : decode cX3_word 5 = .ok (.invokevirtual 41, 3) := by decide +kernel
theorem dX3_word_8 : decode cX3_word 8 = .ok (.bipush 100, 2) := by decide +kernel
theorem dX3_word_10 : decode cX3_word 10 = .ok (.imul, 1) := by decide +kernel
theorem dX3_word_11 : decode cX3_word 11 = .ok (.aload_n 0, 1) := by decide +kernel
theorem dX3_word_12 : decode cX3_word 12 = .ok (.getfield 34, 3) := by decide +kernel
theorem dX3_word_15 : decode cX3_word 15 = .ok (.iload_n 1, 1) := by decide +kernel
theorem dX3_word_16 : decode cX3_word 16 = .ok (.invokevirtual 41, 3) := by decide +kernel
theorem dX3_word_19 : decode cX3_word 19 = .ok (.iadd, 1) := by decide +kernel
theorem dX3_word_20 : decode cX3_word 20 = .ok (.ireturn, 1) := by decide +kernel
set_option maxRecDepth 20000 in
theorem ggX3_takeFromCourt_X0_takeFromCourt : GoodIn wsX3_takeFromCourt wsX0_takeFromCourt := goodIn_r _ [8, 9, 10, 11, 12, 13, 14, 15, 16, 17, 24, 25, 26, 27] (by decide +kernel) (by decide +kernel)
set_option maxRecDepth 20000 in
theorem gX3_takeFromCourt_X0_takeFromCourt : GoodIn wsX3_takeFromCourt (wsV RX3 44 RX0 yX0_takeFromCourt wsX0_takeFromCourt) := goodIn_app (goodIn_of _ (by decide +kernel)) ggX3_takeFromCourt_X0_takeFromCourt
set_option maxRecDepth 20000 in
theorem ggX3_takeFromCourt_X1_put : GoodIn wsX3_takeFromCourt wsX1_put := goodIn_r _ [16, 17, 27] (by decide +kernel) (by decide +kernel)
set_option maxRecDepth 20000 in
theorem gX3_takeFromCourt_X1_put : GoodIn wsX3_takeFromCourt (wsV RX3 48 RX1 yX1_put wsX1_put) := goodIn_app (goodIn_of _ (by decide +kernel)) ggX3_takeFromCourt_X1_put
theorem dX3_takeFromCourt_0 : decode cX3_takeFromCourt 0 = .ok (.aload_n 0, 1) := by decide +kernel
theorem dX3_takeFromCourt_1 : decode cX3_takeFromCourt 1 = .ok (.getfield 30, 3) := by decide +kernel
theorem dX3_takeFromCourt_4 : decode cX3_takeFromCourt 4 = .ok (.iload_n 1, 1) := by decide +kernel
theorem dX3_takeFromCourt_5 : decode cX3_takeFromCourt 5 = .ok (.iload_n 2, 1) := by decide +kernel
theorem dX3_takeFromCourt_6 : decode cX3_takeFromCourt 6 = .ok (.bipush 100, 2) := by decide +kernel
theorem dX3_takeFromCourt_8 : decode cX3_takeFromCourt 8 = .ok (.idiv, 1) := by decide +kernel
theorem dX3_takeFromCourt_9 : decode cX3_takeFromCourt 9 = .ok (.invokevirtual 44, 3) := by decide +kernel
theorem dX3_takeFromCourt_12 : decode cX3_takeFromCourt 12 = .ok (.aload_n 0, 1) := by decide +kernel
theorem dX3_takeFromCourt_13 : decode cX3_takeFromCourt 13 = .ok (.getfield 34, 3) := by decide +kernel
theorem dX3_takeFromCourt_16 : decode cX3_takeFromCourt 16 = .ok (.iload_n 1, 1) := by decide +kernel
theorem dX3_takeFromCourt_17 : decode cX3_takeFromCourt 17 = .ok (.iload_n 2, 1) := by decide +kernel
theorem dX3_takeFromCourt_18 : decode cX3_takeFromCourt 18 = .ok (.bipush 100, 2) := by decide +kernel
theorem dX3_takeFromCourt_20 : decode cX3_takeFromCourt 20 = .ok (.irem, 1) := by decide +kernel
theorem dX3_takeFromCourt_21 : decode cX3_takeFromCourt 21 = .ok (.invokevirtual 44, 3) := by decide +kernel
theorem dX3_takeFromCourt_24 : decode cX3_takeFromCourt 24 = .ok (.aload_n 0, 1) := by decide +kernel
theorem dX3_takeFromCourt_25 : decode cX3_takeFromCourt 25 = .ok (.getfield 23, 3) := by decide +kernel
theorem dX3_takeFromCourt_28 : decode cX3_takeFromCourt 28 = .ok (.iload_n 1, 1) := by decide +kernel
theorem dX3_takeFromCourt_29 : decode cX3_takeFromCourt 29 = .ok (.iload_n 3, 1) := by decide +kernel
theorem dX3_takeFromCourt_30 : decode cX3_takeFromCourt 30 = .ok (.invokevirtual 48, 3) := by decide +kernel
theorem dX3_takeFromCourt_33 : decode cX3_takeFromCourt 33 = .ok (.return_, 1) := by decide +kernel
set_option maxRecDepth 20000 in
theorem ggX3_copyFrom_X1_copyFrom : GoodIn wsX3_copyFrom wsX1_copyFrom := goodIn_r _ [10, 11, 12, 13, 14, 15, 16, 17, 18, 19, 34] (by decide +kernel) (by decide +kernel)
set_option maxRecDepth 20000 in
theorem gX3_copyFrom_X1_copyFrom : GoodIn wsX3_copyFrom (wsV RX3 51 RX1 yX1_copyFrom wsX1_copyFrom) := goodIn_app (goodIn_of _ (by decide +kernel)) ggX3_copyFrom_X1_copyFrom
set_option maxRecDepth 20000 in
theorem ggX3_copyFrom_X0_copyFrom : GoodIn wsX3_copyFrom wsX0_copyFrom := goodIn_r _ [24, 25, 26, 27, 28, 7, 8, 9, 10, 11, 12, 13, 14, 15, 16, 17, 18, 19, 35, 36, 37, 34] (by decide +kernel) (by decide +kernel)
set_option maxRecDepth 20000 in
theorem gX3_copyFrom_X0_copyFrom : GoodIn wsX3_copyFrom (wsV RX3 55 RX0 yX0_copyFrom wsX0_copyFrom) := goodIn_app (goodIn_of _ (by decide +kernel)) ggX3_copyFrom_X0_copyFrom
theorem dX3_copyFrom_0 : decode cX3_copyFrom 0 = .ok (.aload_n 0, 1) := by decide +kernel
theorem dX3_copyFrom_1 : decode cX3_copyFrom 1 = .ok (.aload_n 1, 1) := by decide +kernel
theorem dX3_copyFrom_2 : decode cX3_copyFrom 2 = .ok (.getfield 9, 3) := by decide +kernel
theorem dX3_copyFrom_5 : decode cX3_copyFrom 5 = .ok (.putfield 9, 3) := by decide +kernel
theorem dX3_copyFrom_8 : decode cX3_copyFrom 8 = .ok (.aload_n 0, 1) := by decide +kernel
theorem dX3_copyFrom_9 : decode cX3_copyFrom 9 = .ok (.aload_n 1, 1) := by decide +kernel
theorem dX3_copyFrom_10 : decode cX3_copyFrom 10 = .ok (.getfield 15, 3) := by decide +kernel
theorem dX3_copyFrom_13 : decode cX3_copyFrom 13 = .ok (.putfield 15, 3) := by decide +kernel
theorem dX3_copyFrom_16 : decode cX3_copyFrom 16 = .ok (.aload_n 0, 1) := by decide +kernel
theorem dX3_copyFrom_17 : decode cX3_copyFrom 17 = .ok (.getfield 23, 3) := by decide +kernel
theorem dX3_copyFrom_20 : decode cX3_copyFrom 20 = .ok (.aload_n 1, 1) := by decide +kernel
theorem dX3_copyFrom_21 : decode cX3_copyFrom 21 = .ok (.getfield 23, 3) := by decide +kernel
theorem dX3_copyFrom_24 : decode cX3_copyFrom 24 = .ok (.invokevirtual 51, 3) := by decide +kernel
theorem dX3_copyFrom_27 : decode cX3_copyFrom 27 = .ok (.aload_n 0, 1) := by decide +kernel
theorem dX3_copyFrom_28 : decode cX3_copyFrom 28 = .ok (.getfield 30, 3) := by decide +kernel
theorem dX3_copyFrom_31 : decode cX3_copyFrom 31 = .ok (.aload_n 1, 1) := by decide +kernel
theorem dX3_copyFrom_32 : decode cX3_copyFrom 32 = .ok (.getfield 30, 3) := by decide +kernel
theorem dX3_copyFrom_35 : decode cX3_copyFrom 35 = .ok (.invokevirtual 55, 3) := by decide +kernel
theorem dX3_copyFrom_38 : decode cX3_copyFrom 38 = .ok (.aload_n 0, 1) := by decide +kernel
theorem dX3_copyFrom_39 : decode cX3_copyFrom 39 = .ok (.getfield 34, 3) := by decide +kernel
theorem dX3_copyFrom_42 : decode cX3_copyFrom 42 = .ok (.aload_n 1, 1) := by decide +kernel
theorem dX3_copyFrom_43 : decode cX3_copyFrom 43 = .ok (.getfield 34, 3) := by decide +kernel
theorem dX3_copyFrom_46 : decode cX3_copyFrom 46 = .ok (.invokevirtual 55, 3) := by decide +kernel
theorem dX3_copyFrom_49 : decode cX3_copyFrom 49 = .ok (.return_, 1) := by decide +kernel
set_option maxRecDepth 20000 in
theorem ggX3_goRounds_X3_copyFrom : GoodIn wsX3_goRounds wsX3_copyFrom := goodIn_r _ [6, 1, 7, 8, 9, 10, 11, 12, 13, 14, 15, 16, 17, 18, 19, 20, 21, 22, 23, 24, 25, 26, 27, 28, 29, 30, 31, 32, 33, 104, 105, 106, 107, 108, 109, 110, 111, 112] (by decide +kernel) (by decide +kernel)
set_option maxRecDepth 20000 in
theorem gX3_goRounds_X3_copyFrom : GoodIn wsX3_goRounds (wsV RX3 58 RX3 yX3_copyFrom wsX3_copyFrom) := goodIn_app (goodIn_of _ (by decide +kernel)) ggX3_goRounds_X3_copyFrom
set_option maxRecDepth 20000 in
theorem ggX3_goRounds_X3_hearAll : GoodIn wsX3_goRounds wsX3_hearAll := goodIn_r _ [37, 38, 39, 40, 41, 42, 43, 44, 45, 46, 47, 48, 49, 50, 51, 52, 14, 53, 16, 54, 55, 56, 57, 58, 59, 60, 61, 5, 62, 8, 63, 18, 19, 20, 7, 64, 65, 66, 67, 68, 69, 70, 71, 72, 9, 10, 73, 74, 75, 28, 76, 30, 77, 78, 79, 80, 81, 82, 83, 84, 85, 86, 87, 88, 89, 31, 32, 90, 91, 113, 114, 115, 116, 117, 109, 104, 105, 106, 107, 108, 110, 111, 112] (by decide +kernel) (by decide +kernel)
set_option maxRecDepth 20000 in
theorem gX3_goRounds_X3_hearAll : GoodIn wsX3_goRounds (wsV RX3 61 RX3 yX3_hearAll wsX3_hearAll) := goodIn_app (goodIn_of _ (by decide +kernel)) ggX3_goRounds_X3_hearAll
set_option maxRecDepth 20000 in
theorem ggX3_goRounds_X3_forgetAll : GoodIn wsX3_goRounds wsX3_forgetAll := goodIn_r _ [95, 1, 8, 96, 97, 19, 98, 38, 39, 40, 41, 42, 43, 99, 100, 101, 102, 103, 50, 51, 52, 14, 53, 16, 68, 78, 79, 80, 81, 104, 105, 106, 107, 108, 113, 114, 115, 116, 117, 109] (by decide +kernel) (by decide +kernel)
set_option maxRecDepth 20000 in
theorem gX3_goRounds_X3_forgetAll : GoodIn wsX3_goRounds (wsV RX3 65 RX3 yX3_forgetAll wsX3_forgetAll) := goodIn_app (goodIn_of _ (by decide +kernel)) ggX3_goRounds_X3_forgetAll
theorem dX3_goRounds_0 : decode cX3_goRounds 0 = .ok (.iconst 0, 1) := by decide +kernel
theorem dX3_goRounds_1 : decode cX3_goRounds 1 = .ok (.istore 4, 2) := by decide +kernel
theorem dX3_goRounds_3 : decode cX3_goRounds 3 = .ok (.iload 4, 2) := by decide +kernel
theorem dX3_goRounds_5 : decode cX3_goRounds 5 = .ok (.iload_n 3, 1) := by decide +kernel
theorem dX3_goRounds_6 : decode cX3_goRounds 6 = .ok (.if_icmp .ge 35, 3) := by decide +kernel
theorem dX3_goRounds_9 : decode cX3_goRounds 9 = .ok (.aload_n 2, 1) := by decide +kernel
theorem dX3_goRounds_10 : decode cX3_goRounds 10 = .ok (.aload_n 0, 1) := by decide +kernel
theorem dX3_goRounds_11 : decode cX3_goRounds 11 = .ok (.invokevirtual 58, 3) := by decide +kernel
theorem dX3_goRounds_14 : decode cX3_goRounds 14 = .ok (.aload_n 0, 1) := by decide +kernel
theorem dX3_goRounds_15 : decode cX3_goRounds 15 = .ok (.aload_n 1, 1) := by decide +kernel
theorem dX3_goRounds_16 : decode cX3_goRounds 16 = .ok (.aload_n 2, 1) := by decide +kernel
theorem dX3_goRounds_17 : decode cX3_goRounds 17 = .ok (.invokevirtual 61, 3) := by decide +kernel
theorem dX3_goRounds_20 : decode cX3_goRounds 20 = .ok (.aload_n 0, 1) := by decide +kernel
theorem dX3_goRounds_21 : decode cX3_goRounds 21 = .ok (.aload_n 1, 1) := by decide +kernel
theorem dX3_goRounds_22 : decode cX3_goRounds 22 = .ok (.invokevirtual 65, 3) := by decide +kernel
theorem dX3_goRounds_25 : decode cX3_goRounds 25 = .ok (.aload_n 0, 1) := by decide +kernel
theorem dX3_goRounds_26 : decode cX3_goRounds 26 = .ok (.dup, 1) := by decide +kernel
theorem dX3_goRounds_27 : decode cX3_goRounds 27 = .ok (.getfield 9, 3) := by decide +kernel
theorem dX3_goRounds_30 : decode cX3_goRounds 30 = .ok (.iconst 1, 1) := by decide +kernel
theorem dX3_goRounds_31 : decode cX3_goRounds 31 = .ok (.iadd, 1) := by decide +kernel
theorem dX3_goRounds_32 : decode cX3_goRounds 32 = .ok (.putfield 9, 3) := by decide +kernel
theorem dX3_goRounds_35 : decode cX3_goRounds 35 = .ok (.iinc 4 1, 3) := by decide +kernel
theorem dX3_goRounds_38 : decode cX3_goRounds 38 = .ok (.goto (-35), 3) := by decide +kernel
theorem dX3_goRounds_41 : decode cX3_goRounds 41 = .ok (.return_, 1) := by decide +kernel
set_option maxRecDepth 20000 in
theorem ggX3_hearAll_X2_size : GoodIn wsX3_hearAll wsX2_size := goodIn_r _ [5, 6, 69, 70, 71, 72, 73] (by decide +kernel) (by decide +kernel)
set_option maxRecDepth 20000 in
theorem gX3_hearAll_X2_size : GoodIn wsX3_hearAll (wsV RX3 69 RX2 yX2_size wsX2_size) := goodIn_app (goodIn_of _ (by decide +kernel)) ggX3_hearAll_X2_size
set_option maxRecDepth 20000 in
theorem ggX3_hearAll_X2_heard : GoodIn wsX3_hearAll wsX2_heard := goodIn_r _ [10, 11, 12, 13, 14, 15, 16, 17, 18, 19, 20, 21, 4, 22, 23, 69, 70, 71, 72, 73, 74] (by decide +kernel) (by decide +kernel)
set_option maxRecDepth 20000 in
theorem gX3_hearAll_X2_heard : GoodIn wsX3_hearAll (wsV RX3 75 RX2 yX2_heard wsX2_heard) := goodIn_app (goodIn_of _ (by decide +kernel)) ggX3_hearAll_X2_heard
set_option maxRecDepth 20000 in
theorem ggX3_hearAll_X3_hear : GoodIn wsX3_hearAll wsX3_hear := goodIn_r _ [28, 29, 30, 31, 32, 33, 34, 35, 36, 37, 27, 38, 39, 14, 15, 16, 17, 18, 40, 41, 42, 43, 44, 45, 46, 47, 48, 49, 50, 51, 52, 53, 54, 55, 56, 57, 58, 59, 60, 61, 62, 63, 64, 65, 66, 67, 68, 75, 76, 77, 78, 79, 74, 80, 81, 82] (by decide +kernel) (by decide +kernel)
set_option maxRecDepth 20000 in
theorem gX3_hearAll_X3_hear : GoodIn wsX3_hearAll (wsV RX3 78 RX3 yX3_hear wsX3_hear) := goodIn_app (goodIn_of _ (by decide +kernel)) ggX3_hearAll_X3_hear
theorem dX3_hearAll_0 : decode cX3_hearAll 0 = .ok (.aload_n 1, 1) := by decide +kernel
theorem dX3_hearAll_1 : decode cX3_hearAll 1 = .ok (.invokevirtual 69, 3) := by decide +kernel
theorem dX3_hearAll_4 : decode cX3_hearAll 4 = .ok (.istore_n 3, 1) := by decide +kernel
theorem dX3_hearAll_5 : decode cX3_hearAll 5 = .ok (.iconst 0, 1) := by decide +kernel
theorem dX3_hearAll_6 : decode cX3_hearAll 6 = .ok (.istore 4, 2) := by decide +kernel
theorem dX3_hearAll_8 : decode cX3_hearAll 8 = .ok (.iload 4, 2) := by decide +kernel
theorem dX3_hearAll_10 : decode cX3_hearAll 10 = .ok (.iload_n 3, 1) := by decide +kernel
theorem dX3_hearAll_11 : decode cX3_hearAll 11 = .ok (.if_icmp .ge 32, 3) := by decide +kernel
theorem dX3_hearAll_14 : decode cX3_hearAll 14 = .ok (.aload_n 1, 1) := by decide +kernel
theorem dX3_hearAll_15 : decode cX3_hearAll 15 = .ok (.iload 4, 2) := by decide +kernel
theorem dX3_hearAll_17 : decode cX3_hearAll 17 = .ok (.invokevirtual 75, 3) := by decide +kernel
theorem dX3_hearAll_20 : decode cX3_hearAll 20 = .ok (.istore 5, 2) := by decide +kernel
theorem dX3_hearAll_22 : decode cX3_hearAll 22 = .ok (.iload 5, 2) := by decide +kernel
theorem dX3_hearAll_24 : decode cX3_hearAll 24 = .ok (.iconst (-1), 1) := by decide +kernel
theorem dX3_hearAll_25 : decode cX3_hearAll 25 = .ok (.if_icmp .eq 12, 3) := by decide +kernel
theorem dX3_hearAll_28 : decode cX3_hearAll 28 = .ok (.aload_n 0, 1) := by decide +kernel
theorem dX3_hearAll_29 : decode cX3_hearAll 29 = .ok (.iload 4, 2) := by decide +kernel
theorem dX3_hearAll_31 : decode cX3_hearAll 31 = .ok (.iload 5, 2) := by decide +kernel
theorem dX3_hearAll_33 : decode cX3_hearAll 33 = .ok (.aload_n 2, 1) := by decide +kernel
theorem dX3_hearAll_34 : decode cX3_hearAll 34 = .ok (.invokevirtual 78, 3) := by decide +kernel
theorem dX3_hearAll_37 : decode cX3_hearAll 37 = .ok (.iinc 4 1, 3) := by decide +kernel
theorem dX3_hearAll_40 : decode cX3_hearAll 40 = .ok (.goto (-32), 3) := by decide +kernel
theorem dX3_hearAll_43 : decode cX3_hearAll 43 = .ok (.return_, 1) := by decide +kernel
set_option maxRecDepth 20000 in
theorem ggX3_hear_X3_sure : GoodIn wsX3_hear wsX3_sure := goodIn_r _ [11, 1, 12, 13, 14, 15, 16, 17, 47, 48, 49, 50, 51, 52] (by decide +kernel) (by decide +kernel)
set_option maxRecDepth 20000 in
theorem gX3_hear_X3_sure : GoodIn wsX3_hear (wsV RX3 82 RX3 yX3_sure wsX3_sure) := goodIn_app (goodIn_of _ (by decide +kernel)) ggX3_hear_X3_sure
set_option maxRecDepth 20000 in
theorem ggX3_hear_X3_word : GoodIn wsX3_hear wsX3_word := goodIn_r _ [21, 22, 23, 24, 25, 26, 27, 28, 29, 30, 13, 14, 15, 16, 17, 47, 48, 49, 50, 51, 53, 54, 55, 52] (by decide +kernel) (by decide +kernel)
set_option maxRecDepth 20000 in
theorem gX3_hear_X3_word : GoodIn wsX3_hear (wsV RX3 84 RX3 yX3_word wsX3_word) := goodIn_app (goodIn_of _ (by decide +kernel)) ggX3_hear_X3_word
set_option maxRecDepth 20000 in
theorem ggX3_hear_X1_put : GoodIn wsX3_hear wsX1_put := goodIn_r _ [34, 17, 52] (by decide +kernel) (by decide +kernel)
set_option maxRecDepth 20000 in
theorem gX3_hear_X1_put : GoodIn wsX3_hear (wsV RX3 48 RX1 yX1_put wsX1_put) := goodIn_app (goodIn_of _ (by decide +kernel)) ggX3_hear_X1_put
set_option maxRecDepth 20000 in
theorem ggX3_hear_X3_halves : GoodIn wsX3_hear wsX3_halves := goodIn_r _ [38, 23, 22, 47, 48, 49, 50, 51] (by decide +kernel) (by decide +kernel)
set_option maxRecDepth 20000 in
theorem gX3_hear_X3_halves : GoodIn wsX3_hear (wsV RX3 93 RX3 yX3_halves wsX3_halves) := goodIn_app (goodIn_of _ (by decide +kernel)) ggX3_hear_X3_halves
set_option maxRecDepth 20000 in
theorem ggX3_hear_X0_takeFrom : GoodIn wsX3_hear wsX0_takeFrom := goodIn_r _ [42, 29, 43, 44, 45, 3, 4, 5, 30, 13, 14, 15, 16, 17, 46, 32, 33, 34, 53, 54, 55, 52] (by decide +kernel) (by decide +kernel)
set_option maxRecDepth 20000 in
theorem gX3_hear_X0_takeFrom : GoodIn wsX3_hear (wsV RX3 97 RX0 yX0_takeFrom wsX0_takeFrom) := goodIn_app (goodIn_of _ (by decide +kernel)) ggX3_hear_X0_takeFrom
theorem dX3_hear_0 : decode cX3_hear 0 = .ok (.aload_n 3, 1) := by decide +kernel
theorem dX3_hear_1 : decode cX3_hear 1 = .ok (.iload_n 1, 1) := by decide +kernel
theorem dX3_hear_2 : decode cX3_hear 2 = .ok (.invokevirtual 82, 3) := by decide +kernel
theorem dX3_hear_5 : decode cX3_hear 5 = .ok (.istore 4, 2) := by decide +kernel
theorem dX3_hear_7 : decode cX3_hear 7 = .ok (.aload_n 3, 1) := by decide +kernel
theorem dX3_hear_8 : decode cX3_hear 8 = .ok (.iload_n 1, 1) := by decide +kernel
theorem dX3_hear_9 : decode cX3_hear 9 = .ok (.invokevirtual 84, 3) := by decide +kernel
theorem dX3_hear_12 : decode cX3_hear 12 = .ok (.aload_n 3, 1) := by decide +kernel
theorem dX3_hear_13 : decode cX3_hear 13 = .ok (.iload_n 2, 1) := by decide +kernel
theorem dX3_hear_14 : decode cX3_hear 14 = .ok (.invokevirtual 84, 3) := by decide +kernel
theorem dX3_hear_17 : decode cX3_hear 17 = .ok (.if_icmp .ne 23, 3) := by decide +kernel
theorem dX3_hear_20 : decode cX3_hear 20 = .ok (.aload_n 0, 1) := by decide +kernel
theorem dX3_hear_21 : decode cX3_hear 21 = .ok (.getfield 23, 3) := by decide +kernel
theorem dX3_hear_24 : decode cX3_hear 24 = .ok (.iload_n 1, 1) := by decide +kernel
theorem dX3_hear_25 : decode cX3_hear 25 = .ok (.iload 4, 2) := by decide +kernel
theorem dX3_hear_27 : decode cX3_hear 27 = .ok (.iconst 1, 1) := by decide +kernel
theorem dX3_hear_28 : decode cX3_hear 28 = .ok (.iadd, 1) := by decide +kernel
theorem dX3_hear_29 : decode cX3_hear 29 = .ok (.bipush 9, 2) := by decide +kernel
theorem dX3_hear_31 : decode cX3_hear 31 = .ok (.invokestatic 87, 3) := by decide +kernel
theorem dX3_hear_34 : decode cX3_hear 34 = .ok (.invokevirtual 48, 3) := by decide +kernel
theorem dX3_hear_37 : decode cX3_hear 37 = .ok (.goto 78, 3) := by decide +kernel
theorem dX3_hear_40 : decode cX3_hear 40 = .ok (.iload 4, 2) := by decide +kernel
theorem dX3_hear_42 : decode cX3_hear 42 = .ok (.aload_n 3, 1) := by decide +kernel
theorem dX3_hear_43 : decode cX3_hear 43 = .ok (.iload_n 2, 1) := by decide +kernel
theorem dX3_hear_44 : decode cX3_hear 44 = .ok (.invokevirtual 82, 3) := by decide +kernel
theorem dX3_hear_47 : decode cX3_hear 47 = .ok (.if_icmp .le 18, 3) := by decide +kernel
theorem dX3_hear_50 : decode cX3_hear 50 = .ok (.aload_n 0, 1) := by decide +kernel
theorem dX3_hear_51 : decode cX3_hear 51 = .ok (.getfield 23, 3) := by decide +kernel
theorem dX3_hear_54 : decode cX3_hear 54 = .ok (.iload_n 1, 1) := by decide +kernel
theorem dX3_hear_55 : decode cX3_hear 55 = .ok (.iload 4, 2) := by decide +kernel
theorem dX3_hear_57 : decode cX3_hear 57 = .ok (.iconst 1, 1) := by decide +kernel
theorem dX3_hear_58 : decode cX3_hear 58 = .ok (.isub, 1) := by decide +kernel
theorem dX3_hear_59 : decode cX3_hear 59 = .ok (.invokevirtual 48, 3) := by decide +kernel
theorem dX3_hear_62 : decode cX3_hear 62 = .ok (.goto 53, 3) := by decide +kernel
theorem dX3_hear_65 : decode cX3_hear 65 = .ok (.iload_n 1, 1) := by decide +kernel
theorem dX3_hear_66 : decode cX3_hear 66 = .ok (.iconst 1, 1) := by decide +kernel
theorem dX3_hear_67 : decode cX3_hear 67 = .ok (.iand, 1) := by decide +kernel
theorem dX3_hear_68 : decode cX3_hear 68 = .ok (.iconst 1, 1) := by decide +kernel
theorem dX3_hear_69 : decode cX3_hear 69 = .ok (.if_icmp .ne 7, 3) := by decide +kernel
theorem dX3_hear_72 : decode cX3_hear 72 = .ok (.iconst 1, 1) := by decide +kernel
theorem dX3_hear_73 : decode cX3_hear 73 = .ok (.goto 4, 3) := by decide +kernel
theorem dX3_hear_76 : decode cX3_hear 76 = .ok (.iconst 0, 1) := by decide +kernel
theorem dX3_hear_77 : decode cX3_hear 77 = .ok (.istore 5, 2) := by decide +kernel
theorem dX3_hear_79 : decode cX3_hear 79 = .ok (.aload_n 0, 1) := by decide +kernel
theorem dX3_hear_80 : decode cX3_hear 80 = .ok (.iload 5, 2) := by decide +kernel
theorem dX3_hear_82 : decode cX3_hear 82 = .ok (.invokevirtual 93, 3) := by decide +kernel
theorem dX3_hear_85 : decode cX3_hear 85 = .ok (.iload_n 1, 1) := by decide +kernel
theorem dX3_hear_86 : decode cX3_hear 86 = .ok (.iload_n 2, 1) := by decide +kernel
theorem dX3_hear_87 : decode cX3_hear 87 = .ok (.aload_n 3, 1) := by decide +kernel
theorem dX3_hear_88 : decode cX3_hear 88 = .ok (.iload 5, 2) := by decide +kernel
theorem dX3_hear_90 : decode cX3_hear 90 = .ok (.invokevirtual 93, 3) := by decide +kernel
theorem dX3_hear_93 : decode cX3_hear 93 = .ok (.invokevirtual 97, 3) := by decide +kernel
theorem dX3_hear_96 : decode cX3_hear 96 = .ok (.aload_n 0, 1) := by decide +kernel
theorem dX3_hear_97 : decode cX3_hear 97 = .ok (.getfield 23, 3) := by decide +kernel
theorem dX3_hear_100 : decode cX3_hear 100 = .ok (.iload_n 1, 1) := by decide +kernel
theorem dX3_hear_101 : decode cX3_hear 101 = .ok (.iconst 1, 1) := by decide +kernel
theorem dX3_hear_102 : decode cX3_hear 102 = .ok (.invokevirtual 48, 3) := by decide +kernel
theorem dX3_hear_105 : decode cX3_hear 105 = .ok (.aload_n 0, 1) := by decide +kernel
theorem dX3_hear_106 : decode cX3_hear 106 = .ok (.dup, 1) := by decide +kernel
theorem dX3_hear_107 : decode cX3_hear 107 = .ok (.getfield 15, 3) := by decide +kernel
theorem dX3_hear_110 : decode cX3_hear 110 = .ok (.iconst 1, 1) := by decide +kernel
theorem dX3_hear_111 : decode cX3_hear 111 = .ok (.iadd, 1) := by decide +kernel
theorem dX3_hear_112 : decode cX3_hear 112 = .ok (.putfield 15, 3) := by decide +kernel
theorem dX3_hear_115 : decode cX3_hear 115 = .ok (.return_, 1) := by decide +kernel
set_option maxRecDepth 20000 in
theorem ggX3_forgetAll_X2_size : GoodIn wsX3_forgetAll wsX2_size := goodIn_r _ [11, 12, 34, 35, 36, 37, 38] (by decide +kernel) (by decide +kernel)
set_option maxRecDepth 20000 in
theorem gX3_forgetAll_X2_size : GoodIn wsX3_forgetAll (wsV RX3 69 RX2 yX2_size wsX2_size) := goodIn_app (goodIn_of _ (by decide +kernel)) ggX3_forgetAll_X2_size
set_option maxRecDepth 20000 in
theorem ggX3_forgetAll_X2_memory : GoodIn wsX3_forgetAll wsX2_memory := goodIn_r _ [16, 17, 18, 19, 20, 21, 22, 23, 34, 35, 36, 37, 38, 39] (by decide +kernel) (by decide +kernel)
set_option maxRecDepth 20000 in
theorem gX3_forgetAll_X2_memory : GoodIn wsX3_forgetAll (wsV RX3 101 RX2 yX2_memory wsX2_memory) := goodIn_app (goodIn_of _ (by decide +kernel)) ggX3_forgetAll_X2_memory
set_option maxRecDepth 20000 in
theorem ggX3_forgetAll_X1_at : GoodIn wsX3_forgetAll wsX1_at := goodIn_r _ [22, 23, 39] (by decide +kernel) (by decide +kernel)
set_option maxRecDepth 20000 in
theorem gX3_forgetAll_X1_at : GoodIn wsX3_forgetAll (wsV RX3 37 RX1 yX1_at wsX1_at) := goodIn_app (goodIn_of _ (by decide +kernel)) ggX3_forgetAll_X1_at
set_option maxRecDepth 20000 in
theorem ggX3_forgetAll_X1_put : GoodIn wsX3_forgetAll wsX1_put := goodIn_r _ [28, 23, 39] (by decide +kernel) (by decide +kernel)
set_option maxRecDepth 20000 in
theorem gX3_forgetAll_X1_put : GoodIn wsX3_forgetAll (wsV RX3 48 RX1 yX1_put wsX1_put) := goodIn_app (goodIn_of _ (by decide +kernel)) ggX3_forgetAll_X1_put
theorem dX3_forgetAll_0 : decode cX3_forgetAll 0 = .ok (.aload_n 1, 1) := by decide +kernel
theorem dX3_forgetAll_1 : decode cX3_forgetAll 1 = .ok (.invokevirtual 69, 3) := by decide +kernel
theorem dX3_forgetAll_4 : decode cX3_forgetAll 4 = .ok (.istore_n 2, 1) := by decide +kernel
theorem dX3_forgetAll_5 : decode cX3_forgetAll 5 = .ok (.iconst 0, 1) := by decide +kernel
theorem dX3_forgetAll_6 : decode cX3_forgetAll 6 = .ok (.istore_n 3, 1) := by decide +kernel
theorem dX3_forgetAll_7 : decode cX3_forgetAll 7 = .ok (.iload_n 3, 1) := by decide +kernel
theorem dX3_forgetAll_8 : decode cX3_forgetAll 8 = .ok (.iload_n 2, 1) := by decide +kernel
theorem dX3_forgetAll_9 : decode cX3_forgetAll 9 = .ok (.if_icmp .ge 55, 3) := by decide +kernel
theorem dX3_forgetAll_12 : decode cX3_forgetAll 12 = .ok (.aload_n 1, 1) := by decide +kernel
theorem dX3_forgetAll_13 : decode cX3_forgetAll 13 = .ok (.iload_n 3, 1) := by decide +kernel
theorem dX3_forgetAll_14 : decode cX3_forgetAll 14 = .ok (.invokevirtual 101, 3) := by decide +kernel
theorem dX3_forgetAll_17 : decode cX3_forgetAll 17 = .ok (.iconst 1, 1) := by decide +kernel
theorem dX3_forgetAll_18 : decode cX3_forgetAll 18 = .ok (.iadd, 1) := by decide +kernel
theorem dX3_forgetAll_19 : decode cX3_forgetAll 19 = .ok (.istore 4, 2) := by decide +kernel
theorem dX3_forgetAll_21 : decode cX3_forgetAll 21 = .ok (.iload 4, 2) := by decide +kernel
theorem dX3_forgetAll_23 : decode cX3_forgetAll 23 = .ok (.ifCond .le 35, 3) := by decide +kernel
theorem dX3_forgetAll_26 : decode cX3_forgetAll 26 = .ok (.aload_n 0, 1) := by decide +kernel
theorem dX3_forgetAll_27 : decode cX3_forgetAll 27 = .ok (.getfield 9, 3) := by decide +kernel
theorem dX3_forgetAll_30 : decode cX3_forgetAll 30 = .ok (.iload 4, 2) := by decide +kernel
theorem dX3_forgetAll_32 : decode cX3_forgetAll 32 = .ok (.irem, 1) := by decide +kernel
theorem dX3_forgetAll_33 : decode cX3_forgetAll 33 = .ok (.ifCond .ne 25, 3) := by decide +kernel
theorem dX3_forgetAll_36 : decode cX3_forgetAll 36 = .ok (.aload_n 0, 1) := by decide +kernel
theorem dX3_forgetAll_37 : decode cX3_forgetAll 37 = .ok (.getfield 23, 3) := by decide +kernel
theorem dX3_forgetAll_40 : decode cX3_forgetAll 40 = .ok (.iload_n 3, 1) := by decide +kernel
theorem dX3_forgetAll_41 : decode cX3_forgetAll 41 = .ok (.aload_n 0, 1) := by decide +kernel
theorem dX3_forgetAll_42 : decode cX3_forgetAll 42 = .ok (.getfield 23, 3) := by decide +kernel
theorem dX3_forgetAll_45 : decode cX3_forgetAll 45 = .ok (.iload_n 3, 1) := by decide +kernel
theorem dX3_forgetAll_46 : decode cX3_forgetAll 46 = .ok (.invokevirtual 37, 3) := by decide +kernel
theorem dX3_forgetAll_49 : decode cX3_forgetAll 49 = .ok (.iconst 1, 1) := by decide +kernel
theorem dX3_forgetAll_50 : decode cX3_forgetAll 50 = .ok (.isub, 1) := by decide +kernel
theorem dX3_forgetAll_51 : decode cX3_forgetAll 51 = .ok (.iconst 0, 1) := by decide +kernel
theorem dX3_forgetAll_52 : decode cX3_forgetAll 52 = .ok (.invokestatic 104, 3) := by decide +kernel
theorem dX3_forgetAll_55 : decode cX3_forgetAll 55 = .ok (.invokevirtual 48, 3) := by decide +kernel
theorem dX3_forgetAll_58 : decode cX3_forgetAll 58 = .ok (.iinc 3 1, 3) := by decide +kernel
theorem dX3_forgetAll_61 : decode cX3_forgetAll 61 = .ok (.goto (-54), 3) := by decide +kernel
theorem dX3_forgetAll_64 : decode cX3_forgetAll 64 = .ok (.return_, 1) := by decide +kernel
set_option maxRecDepth 20000 in
theorem ggX4_init_X2_init : GoodIn wsX4_init wsX2_init := goodIn_r _ [16, 17, 2, 3, 18, 19, 20, 21, 22, 23, 24, 25, 26, 27, 28, 29, 30, 31, 32, 33, 34, 35, 59, 60, 61, 62, 63, 73] (by decide +kernel) (by decide +kernel)
set_option maxRecDepth 20000 in
theorem gX4_init_X2_init : GoodIn wsX4_init (wsX2_init) := ggX4_init_X2_init
set_option maxRecDepth 20000 in
theorem ggX4_init_X3_init : GoodIn wsX4_init wsX3_init := goodIn_r _ [38, 39, 2, 3, 40, 41, 42, 20, 21, 43, 44, 45, 46, 47, 48, 49, 27, 28, 29, 30, 31, 32, 33, 34, 35, 50, 51, 52, 53, 54, 55, 56, 57, 58, 68, 69, 70, 71, 72, 73, 74, 75, 76] (by decide +kernel) (by decide +kernel)
set_option maxRecDepth 20000 in
theorem gX4_init_X3_init : GoodIn wsX4_init (wsX3_init) := ggX4_init_X3_init
theorem dX4_init_0 : decode cX4_init 0 = .ok (.aload_n 0, 1) := by decide +kernel
theorem dX4_init_1 : decode cX4_init 1 = .ok (.invokespecial 1, 3) := by decide +kernel
theorem dX4_init_4 : decode cX4_init 4 = .ok (.aload_n 0, 1) := by decide +kernel
theorem dX4_init_5 : decode cX4_init 5 = .ok (.new 7, 3) := by decide +kernel
theorem dX4_init_8 : decode cX4_init 8 = .ok (.dup, 1) := by decide +kernel
theorem dX4_init_9 : decode cX4_init 9 = .ok (.invokespecial 9, 3) := by decide +kernel
theorem dX4_init_12 : decode cX4_init 12 = .ok (.putfield 10, 3) := by decide +kernel
theorem dX4_init_15 : decode cX4_init 15 = .ok (.aload_n 0, 1) := by decide +kernel
theorem dX4_init_16 : decode cX4_init 16 = .ok (.new 16, 3) := by decide +kernel
theorem dX4_init_19 : decode cX4_init 19 = .ok (.dup, 1) := by decide +kernel
theorem dX4_init_20 : decode cX4_init 20 = .ok (.invokespecial 18, 3) := by decide +kernel
theorem dX4_init_23 : decode cX4_init 23 = .ok (.putfield 19, 3) := by decide +kernel
theorem dX4_init_26 : decode cX4_init 26 = .ok (.aload_n 0, 1) := by decide +kernel
theorem dX4_init_27 : decode cX4_init 27 = .ok (.new 16, 3) := by decide +kernel
theorem dX4_init_30 : decode cX4_init 30 = .ok (.dup, 1) := by decide +kernel
theorem dX4_init_31 : decode cX4_init 31 = .ok (.invokespecial 18, 3) := by decide +kernel
theorem dX4_init_34 : decode cX4_init 34 = .ok (.putfield 23, 3) := by decide +kernel
theorem dX4_init_37 : decode cX4_init 37 = .ok (.aload_n 0, 1) := by decide +kernel
theorem dX4_init_38 : decode cX4_init 38 = .ok (.new 16, 3) := by decide +kernel
theorem dX4_init_41 : decode cX4_init 41 = .ok (.dup, 1) := by decide +kernel
theorem dX4_init_42 : decode cX4_init 42 = .ok (.invokespecial 18, 3) := by decide +kernel
theorem dX4_init_45 : decode cX4_init 45 = .ok (.putfield 26, 3) := by decide +kernel
theorem dX4_init_48 : decode cX4_init 48 = .ok (.return_, 1) := by decide +kernel
set_option maxRecDepth 20000 in
theorem ggX4_come_X4_isOutside : GoodIn wsX4_come wsX4_isOutside := goodIn_r _ [10] (by decide +kernel) (by decide +kernel)
set_option maxRecDepth 20000 in
theorem gX4_come_X4_isOutside : GoodIn wsX4_come (va_wsS RX4 29 yX4_isOutside wsX4_isOutside) := goodIn_app (goodIn_of _ (by decide +kernel)) ggX4_come_X4_isOutside
set_option maxRecDepth 20000 in
theorem ggX4_come_X4_needLoud : GoodIn wsX4_come wsX4_needLoud := goodIn_ca (goodIn_r _ [13, 1, 2, 7, 8, 9, 10] (by decide +kernel) (by decide +kernel)) (goodIn_sub (fun _ h => List.mem_cons_of_mem _ (List.mem_append_left _ (List.mem_append_right _ h))) (by decide +kernel))
set_option maxRecDepth 20000 in
theorem gX4_come_X4_needLoud : GoodIn wsX4_come (va_wsS RX4 40 yX4_needLoud wsX4_needLoud) := goodIn_app (goodIn_of _ (by decide +kernel)) ggX4_come_X4_needLoud
set_option maxRecDepth 20000 in
theorem ggX4_come_X2_size : GoodIn wsX4_come wsX2_size := goodIn_r _ [18, 19, 54, 55, 56, 57, 58] (by decide +kernel) (by decide +kernel)
set_option maxRecDepth 20000 in
theorem gX4_come_X2_size : GoodIn wsX4_come (wsV RX4 44 RX2 yX2_size wsX2_size) := goodIn_app (goodIn_of _ (by decide +kernel)) ggX4_come_X2_size
set_option maxRecDepth 20000 in
theorem ggX4_come_X2_seat : GoodIn wsX4_come wsX2_seat := goodIn_r _ [23, 19, 24, 25, 26, 27, 28, 29, 30, 31, 54, 55, 56, 57, 58, 59] (by decide +kernel) (by decide +kernel)
set_option maxRecDepth 20000 in
theorem gX4_come_X2_seat : GoodIn wsX4_come (wsV RX4 53 RX2 yX2_seat wsX2_seat) := goodIn_app (goodIn_of _ (by decide +kernel)) ggX4_come_X2_seat
set_option maxRecDepth 20000 in
theorem ggX4_come_X3_takeFromCourt : GoodIn wsX4_come wsX3_takeFromCourt := goodIn_r _ [36, 37, 38, 39, 40, 41, 42, 43, 44, 45, 46, 47, 48, 27, 28, 29, 30, 31, 49, 60, 61, 62, 63, 64, 65, 66, 67, 59] (by decide +kernel) (by decide +kernel)
set_option maxRecDepth 20000 in
theorem gX4_come_X3_takeFromCourt : GoodIn wsX4_come (wsV RX4 57 RX3 yX3_takeFromCourt wsX3_takeFromCourt) := goodIn_app (goodIn_of _ (by decide +kernel)) ggX4_come_X3_takeFromCourt
theorem dX4_come_0 : decode cX4_come 0 = .ok (.iload_n 1, 1) := by decide +kernel
theorem dX4_come_1 : decode cX4_come 1 = .ok (.iconst 1, 1) := by decide +kernel
theorem dX4_come_2 : decode cX4_come 2 = .ok (.bipush 9, 2) := by decide +kernel
theorem dX4_come_4 : decode cX4_come 4 = .ok (.invokestatic 29, 3) := by decide +kernel
theorem dX4_come_7 : decode cX4_come 7 = .ok (.ifCond .eq 13, 3) := by decide +kernel
theorem dX4_come_10 : decode cX4_come 10 = .ok (.new 33, 3) := by decide +kernel
theorem dX4_come_13 : decode cX4_come 13 = .ok (.dup, 1) := by decide +kernel
theorem dX4_come_14 : decode cX4_come 14 = .ok (.ldc 35, 2) := by decide +kernel
theorem dX4_come_16 : decode cX4_come 16 = .ok (.invokespecial 37, 3) := by decide +kernel
theorem dX4_come_19 : decode cX4_come 19 = .ok (.athrow, 1) := by decide +kernel
theorem dX4_come_20 : decode cX4_come 20 = .ok (.iload_n 2, 1) := by decide +kernel
theorem dX4_come_21 : decode cX4_come 21 = .ok (.invokestatic 40, 3) := by decide +kernel
theorem dX4_come_24 : decode cX4_come 24 = .ok (.aload_n 0, 1) := by decide +kernel
theorem dX4_come_25 : decode cX4_come 25 = .ok (.getfield 10, 3) := by decide +kernel
theorem dX4_come_28 : decode cX4_come 28 = .ok (.invokevirtual 44, 3) := by decide +kernel
theorem dX4_come_31 : decode cX4_come 31 = .ok (.bipush 12, 2) := by decide +kernel
theorem dX4_come_33 : decode cX4_come 33 = .ok (.if_icmp .lt 13, 3) := by decide +kernel
theorem dX4_come_36 : decode cX4_come 36 = .ok (.new 48, 3) := by decide +kernel
theorem dX4_come_39 : decode cX4_come 39 = .ok (.dup, 1) := by decide +kernel
theorem dX4_come_40 : decode cX4_come 40 = .ok (.ldc 50, 2) := by decide +kernel
theorem dX4_come_42 : decode cX4_come 42 = .ok (.invokespecial 52, 3) := by decide +kernel
theorem dX4_come_45 : decode cX4_come 45 = .ok (.athrow, 1) := by decide +kernel
theorem dX4_come_46 : decode cX4_come 46 = .ok (.aload_n 0, 1) := by decide +kernel
theorem dX4_come_47 : decode cX4_come 47 = .ok (.getfield 10, 3) := by decide +kernel
theorem dX4_come_50 : decode cX4_come 50 = .ok (.iload_n 1, 1) := by decide +kernel
theorem dX4_come_51 : decode cX4_come 51 = .ok (.iload_n 2, 1) := by decide +kernel
theorem dX4_come_52 : decode cX4_come 52 = .ok (.invokevirtual 53, 3) := by decide +kernel
theorem dX4_come_55 : decode cX4_come 55 = .ok (.istore_n 3, 1) := by decide +kernel
theorem dX4_come_56 : decode cX4_come 56 = .ok (.aload_n 0, 1) := by decide +kernel
theorem dX4_come_57 : decode cX4_come 57 = .ok (.getfield 19, 3) := by decide +kernel
theorem dX4_come_60 : decode cX4_come 60 = .ok (.iload_n 3, 1) := by decide +kernel
theorem dX4_come_61 : decode cX4_come 61 = .ok (.iconst 0, 1) := by decide +kernel
theorem dX4_come_62 : decode cX4_come 62 = .ok (.iconst 0, 1) := by decide +kernel
theorem dX4_come_63 : decode cX4_come 63 = .ok (.invokevirtual 57, 3) := by decide +kernel
theorem dX4_come_66 : decode cX4_come 66 = .ok (.iload_n 3, 1) := by decide +kernel
theorem dX4_come_67 : decode cX4_come 67 = .ok (.ireturn, 1) := by decide +kernel
set_option maxRecDepth 20000 in
theorem ggX4_listen_X4_needParrot : GoodIn wsX4_listen wsX4_needParrot := goodIn_ca (goodIn_r _ [10, 11, 12, 5, 13, 14, 15, 16, 17, 18, 51, 52, 53, 54, 55, 56, 57, 58, 59] (by decide +kernel) (by decide +kernel)) (goodIn_sub (fun _ h => List.mem_cons_of_mem _ (List.mem_append_right _ h)) (by decide +kernel))
set_option maxRecDepth 20000 in
theorem gX4_listen_X4_needParrot : GoodIn wsX4_listen (wsV RX4 61 RX4 yX4_needParrot wsX4_needParrot) := goodIn_app (goodIn_of _ (by decide +kernel)) ggX4_listen_X4_needParrot
set_option maxRecDepth 20000 in
theorem ggX4_listen_X2_placeOf : GoodIn wsX4_listen wsX2_placeOf := goodIn_r _ [22, 23, 24, 25, 26, 27, 28, 29, 30, 31, 32, 16, 33, 34, 55, 56, 57, 58, 59, 60] (by decide +kernel) (by decide +kernel)
set_option maxRecDepth 20000 in
theorem gX4_listen_X2_placeOf : GoodIn wsX4_listen (wsV RX4 66 RX2 yX2_placeOf wsX2_placeOf) := goodIn_app (goodIn_of _ (by decide +kernel)) ggX4_listen_X2_placeOf
set_option maxRecDepth 20000 in
theorem ggX4_listen_X2_dropOther : GoodIn wsX4_listen wsX2_dropOther := goodIn_r _ [38, 23, 34, 24, 25, 26, 27, 28, 29, 30, 31, 32, 16, 33, 39, 40, 41, 42, 55, 56, 57, 58, 59, 60] (by decide +kernel) (by decide +kernel)
set_option maxRecDepth 20000 in
theorem gX4_listen_X2_dropOther : GoodIn wsX4_listen (wsV RX4 69 RX2 yX2_dropOther wsX2_dropOther) := goodIn_app (goodIn_of _ (by decide +kernel)) ggX4_listen_X2_dropOther
set_option maxRecDepth 20000 in
theorem ggX4_listen_X2_listening : GoodIn wsX4_listen wsX2_listening := goodIn_r _ [46, 23, 24, 25, 26, 27, 28, 29, 55, 56, 57, 58, 59, 60] (by decide +kernel) (by decide +kernel)
set_option maxRecDepth 20000 in
theorem gX4_listen_X2_listening : GoodIn wsX4_listen (wsV RX4 73 RX2 yX2_listening wsX2_listening) := goodIn_app (goodIn_of _ (by decide +kernel)) ggX4_listen_X2_listening
set_option maxRecDepth 20000 in
theorem ggX4_listen_X2_addOther : GoodIn wsX4_listen wsX2_addOther := goodIn_r _ [50, 23, 34, 24, 25, 26, 27, 28, 29, 39, 40, 41, 42, 55, 56, 57, 58, 59, 60] (by decide +kernel) (by decide +kernel)
set_option maxRecDepth 20000 in
theorem gX4_listen_X2_addOther : GoodIn wsX4_listen (wsV RX4 79 RX2 yX2_addOther wsX2_addOther) := goodIn_app (goodIn_of _ (by decide +kernel)) ggX4_listen_X2_addOther
theorem dX4_listen_0 : decode cX4_listen 0 = .ok (.aload_n 0, 1) := by decide +kernel
theorem dX4_listen_1 : decode cX4_listen 1 = .ok (.iload_n 1, 1) := by decide +kernel
theorem dX4_listen_2 : decode cX4_listen 2 = .ok (.invokevirtual 61, 3) := by decide +kernel
theorem dX4_listen_5 : decode cX4_listen 5 = .ok (.aload_n 0, 1) := by decide +kernel
theorem dX4_listen_6 : decode cX4_listen 6 = .ok (.iload_n 2, 1) := by decide +kernel
theorem dX4_listen_7 : decode cX4_listen 7 = .ok (.invokevirtual 61, 3) := by decide +kernel
theorem dX4_listen_10 : decode cX4_listen 10 = .ok (.iload_n 1, 1) := by decide +kernel
theorem dX4_listen_11 : decode cX4_listen 11 = .ok (.iload_n 2, 1) := by decide +kernel
theorem dX4_listen_12 : decode cX4_listen 12 = .ok (.if_icmp .ne 13, 3) := by decide +kernel
theorem dX4_listen_15 : decode cX4_listen 15 = .ok (.new 33, 3) := by decide +kernel
theorem dX4_listen_18 : decode cX4_listen 18 = .ok (.dup, 1) := by decide +kernel
theorem dX4_listen_19 : decode cX4_listen 19 = .ok (.ldc 64, 2) := by decide +kernel
theorem dX4_listen_21 : decode cX4_listen 21 = .ok (.invokespecial 37, 3) := by decide +kernel
theorem dX4_listen_24 : decode cX4_listen 24 = .ok (.athrow, 1) := by decide +kernel
theorem dX4_listen_25 : decode cX4_listen 25 = .ok (.aload_n 0, 1) := by decide +kernel
theorem dX4_listen_26 : decode cX4_listen 26 = .ok (.getfield 10, 3) := by decide +kernel
theorem dX4_listen_29 : decode cX4_listen 29 = .ok (.iload_n 1, 1) := by decide +kernel
theorem dX4_listen_30 : decode cX4_listen 30 = .ok (.iload_n 2, 1) := by decide +kernel
theorem dX4_listen_31 : decode cX4_listen 31 = .ok (.invokevirtual 66, 3) := by decide +kernel
theorem dX4_listen_34 : decode cX4_listen 34 = .ok (.istore_n 3, 1) := by decide +kernel
theorem dX4_listen_35 : decode cX4_listen 35 = .ok (.iload_n 3, 1) := by decide +kernel
theorem dX4_listen_36 : decode cX4_listen 36 = .ok (.iconst (-1), 1) := by decide +kernel
theorem dX4_listen_37 : decode cX4_listen 37 = .ok (.if_icmp .eq 15, 3) := by decide +kernel
theorem dX4_listen_40 : decode cX4_listen 40 = .ok (.aload_n 0, 1) := by decide +kernel
theorem dX4_listen_41 : decode cX4_listen 41 = .ok (.getfield 10, 3) := by decide +kernel
theorem dX4_listen_44 : decode cX4_listen 44 = .ok (.iload_n 1, 1) := by decide +kernel
theorem dX4_listen_45 : decode cX4_listen 45 = .ok (.iload_n 3, 1) := by decide +kernel
theorem dX4_listen_46 : decode cX4_listen 46 = .ok (.invokevirtual 69, 3) := by decide +kernel
theorem dX4_listen_49 : decode cX4_listen 49 = .ok (.goto 34, 3) := by decide +kernel
theorem dX4_listen_52 : decode cX4_listen 52 = .ok (.aload_n 0, 1) := by decide +kernel
theorem dX4_listen_53 : decode cX4_listen 53 = .ok (.getfield 10, 3) := by decide +kernel
theorem dX4_listen_56 : decode cX4_listen 56 = .ok (.iload_n 1, 1) := by decide +kernel
theorem dX4_listen_57 : decode cX4_listen 57 = .ok (.invokevirtual 73, 3) := by decide +kernel
theorem dX4_listen_60 : decode cX4_listen 60 = .ok (.iconst 4, 1) := by decide +kernel
theorem dX4_listen_61 : decode cX4_listen 61 = .ok (.if_icmp .lt 13, 3) := by decide +kernel
theorem dX4_listen_64 : decode cX4_listen 64 = .ok (.new 48, 3) := by decide +kernel
theorem dX4_listen_67 : decode cX4_listen 67 = .ok (.dup, 1) := by decide +kernel
theorem dX4_listen_68 : decode cX4_listen 68 = .ok (.ldc 77, 2) := by decide +kernel
theorem dX4_listen_70 : decode cX4_listen 70 = .ok (.invokespecial 52, 3) := by decide +kernel
theorem dX4_listen_73 : decode cX4_listen 73 = .ok (.athrow, 1) := by decide +kernel
theorem dX4_listen_74 : decode cX4_listen 74 = .ok (.aload_n 0, 1) := by decide +kernel
theorem dX4_listen_75 : decode cX4_listen 75 = .ok (.getfield 10, 3) := by decide +kernel
theorem dX4_listen_78 : decode cX4_listen 78 = .ok (.iload_n 1, 1) := by decide +kernel
theorem dX4_listen_79 : decode cX4_listen 79 = .ok (.iload_n 2, 1) := by decide +kernel
theorem dX4_listen_80 : decode cX4_listen 80 = .ok (.invokevirtual 79, 3) := by decide +kernel
theorem dX4_listen_83 : decode cX4_listen 83 = .ok (.aload_n 0, 1) := by decide +kernel
theorem dX4_listen_84 : decode cX4_listen 84 = .ok (.getfield 10, 3) := by decide +kernel
theorem dX4_listen_87 : decode cX4_listen 87 = .ok (.iload_n 1, 1) := by decide +kernel
theorem dX4_listen_88 : decode cX4_listen 88 = .ok (.invokevirtual 73, 3) := by decide +kernel
theorem dX4_listen_91 : decode cX4_listen 91 = .ok (.ireturn, 1) := by decide +kernel
set_option maxRecDepth 20000 in
theorem ggX4_raise_X4_needParrot : GoodIn wsX4_raise wsX4_needParrot := goodIn_ca (goodIn_r _ [6, 7, 8, 1, 9, 10, 11, 12, 13, 14, 42, 43, 44, 45, 46, 47, 48, 49, 50] (by decide +kernel) (by decide +kernel)) (goodIn_sub (fun _ h => List.mem_cons_of_mem _ (List.mem_append_left _ (List.mem_append_right _ h))) (by decide +kernel))
set_option maxRecDepth 20000 in
theorem gX4_raise_X4_needParrot : GoodIn wsX4_raise (wsV RX4 61 RX4 yX4_needParrot wsX4_needParrot) := goodIn_app (goodIn_of _ (by decide +kernel)) ggX4_raise_X4_needParrot
set_option maxRecDepth 20000 in
theorem ggX4_raise_X4_needLoud : GoodIn wsX4_raise wsX4_needLoud := goodIn_ca (goodIn_r _ [17, 18, 19, 20, 21, 5, 22] (by decide +kernel) (by decide +kernel)) (goodIn_sub (fun _ h => List.mem_cons_of_mem _ (List.mem_append_right _ h)) (by decide +kernel))
set_option maxRecDepth 20000 in
theorem gX4_raise_X4_needLoud : GoodIn wsX4_raise (va_wsS RX4 40 yX4_needLoud wsX4_needLoud) := goodIn_app (goodIn_of _ (by decide +kernel)) ggX4_raise_X4_needLoud
set_option maxRecDepth 20000 in
theorem ggX4_raise_X2_loud : GoodIn wsX4_raise wsX2_loud := goodIn_r _ [26, 27, 28, 29, 30, 31, 32, 33, 46, 47, 48, 49, 50, 51] (by decide +kernel) (by decide +kernel)
set_option maxRecDepth 20000 in
theorem gX4_raise_X2_loud : GoodIn wsX4_raise (wsV RX4 82 RX2 yX2_loud wsX2_loud) := goodIn_app (goodIn_of _ (by decide +kernel)) ggX4_raise_X2_loud
set_option maxRecDepth 20000 in
theorem ggX4_raise_X2_setLoud : GoodIn wsX4_raise wsX2_setLoud := goodIn_r _ [37, 27, 38, 39, 40, 31, 41, 33, 46, 47, 48, 49, 50, 51] (by decide +kernel) (by decide +kernel)
set_option maxRecDepth 20000 in
theorem gX4_raise_X2_setLoud : GoodIn wsX4_raise (wsV RX4 85 RX2 yX2_setLoud wsX2_setLoud) := goodIn_app (goodIn_of _ (by decide +kernel)) ggX4_raise_X2_setLoud
theorem dX4_raise_0 : decode cX4_raise 0 = .ok (.aload_n 0, 1) := by decide +kernel
theorem dX4_raise_1 : decode cX4_raise 1 = .ok (.iload_n 1, 1) := by decide +kernel
theorem dX4_raise_2 : decode cX4_raise 2 = .ok (.invokevirtual 61, 3) := by decide +kernel
theorem dX4_raise_5 : decode cX4_raise 5 = .ok (.iload_n 2, 1) := by decide +kernel
theorem dX4_raise_6 : decode cX4_raise 6 = .ok (.invokestatic 40, 3) := by decide +kernel
theorem dX4_raise_9 : decode cX4_raise 9 = .ok (.aload_n 0, 1) := by decide +kernel
theorem dX4_raise_10 : decode cX4_raise 10 = .ok (.getfield 10, 3) := by decide +kernel
theorem dX4_raise_13 : decode cX4_raise 13 = .ok (.iload_n 1, 1) := by decide +kernel
theorem dX4_raise_14 : decode cX4_raise 14 = .ok (.invokevirtual 82, 3) := by decide +kernel
theorem dX4_raise_17 : decode cX4_raise 17 = .ok (.istore_n 3, 1) := by decide +kernel
theorem dX4_raise_18 : decode cX4_raise 18 = .ok (.aload_n 0, 1) := by decide +kernel
theorem dX4_raise_19 : decode cX4_raise 19 = .ok (.getfield 10, 3) := by decide +kernel
theorem dX4_raise_22 : decode cX4_raise 22 = .ok (.iload_n 1, 1) := by decide +kernel
theorem dX4_raise_23 : decode cX4_raise 23 = .ok (.iload_n 2, 1) := by decide +kernel
theorem dX4_raise_24 : decode cX4_raise 24 = .ok (.invokevirtual 85, 3) := by decide +kernel
theorem dX4_raise_27 : decode cX4_raise 27 = .ok (.iload_n 3, 1) := by decide +kernel
theorem dX4_raise_28 : decode cX4_raise 28 = .ok (.ireturn, 1) := by decide +kernel
set_option maxRecDepth 20000 in
theorem ggX4_whisper_X4_needParrot : GoodIn wsX4_whisper wsX4_needParrot := goodIn_ca (goodIn_r _ [8, 9, 10, 11, 12, 13, 14, 15, 16, 17, 59, 60, 61, 62, 63, 64, 65, 66, 67] (by decide +kernel) (by decide +kernel)) (goodIn_sub (fun _ h => List.mem_cons_of_mem _ (List.mem_append_right _ h)) (by decide +kernel))
set_option maxRecDepth 20000 in
theorem gX4_whisper_X4_needParrot : GoodIn wsX4_whisper (wsV RX4 61 RX4 yX4_needParrot wsX4_needParrot) := goodIn_app (goodIn_of _ (by decide +kernel)) ggX4_whisper_X4_needParrot
set_option maxRecDepth 20000 in
theorem ggX4_whisper_X4_needWord : GoodIn wsX4_whisper wsX4_needWord := goodIn_ca (goodIn_r _ [20, 1, 2, 21, 22, 7, 23] (by decide +kernel) (by decide +kernel)) (goodIn_sub (fun _ h => List.mem_cons_of_mem _ (List.mem_append_left _ (List.mem_append_right _ h))) (by decide +kernel))
set_option maxRecDepth 20000 in
theorem gX4_whisper_X4_needWord : GoodIn wsX4_whisper (va_wsS RX4 88 yX4_needWord wsX4_needWord) := goodIn_app (goodIn_of _ (by decide +kernel)) ggX4_whisper_X4_needWord
set_option maxRecDepth 20000 in
theorem ggX4_whisper_X4_isOutside : GoodIn wsX4_whisper wsX4_isOutside := goodIn_r _ [23] (by decide +kernel) (by decide +kernel)
set_option maxRecDepth 20000 in
theorem gX4_whisper_X4_isOutside : GoodIn wsX4_whisper (va_wsS RX4 29 yX4_isOutside wsX4_isOutside) := goodIn_app (goodIn_of _ (by decide +kernel)) ggX4_whisper_X4_isOutside
set_option maxRecDepth 20000 in
theorem ggX4_whisper_X3_word : GoodIn wsX4_whisper wsX3_word := goodIn_r _ [28, 29, 30, 31, 32, 33, 34, 35, 36, 37, 38, 39, 40, 41, 42, 68, 69, 70, 71, 72, 73, 74, 75, 76] (by decide +kernel) (by decide +kernel)
set_option maxRecDepth 20000 in
theorem gX4_whisper_X3_word : GoodIn wsX4_whisper (wsV RX4 93 RX3 yX3_word wsX3_word) := goodIn_app (goodIn_of _ (by decide +kernel)) ggX4_whisper_X3_word
set_option maxRecDepth 20000 in
theorem ggX4_whisper_X3_takeFromCourt : GoodIn wsX4_whisper wsX3_takeFromCourt := goodIn_r _ [46, 29, 30, 47, 48, 49, 50, 34, 51, 36, 52, 53, 54, 55, 56, 40, 57, 42, 58, 68, 69, 70, 71, 72, 73, 74, 75, 76] (by decide +kernel) (by decide +kernel)
set_option maxRecDepth 20000 in
theorem gX4_whisper_X3_takeFromCourt : GoodIn wsX4_whisper (wsV RX4 57 RX3 yX3_takeFromCourt wsX3_takeFromCourt) := goodIn_app (goodIn_of _ (by decide +kernel)) ggX4_whisper_X3_takeFromCourt
theorem dX4_whisper_0 : decode cX4_whisper 0 = .ok (.aload_n 0, 1) := by decide +kernel
theorem dX4_whisper_1 : decode cX4_whisper 1 = .ok (.iload_n 1, 1) := by decide +kernel
theorem dX4_whisper_2 : decode cX4_whisper 2 = .ok (.invokevirtual 61, 3) := by decide +kernel
theorem dX4_whisper_5 : decode cX4_whisper 5 = .ok (.iload_n 2, 1) := by decide +kernel
theorem dX4_whisper_6 : decode cX4_whisper 6 = .ok (.invokestatic 88, 3) := by decide +kernel
theorem dX4_whisper_9 : decode cX4_whisper 9 = .ok (.iload_n 3, 1) := by decide +kernel
theorem dX4_whisper_10 : decode cX4_whisper 10 = .ok (.iconst 0, 1) := by decide +kernel
theorem dX4_whisper_11 : decode cX4_whisper 11 = .ok (.bipush 9, 2) := by decide +kernel
theorem dX4_whisper_13 : decode cX4_whisper 13 = .ok (.invokestatic 29, 3) := by decide +kernel
theorem dX4_whisper_16 : decode cX4_whisper 16 = .ok (.ifCond .eq 13, 3) := by decide +kernel
theorem dX4_whisper_19 : decode cX4_whisper 19 = .ok (.new 33, 3) := by decide +kernel
theorem dX4_whisper_22 : decode cX4_whisper 22 = .ok (.dup, 1) := by decide +kernel
theorem dX4_whisper_23 : decode cX4_whisper 23 = .ok (.ldc 91, 2) := by decide +kernel
theorem dX4_whisper_25 : decode cX4_whisper 25 = .ok (.invokespecial 37, 3) := by decide +kernel
theorem dX4_whisper_28 : decode cX4_whisper 28 = .ok (.athrow, 1) := by decide +kernel
theorem dX4_whisper_29 : decode cX4_whisper 29 = .ok (.aload_n 0, 1) := by decide +kernel
theorem dX4_whisper_30 : decode cX4_whisper 30 = .ok (.getfield 19, 3) := by decide +kernel
theorem dX4_whisper_33 : decode cX4_whisper 33 = .ok (.iload_n 1, 1) := by decide +kernel
theorem dX4_whisper_34 : decode cX4_whisper 34 = .ok (.invokevirtual 93, 3) := by decide +kernel
theorem dX4_whisper_37 : decode cX4_whisper 37 = .ok (.istore 4, 2) := by decide +kernel
theorem dX4_whisper_39 : decode cX4_whisper 39 = .ok (.aload_n 0, 1) := by decide +kernel
theorem dX4_whisper_40 : decode cX4_whisper 40 = .ok (.getfield 19, 3) := by decide +kernel
theorem dX4_whisper_43 : decode cX4_whisper 43 = .ok (.iload_n 1, 1) := by decide +kernel
theorem dX4_whisper_44 : decode cX4_whisper 44 = .ok (.iload_n 2, 1) := by decide +kernel
theorem dX4_whisper_45 : decode cX4_whisper 45 = .ok (.iload_n 3, 1) := by decide +kernel
theorem dX4_whisper_46 : decode cX4_whisper 46 = .ok (.invokevirtual 57, 3) := by decide +kernel
theorem dX4_whisper_49 : decode cX4_whisper 49 = .ok (.iload 4, 2) := by decide +kernel
theorem dX4_whisper_51 : decode cX4_whisper 51 = .ok (.ireturn, 1) := by decide +kernel
set_option maxRecDepth 20000 in
theorem ggX4_parrot_X4_needParrot : GoodIn wsX4_parrot wsX4_needParrot := goodIn_ca (goodIn_r _ [5, 6, 7, 8, 9, 10, 11, 12, 13, 14, 84, 85, 86, 87, 88, 89, 90, 91, 92] (by decide +kernel) (by decide +kernel)) (goodIn_sub (fun _ h => List.mem_cons_of_mem _ (List.mem_append_right _ h)) (by decide +kernel))
set_option maxRecDepth 20000 in
theorem gX4_parrot_X4_needParrot : GoodIn wsX4_parrot (wsV RX4 61 RX4 yX4_needParrot wsX4_needParrot) := goodIn_app (goodIn_of _ (by decide +kernel)) ggX4_parrot_X4_needParrot
set_option maxRecDepth 20000 in
theorem ggX4_parrot_X4_needWhat : GoodIn wsX4_parrot wsX4_needWhat := goodIn_ca (goodIn_r _ [17, 6, 7, 18, 19, 4, 20] (by decide +kernel) (by decide +kernel)) (goodIn_sub (fun _ h => List.mem_cons_of_mem _ (List.mem_append_right _ h)) (by decide +kernel))
set_option maxRecDepth 20000 in
theorem gX4_parrot_X4_needWhat : GoodIn wsX4_parrot (va_wsS RX4 96 yX4_needWhat wsX4_needWhat) := goodIn_app (goodIn_of _ (by decide +kernel)) ggX4_parrot_X4_needWhat
set_option maxRecDepth 20000 in
theorem ggX4_parrot_X4_tellOfParrot : GoodIn wsX4_parrot wsX4_tellOfParrot := goodIn_r _ [24, 25, 8, 26, 27, 28, 29, 30, 31, 32, 33, 34, 35, 36, 37, 38, 39, 40, 41, 42, 43, 44, 45, 46, 47, 48, 49, 50, 51, 52, 53, 12, 54, 55, 56, 57, 58, 59, 60, 61, 62, 63, 64, 65, 66, 67, 68, 69, 70, 14, 71, 72, 73, 74, 75, 76, 77, 78, 79, 80, 81, 82, 83, 84, 85, 86, 87, 93, 94, 95, 96, 97, 98, 99, 100, 101, 88, 89, 90, 91, 92] (by decide +kernel) (by decide +kernel)
set_option maxRecDepth 20000 in
theorem gX4_parrot_X4_tellOfParrot : GoodIn wsX4_parrot (wsV RX4 99 RX4 yX4_tellOfParrot wsX4_tellOfParrot) := goodIn_app (goodIn_of _ (by decide +kernel)) ggX4_parrot_X4_tellOfParrot
theorem dX4_parrot_0 : decode cX4_parrot 0 = .ok (.aload_n 0, 1) := by decide +kernel
theorem dX4_parrot_1 : decode cX4_parrot 1 = .ok (.iload_n 1, 1) := by decide +kernel
theorem dX4_parrot_2 : decode cX4_parrot 2 = .ok (.invokevirtual 61, 3) := by decide +kernel
theorem dX4_parrot_5 : decode cX4_parrot 5 = .ok (.iload_n 2, 1) := by decide +kernel
theorem dX4_parrot_6 : decode cX4_parrot 6 = .ok (.bipush 6, 2) := by decide +kernel
theorem dX4_parrot_8 : decode cX4_parrot 8 = .ok (.invokestatic 96, 3) := by decide +kernel
theorem dX4_parrot_11 : decode cX4_parrot 11 = .ok (.aload_n 0, 1) := by decide +kernel
theorem dX4_parrot_12 : decode cX4_parrot 12 = .ok (.iload_n 1, 1) := by decide +kernel
theorem dX4_parrot_13 : decode cX4_parrot 13 = .ok (.iload_n 2, 1) := by decide +kernel
theorem dX4_parrot_14 : decode cX4_parrot 14 = .ok (.invokevirtual 99, 3) := by decide +kernel
theorem dX4_parrot_17 : decode cX4_parrot 17 = .ok (.ireturn, 1) := by decide +kernel
set_option maxRecDepth 20000 in
theorem ggX4_half_X4_needParrot : GoodIn wsX4_half wsX4_needParrot := goodIn_ca (goodIn_r _ [5, 6, 7, 8, 9, 10, 11, 12, 13, 14, 55, 56, 57, 58, 59, 60, 61, 62, 63] (by decide +kernel) (by decide +kernel)) (goodIn_sub (fun _ h => List.mem_cons_of_mem _ (List.mem_append_right _ h)) (by decide +kernel))
set_option maxRecDepth 20000 in
theorem gX4_half_X4_needParrot : GoodIn wsX4_half (wsV RX4 61 RX4 yX4_needParrot wsX4_needParrot) := goodIn_app (goodIn_of _ (by decide +kernel)) ggX4_half_X4_needParrot
set_option maxRecDepth 20000 in
theorem ggX4_half_X4_needWhat : GoodIn wsX4_half wsX4_needWhat := goodIn_ca (goodIn_r _ [17, 6, 7, 18, 19, 4, 20] (by decide +kernel) (by decide +kernel)) (goodIn_sub (fun _ h => List.mem_cons_of_mem _ (List.mem_append_right _ h)) (by decide +kernel))
set_option maxRecDepth 20000 in
theorem gX4_half_X4_needWhat : GoodIn wsX4_half (va_wsS RX4 96 yX4_needWhat wsX4_needWhat) := goodIn_app (goodIn_of _ (by decide +kernel)) ggX4_half_X4_needWhat
set_option maxRecDepth 20000 in
theorem ggX4_half_X4_tellOfHalf : GoodIn wsX4_half wsX4_tellOfHalf := goodIn_r _ [24, 25, 26, 27, 28, 29, 30, 31, 32, 33, 34, 35, 36, 37, 38, 39, 40, 41, 42, 43, 44, 45, 46, 47, 48, 49, 50, 51, 52, 53, 54, 55, 56, 57, 58, 64, 65, 66, 67, 68, 69, 70, 71, 72] (by decide +kernel) (by decide +kernel)
set_option maxRecDepth 20000 in
theorem gX4_half_X4_tellOfHalf : GoodIn wsX4_half (wsV RX4 102 RX4 yX4_tellOfHalf wsX4_tellOfHalf) := goodIn_app (goodIn_of _ (by decide +kernel)) ggX4_half_X4_tellOfHalf
theorem dX4_half_0 : decode cX4_half 0 = .ok (.aload_n 0, 1) := by decide +kernel
theorem dX4_half_1 : decode cX4_half 1 = .ok (.iload_n 1, 1) := by decide +kernel
theorem dX4_half_2 : decode cX4_half 2 = .ok (.invokevirtual 61, 3) := by decide +kernel
theorem dX4_half_5 : decode cX4_half 5 = .ok (.iload_n 3, 1) := by decide +kernel
theorem dX4_half_6 : decode cX4_half 6 = .ok (.iconst 2, 1) := by decide +kernel
theorem dX4_half_7 : decode cX4_half 7 = .ok (.invokestatic 96, 3) := by decide +kernel
theorem dX4_half_10 : decode cX4_half 10 = .ok (.aload_n 0, 1) := by decide +kernel
theorem dX4_half_11 : decode cX4_half 11 = .ok (.iload_n 1, 1) := by decide +kernel
theorem dX4_half_12 : decode cX4_half 12 = .ok (.iload_n 2, 1) := by decide +kernel
theorem dX4_half_13 : decode cX4_half 13 = .ok (.iload_n 3, 1) := by decide +kernel
theorem dX4_half_14 : decode cX4_half 14 = .ok (.invokevirtual 102, 3) := by decide +kernel
theorem dX4_half_17 : decode cX4_half 17 = .ok (.ireturn, 1) := by decide +kernel
set_option maxRecDepth 20000 in
theorem ggX4_hears_X4_needParrot : GoodIn wsX4_hears wsX4_needParrot := goodIn_ca (goodIn_r _ [8, 1, 2, 3, 9, 10, 11, 12, 13, 14, 31, 32, 33, 34, 35, 36, 37, 38, 39] (by decide +kernel) (by decide +kernel)) (goodIn_sub (fun _ h => List.mem_cons_of_mem _ (List.mem_append_right _ h)) (by decide +kernel))
set_option maxRecDepth 20000 in
theorem gX4_hears_X4_needParrot : GoodIn wsX4_hears (wsV RX4 61 RX4 yX4_needParrot wsX4_needParrot) := goodIn_app (goodIn_of _ (by decide +kernel)) ggX4_hears_X4_needParrot
set_option maxRecDepth 20000 in
theorem ggX4_hears_X2_listening : GoodIn wsX4_hears wsX2_listening := goodIn_r _ [18, 19, 20, 21, 22, 23, 24, 25, 35, 36, 37, 38, 39, 40] (by decide +kernel) (by decide +kernel)
set_option maxRecDepth 20000 in
theorem gX4_hears_X2_listening : GoodIn wsX4_hears (wsV RX4 73 RX2 yX2_listening wsX2_listening) := goodIn_app (goodIn_of _ (by decide +kernel)) ggX4_hears_X2_listening
set_option maxRecDepth 20000 in
theorem ggX4_hears_X2_other : GoodIn wsX4_hears wsX2_other := goodIn_r _ [29, 30, 20, 21, 22, 23, 24, 25, 35, 36, 37, 38, 39, 40] (by decide +kernel) (by decide +kernel)
set_option maxRecDepth 20000 in
theorem gX4_hears_X2_other : GoodIn wsX4_hears (wsV RX4 111 RX2 yX2_other wsX2_other) := goodIn_app (goodIn_of _ (by decide +kernel)) ggX4_hears_X2_other
theorem dX4_hears_0 : decode cX4_hears 0 = .ok (.aload_n 0, 1) := by decide +kernel
theorem dX4_hears_1 : decode cX4_hears 1 = .ok (.iload_n 1, 1) := by decide +kernel
theorem dX4_hears_2 : decode cX4_hears 2 = .ok (.invokevirtual 61, 3) := by decide +kernel
theorem dX4_hears_5 : decode cX4_hears 5 = .ok (.iload_n 2, 1) := by decide +kernel
theorem dX4_hears_6 : decode cX4_hears 6 = .ok (.ifCond .lt 15, 3) := by decide +kernel
theorem dX4_hears_9 : decode cX4_hears 9 = .ok (.iload_n 2, 1) := by decide +kernel
theorem dX4_hears_10 : decode cX4_hears 10 = .ok (.aload_n 0, 1) := by decide +kernel
theorem dX4_hears_11 : decode cX4_hears 11 = .ok (.getfield 10, 3) := by decide +kernel
theorem dX4_hears_14 : decode cX4_hears 14 = .ok (.iload_n 1, 1) := by decide +kernel
theorem dX4_hears_15 : decode cX4_hears 15 = .ok (.invokevirtual 73, 3) := by decide +kernel
theorem dX4_hears_18 : decode cX4_hears 18 = .ok (.if_icmp .lt 13, 3) := by decide +kernel
theorem dX4_hears_21 : decode cX4_hears 21 = .ok (.new 106, 3) := by decide +kernel
theorem dX4_hears_24 : decode cX4_hears 24 = .ok (.dup, 1) := by decide +kernel
theorem dX4_hears_25 : decode cX4_hears 25 = .ok (.ldc 108, 2) := by decide +kernel
theorem dX4_hears_27 : decode cX4_hears 27 = .ok (.invokespecial 110, 3) := by decide +kernel
theorem dX4_hears_30 : decode cX4_hears 30 = .ok (.athrow, 1) := by decide +kernel
theorem dX4_hears_31 : decode cX4_hears 31 = .ok (.aload_n 0, 1) := by decide +kernel
theorem dX4_hears_32 : decode cX4_hears 32 = .ok (.getfield 10, 3) := by decide +kernel
theorem dX4_hears_35 : decode cX4_hears 35 = .ok (.iload_n 1, 1) := by decide +kernel
theorem dX4_hears_36 : decode cX4_hears 36 = .ok (.iload_n 2, 1) := by decide +kernel
theorem dX4_hears_37 : decode cX4_hears 37 = .ok (.invokevirtual 111, 3) := by decide +kernel
theorem dX4_hears_40 : decode cX4_hears 40 = .ok (.ireturn, 1) := by decide +kernel
set_option maxRecDepth 20000 in
theorem ggX4_votes_X4_needWord : GoodIn wsX4_votes wsX4_needWord := goodIn_ca (goodIn_r _ [5, 6, 7, 8, 9, 4, 10] (by decide +kernel) (by decide +kernel)) (goodIn_sub (fun _ h => List.mem_cons_of_mem _ (List.mem_append_right _ h)) (by decide +kernel))
set_option maxRecDepth 20000 in
theorem gX4_votes_X4_needWord : GoodIn wsX4_votes (va_wsS RX4 88 yX4_needWord wsX4_needWord) := goodIn_app (goodIn_of _ (by decide +kernel)) ggX4_votes_X4_needWord
set_option maxRecDepth 20000 in
theorem ggX4_votes_X4_votesIn : GoodIn wsX4_votes wsX4_votesIn := goodIn_r _ [14, 15, 16, 17, 18, 19, 20, 21, 22, 23, 24, 25, 26, 27, 28, 29, 30, 31, 32, 33, 34, 35, 36, 37, 38, 39, 40, 41, 42, 43, 44, 45, 46, 47, 48, 49, 50, 51, 52, 53, 54, 55, 56, 57, 58] (by decide +kernel) (by decide +kernel)
set_option maxRecDepth 20000 in
theorem gX4_votes_X4_votesIn : GoodIn wsX4_votes (wsV RX4 114 RX4 yX4_votesIn wsX4_votesIn) := goodIn_app (goodIn_of _ (by decide +kernel)) ggX4_votes_X4_votesIn
theorem dX4_votes_0 : decode cX4_votes 0 = .ok (.iload_n 1, 1) := by decide +kernel
theorem dX4_votes_1 : decode cX4_votes 1 = .ok (.invokestatic 88, 3) := by decide +kernel
theorem dX4_votes_4 : decode cX4_votes 4 = .ok (.aload_n 0, 1) := by decide +kernel
theorem dX4_votes_5 : decode cX4_votes 5 = .ok (.aload_n 0, 1) := by decide +kernel
theorem dX4_votes_6 : decode cX4_votes 6 = .ok (.getfield 19, 3) := by decide +kernel
theorem dX4_votes_9 : decode cX4_votes 9 = .ok (.iload_n 1, 1) := by decide +kernel
theorem dX4_votes_10 : decode cX4_votes 10 = .ok (.invokevirtual 114, 3) := by decide +kernel
theorem dX4_votes_13 : decode cX4_votes 13 = .ok (.ireturn, 1) := by decide +kernel
set_option maxRecDepth 20000 in
theorem ggX4_verdict_X2_size : GoodIn wsX4_verdict wsX2_size := goodIn_r _ [7, 8, 37, 38, 39, 40, 41] (by decide +kernel) (by decide +kernel)
set_option maxRecDepth 20000 in
theorem gX4_verdict_X2_size : GoodIn wsX4_verdict (wsV RX4 44 RX2 yX2_size wsX2_size) := goodIn_app (goodIn_of _ (by decide +kernel)) ggX4_verdict_X2_size
set_option maxRecDepth 20000 in
theorem ggX4_verdict_X3_word : GoodIn wsX4_verdict wsX3_word := goodIn_r _ [13, 14, 15, 16, 17, 18, 19, 20, 21, 22, 23, 24, 25, 26, 27, 42, 43, 44, 45, 46, 47, 48, 49, 50] (by decide +kernel) (by decide +kernel)
set_option maxRecDepth 20000 in
theorem gX4_verdict_X3_word : GoodIn wsX4_verdict (wsV RX4 93 RX3 yX3_word wsX3_word) := goodIn_app (goodIn_of _ (by decide +kernel)) ggX4_verdict_X3_word
set_option maxRecDepth 20000 in
theorem ggX4_verdict_X4_votesIn : GoodIn wsX4_verdict wsX4_votesIn := goodIn_r _ [32, 1, 3, 4, 5, 6, 7, 8, 9, 10, 11, 12, 13, 14, 15, 16, 17, 18, 19, 20, 21, 22, 23, 24, 25, 26, 27, 33, 34, 35, 36, 37, 38, 39, 40, 41, 42, 43, 44, 45, 46, 47, 48, 49, 50] (by decide +kernel) (by decide +kernel)
set_option maxRecDepth 20000 in
theorem gX4_verdict_X4_votesIn : GoodIn wsX4_verdict (wsV RX4 114 RX4 yX4_votesIn wsX4_votesIn) := goodIn_app (goodIn_of _ (by decide +kernel)) ggX4_verdict_X4_votesIn
theorem dX4_verdict_0 : decode cX4_verdict 0 = .ok (.aload_n 0, 1) := by decide +kernel
theorem dX4_verdict_1 : decode cX4_verdict 1 = .ok (.getfield 10, 3) := by decide +kernel
theorem dX4_verdict_4 : decode cX4_verdict 4 = .ok (.invokevirtual 44, 3) := by decide +kernel
theorem dX4_verdict_7 : decode cX4_verdict 7 = .ok (.istore_n 1, 1) := by decide +kernel
theorem dX4_verdict_8 : decode cX4_verdict 8 = .ok (.iconst (-1), 1) := by decide +kernel
theorem dX4_verdict_9 : decode cX4_verdict 9 = .ok (.istore_n 2, 1) := by decide +kernel
theorem dX4_verdict_10 : decode cX4_verdict 10 = .ok (.iconst 0, 1) := by decide +kernel
theorem dX4_verdict_11 : decode cX4_verdict 11 = .ok (.istore_n 3, 1) := by decide +kernel
theorem dX4_verdict_12 : decode cX4_verdict 12 = .ok (.iconst 0, 1) := by decide +kernel
theorem dX4_verdict_13 : decode cX4_verdict 13 = .ok (.istore 4, 2) := by decide +kernel
theorem dX4_verdict_15 : decode cX4_verdict 15 = .ok (.iload 4, 2) := by decide +kernel
theorem dX4_verdict_17 : decode cX4_verdict 17 = .ok (.iload_n 1, 1) := by decide +kernel
theorem dX4_verdict_18 : decode cX4_verdict 18 = .ok (.if_icmp .ge 44, 3) := by decide +kernel
theorem dX4_verdict_21 : decode cX4_verdict 21 = .ok (.aload_n 0, 1) := by decide +kernel
theorem dX4_verdict_22 : decode cX4_verdict 22 = .ok (.getfield 19, 3) := by decide +kernel
theorem dX4_verdict_25 : decode cX4_verdict 25 = .ok (.iload 4, 2) := by decide +kernel
theorem dX4_verdict_27 : decode cX4_verdict 27 = .ok (.invokevirtual 93, 3) := by decide +kernel
theorem dX4_verdict_30 : decode cX4_verdict 30 = .ok (.istore 5, 2) := by decide +kernel
theorem dX4_verdict_32 : decode cX4_verdict 32 = .ok (.aload_n 0, 1) := by decide +kernel
theorem dX4_verdict_33 : decode cX4_verdict 33 = .ok (.aload_n 0, 1) := by decide +kernel
theorem dX4_verdict_34 : decode cX4_verdict 34 = .ok (.getfield 19, 3) := by decide +kernel
theorem dX4_verdict_37 : decode cX4_verdict 37 = .ok (.iload 5, 2) := by decide +kernel
theorem dX4_verdict_39 : decode cX4_verdict 39 = .ok (.invokevirtual 114, 3) := by decide +kernel
theorem dX4_verdict_42 : decode cX4_verdict 42 = .ok (.istore 6, 2) := by decide +kernel
theorem dX4_verdict_44 : decode cX4_verdict 44 = .ok (.iload 6, 2) := by decide +kernel
theorem dX4_verdict_46 : decode cX4_verdict 46 = .ok (.iload_n 3, 1) := by decide +kernel
theorem dX4_verdict_47 : decode cX4_verdict 47 = .ok (.if_icmp .le 9, 3) := by decide +kernel
theorem dX4_verdict_50 : decode cX4_verdict 50 = .ok (.iload 6, 2) := by decide +kernel
theorem dX4_verdict_52 : decode cX4_verdict 52 = .ok (.istore_n 3, 1) := by decide +kernel
theorem dX4_verdict_53 : decode cX4_verdict 53 = .ok (.iload 5, 2) := by decide +kernel
theorem dX4_verdict_55 : decode cX4_verdict 55 = .ok (.istore_n 2, 1) := by decide +kernel
theorem dX4_verdict_56 : decode cX4_verdict 56 = .ok (.iinc 4 1, 3) := by decide +kernel
theorem dX4_verdict_59 : decode cX4_verdict 59 = .ok (.goto (-44), 3) := by decide +kernel
theorem dX4_verdict_62 : decode cX4_verdict 62 = .ok (.iload_n 2, 1) := by decide +kernel
theorem dX4_verdict_63 : decode cX4_verdict 63 = .ok (.ireturn, 1) := by decide +kernel
set_option maxRecDepth 20000 in
theorem ggX4_left_X4_needWord : GoodIn wsX4_left wsX4_needWord := goodIn_ca (goodIn_r _ [6, 7, 8, 9, 10, 5, 11] (by decide +kernel) (by decide +kernel)) (goodIn_sub (fun _ h => List.mem_cons_of_mem _ (List.mem_append_right _ h)) (by decide +kernel))
set_option maxRecDepth 20000 in
theorem gX4_left_X4_needWord : GoodIn wsX4_left (va_wsS RX4 88 yX4_needWord wsX4_needWord) := goodIn_app (goodIn_of _ (by decide +kernel)) ggX4_left_X4_needWord
set_option maxRecDepth 20000 in
theorem ggX4_left_X2_size : GoodIn wsX4_left wsX2_size := goodIn_r _ [16, 17, 41, 42, 43, 44, 45] (by decide +kernel) (by decide +kernel)
set_option maxRecDepth 20000 in
theorem gX4_left_X2_size : GoodIn wsX4_left (wsV RX4 44 RX2 yX2_size wsX2_size) := goodIn_app (goodIn_of _ (by decide +kernel)) ggX4_left_X2_size
set_option maxRecDepth 20000 in
theorem ggX4_left_X3_halves : GoodIn wsX4_left wsX3_halves := goodIn_r _ [22, 23, 24, 46, 47, 48, 49, 50] (by decide +kernel) (by decide +kernel)
set_option maxRecDepth 20000 in
theorem gX4_left_X3_halves : GoodIn wsX4_left (wsV RX4 118 RX3 yX3_halves wsX3_halves) := goodIn_app (goodIn_of _ (by decide +kernel)) ggX4_left_X3_halves
set_option maxRecDepth 20000 in
theorem ggX4_left_X0_value : GoodIn wsX4_left wsX0_value := goodIn_r _ [29, 30, 31, 32, 33, 34, 35, 36, 51, 52, 53, 54] (by decide +kernel) (by decide +kernel)
set_option maxRecDepth 20000 in
theorem gX4_left_X0_value : GoodIn wsX4_left (wsV RX4 122 RX0 yX0_value wsX0_value) := goodIn_app (goodIn_of _ (by decide +kernel)) ggX4_left_X0_value
theorem dX4_left_0 : decode cX4_left 0 = .ok (.iload_n 1, 1) := by decide +kernel
theorem dX4_left_1 : decode cX4_left 1 = .ok (.invokestatic 88, 3) := by decide +kernel
theorem dX4_left_4 : decode cX4_left 4 = .ok (.aload_n 0, 1) := by decide +kernel
theorem dX4_left_5 : decode cX4_left 5 = .ok (.getfield 10, 3) := by decide +kernel
theorem dX4_left_8 : decode cX4_left 8 = .ok (.invokevirtual 44, 3) := by decide +kernel
theorem dX4_left_11 : decode cX4_left 11 = .ok (.istore_n 2, 1) := by decide +kernel
theorem dX4_left_12 : decode cX4_left 12 = .ok (.iconst 0, 1) := by decide +kernel
theorem dX4_left_13 : decode cX4_left 13 = .ok (.istore_n 3, 1) := by decide +kernel
theorem dX4_left_14 : decode cX4_left 14 = .ok (.iconst 0, 1) := by decide +kernel
theorem dX4_left_15 : decode cX4_left 15 = .ok (.istore 4, 2) := by decide +kernel
theorem dX4_left_17 : decode cX4_left 17 = .ok (.iload 4, 2) := by decide +kernel
theorem dX4_left_19 : decode cX4_left 19 = .ok (.iload_n 2, 1) := by decide +kernel
theorem dX4_left_20 : decode cX4_left 20 = .ok (.if_icmp .ge 55, 3) := by decide +kernel
theorem dX4_left_23 : decode cX4_left 23 = .ok (.aload_n 0, 1) := by decide +kernel
theorem dX4_left_24 : decode cX4_left 24 = .ok (.getfield 19, 3) := by decide +kernel
theorem dX4_left_27 : decode cX4_left 27 = .ok (.iconst 0, 1) := by decide +kernel
theorem dX4_left_28 : decode cX4_left 28 = .ok (.invokevirtual 118, 3) := by decide +kernel
theorem dX4_left_31 : decode cX4_left 31 = .ok (.iload 4, 2) := by decide +kernel
theorem dX4_left_33 : decode cX4_left 33 = .ok (.invokevirtual 122, 3) := by decide +kernel
theorem dX4_left_36 : decode cX4_left 36 = .ok (.iload_n 1, 1) := by decide +kernel
theorem dX4_left_37 : decode cX4_left 37 = .ok (.bipush 100, 2) := by decide +kernel
theorem dX4_left_39 : decode cX4_left 39 = .ok (.idiv, 1) := by decide +kernel
theorem dX4_left_40 : decode cX4_left 40 = .ok (.if_icmp .ne 6, 3) := by decide +kernel
theorem dX4_left_43 : decode cX4_left 43 = .ok (.iinc 3 1, 3) := by decide +kernel
theorem dX4_left_46 : decode cX4_left 46 = .ok (.aload_n 0, 1) := by decide +kernel
theorem dX4_left_47 : decode cX4_left 47 = .ok (.getfield 19, 3) := by decide +kernel
theorem dX4_left_50 : decode cX4_left 50 = .ok (.iconst 1, 1) := by decide +kernel
theorem dX4_left_51 : decode cX4_left 51 = .ok (.invokevirtual 118, 3) := by decide +kernel
theorem dX4_left_54 : decode cX4_left 54 = .ok (.iload 4, 2) := by decide +kernel
theorem dX4_left_56 : decode cX4_left 56 = .ok (.invokevirtual 122, 3) := by decide +kernel
theorem dX4_left_59 : decode cX4_left 59 = .ok (.iload_n 1, 1) := by decide +kernel
theorem dX4_left_60 : decode cX4_left 60 = .ok (.bipush 100, 2) := by decide +kernel
theorem dX4_left_62 : decode cX4_left 62 = .ok (.irem, 1) := by decide +kernel
theorem dX4_left_63 : decode cX4_left 63 = .ok (.if_icmp .ne 6, 3) := by decide +kernel
theorem dX4_left_66 : decode cX4_left 66 = .ok (.iinc 3 1, 3) := by decide +kernel
theorem dX4_left_69 : decode cX4_left 69 = .ok (.iinc 4 1, 3) := by decide +kernel
theorem dX4_left_72 : decode cX4_left 72 = .ok (.goto (-55), 3) := by decide +kernel
theorem dX4_left_75 : decode cX4_left 75 = .ok (.iload_n 3, 1) := by decide +kernel
theorem dX4_left_76 : decode cX4_left 76 = .ok (.ireturn, 1) := by decide +kernel
set_option maxRecDepth 20000 in
theorem ggX4_count_X4_needWhat : GoodIn wsX4_count wsX4_needWhat := goodIn_ca (goodIn_r _ [4, 5, 6, 7, 8, 3, 9] (by decide +kernel) (by decide +kernel)) (goodIn_sub (fun _ h => List.mem_cons_of_mem _ (List.mem_append_right _ h)) (by decide +kernel))
set_option maxRecDepth 20000 in
theorem gX4_count_X4_needWhat : GoodIn wsX4_count (va_wsS RX4 96 yX4_needWhat wsX4_needWhat) := goodIn_app (goodIn_of _ (by decide +kernel)) ggX4_count_X4_needWhat
set_option maxRecDepth 20000 in
theorem ggX4_count_X4_tellOfJury : GoodIn wsX4_count wsX4_tellOfJury := goodIn_r _ [13, 14, 15, 16, 17, 18, 19, 20, 21, 22, 23, 24, 25, 26, 27, 28, 29, 30, 3, 31, 32, 33, 34, 35, 36, 37, 38, 39, 40, 41, 42, 43, 44, 45, 46, 47, 48, 49, 50, 51, 52, 53, 54, 55, 56, 57, 58, 59, 60, 61, 62, 63, 64, 65, 66, 67, 68, 69, 70, 71, 72, 73, 74, 75, 76, 77, 78, 79, 80, 81, 82, 83, 84, 85, 86, 87, 88, 89, 90, 91, 92, 93, 94, 95, 96, 97, 98, 99] (by decide +kernel) (by decide +kernel)
set_option maxRecDepth 20000 in
theorem gX4_count_X4_tellOfJury : GoodIn wsX4_count (wsV RX4 127 RX4 yX4_tellOfJury wsX4_tellOfJury) := goodIn_app (goodIn_of _ (by decide +kernel)) ggX4_count_X4_tellOfJury
theorem dX4_count_0 : decode cX4_count 0 = .ok (.iload_n 1, 1) := by decide +kernel
theorem dX4_count_1 : decode cX4_count 1 = .ok (.iconst 5, 1) := by decide +kernel
theorem dX4_count_2 : decode cX4_count 2 = .ok (.invokestatic 96, 3) := by decide +kernel
theorem dX4_count_5 : decode cX4_count 5 = .ok (.aload_n 0, 1) := by decide +kernel
theorem dX4_count_6 : decode cX4_count 6 = .ok (.iload_n 1, 1) := by decide +kernel
theorem dX4_count_7 : decode cX4_count 7 = .ok (.invokevirtual 127, 3) := by decide +kernel
theorem dX4_count_10 : decode cX4_count 10 = .ok (.ireturn, 1) := by decide +kernel
set_option maxRecDepth 20000 in
theorem ggX4_pass_X4_needRounds : GoodIn wsX4_pass wsX4_needRounds := goodIn_ca (goodIn_r _ [7, 8, 9, 10, 11, 6, 12] (by decide +kernel) (by decide +kernel)) (goodIn_sub (fun _ h => List.mem_cons_of_mem _ (List.mem_append_right _ h)) (by decide +kernel))
set_option maxRecDepth 20000 in
theorem gX4_pass_X4_needRounds : GoodIn wsX4_pass (va_wsS RX4 130 yX4_needRounds wsX4_needRounds) := goodIn_app (goodIn_of _ (by decide +kernel)) ggX4_pass_X4_needRounds
set_option maxRecDepth 20000 in
theorem ggX4_pass_X3_taken : GoodIn wsX4_pass wsX3_taken := goodIn_r _ [17, 18, 128, 129, 130, 131, 132] (by decide +kernel) (by decide +kernel)
set_option maxRecDepth 20000 in
theorem gX4_pass_X3_taken : GoodIn wsX4_pass (wsV RX4 133 RX3 yX3_taken wsX3_taken) := goodIn_app (goodIn_of _ (by decide +kernel)) ggX4_pass_X3_taken
set_option maxRecDepth 20000 in
theorem ggX4_pass_X3_goRounds : GoodIn wsX4_pass wsX3_goRounds := goodIn_r _ [22, 23, 24, 25, 26, 16, 27, 18, 28, 29, 30, 31, 32, 33, 34, 35, 36, 37, 38, 39, 40, 41, 42, 43, 44, 45, 46, 47, 48, 49, 50, 51, 52, 53, 54, 55, 56, 57, 58, 59, 60, 61, 62, 63, 64, 65, 66, 67, 68, 69, 70, 71, 72, 73, 74, 75, 76, 77, 78, 79, 80, 81, 82, 83, 84, 85, 86, 87, 88, 89, 90, 91, 92, 93, 94, 95, 96, 97, 98, 99, 100, 101, 102, 103, 104, 105, 106, 107, 108, 109, 110, 111, 112, 113, 114, 115, 116, 117, 118, 119, 120, 121, 122, 123, 128, 129, 130, 131, 132, 133, 134, 135, 136, 137, 138, 139, 140, 141] (by decide +kernel) (by decide +kernel)
set_option maxRecDepth 20000 in
theorem gX4_pass_X3_goRounds : GoodIn wsX4_pass (wsV RX4 136 RX3 yX3_goRounds wsX3_goRounds) := goodIn_app (goodIn_of _ (by decide +kernel)) ggX4_pass_X3_goRounds
theorem dX4_pass_0 : decode cX4_pass 0 = .ok (.iload_n 1, 1) := by decide +kernel
theorem dX4_pass_1 : decode cX4_pass 1 = .ok (.sipush 200, 3) := by decide +kernel
theorem dX4_pass_4 : decode cX4_pass 4 = .ok (.invokestatic 130, 3) := by decide +kernel
theorem dX4_pass_7 : decode cX4_pass 7 = .ok (.aload_n 0, 1) := by decide +kernel
theorem dX4_pass_8 : decode cX4_pass 8 = .ok (.getfield 19, 3) := by decide +kernel
theorem dX4_pass_11 : decode cX4_pass 11 = .ok (.invokevirtual 133, 3) := by decide +kernel
theorem dX4_pass_14 : decode cX4_pass 14 = .ok (.istore_n 2, 1) := by decide +kernel
theorem dX4_pass_15 : decode cX4_pass 15 = .ok (.aload_n 0, 1) := by decide +kernel
theorem dX4_pass_16 : decode cX4_pass 16 = .ok (.getfield 19, 3) := by decide +kernel
theorem dX4_pass_19 : decode cX4_pass 19 = .ok (.aload_n 0, 1) := by decide +kernel
theorem dX4_pass_20 : decode cX4_pass 20 = .ok (.getfield 10, 3) := by decide +kernel
theorem dX4_pass_23 : decode cX4_pass 23 = .ok (.aload_n 0, 1) := by decide +kernel
theorem dX4_pass_24 : decode cX4_pass 24 = .ok (.getfield 26, 3) := by decide +kernel
theorem dX4_pass_27 : decode cX4_pass 27 = .ok (.iload_n 1, 1) := by decide +kernel
theorem dX4_pass_28 : decode cX4_pass 28 = .ok (.invokevirtual 136, 3) := by decide +kernel
theorem dX4_pass_31 : decode cX4_pass 31 = .ok (.aload_n 0, 1) := by decide +kernel
theorem dX4_pass_32 : decode cX4_pass 32 = .ok (.getfield 19, 3) := by decide +kernel
theorem dX4_pass_35 : decode cX4_pass 35 = .ok (.invokevirtual 133, 3) := by decide +kernel
theorem dX4_pass_38 : decode cX4_pass 38 = .ok (.iload_n 2, 1) := by decide +kernel
theorem dX4_pass_39 : decode cX4_pass 39 = .ok (.isub, 1) := by decide +kernel
theorem dX4_pass_40 : decode cX4_pass 40 = .ok (.ireturn, 1) := by decide +kernel
set_option maxRecDepth 20000 in
theorem ggX4_agrees_X3_copyFrom : GoodIn wsX4_agrees wsX3_copyFrom := goodIn_r _ [9, 10, 11, 12, 13, 14, 15, 16, 17, 18, 19, 20, 21, 22, 23, 24, 25, 26, 27, 28, 29, 30, 31, 32, 33, 34, 35, 36, 37, 128, 129, 130, 131, 132, 133, 134, 135, 136] (by decide +kernel) (by decide +kernel)
set_option maxRecDepth 20000 in
theorem gX4_agrees_X3_copyFrom : GoodIn wsX4_agrees (wsV RX4 140 RX3 yX3_copyFrom wsX3_copyFrom) := goodIn_app (goodIn_of _ (by decide +kernel)) ggX4_agrees_X3_copyFrom
set_option maxRecDepth 20000 in
theorem ggX4_agrees_X4_sayTheSame : GoodIn wsX4_agrees wsX4_sayTheSame := goodIn_r _ [42, 3, 43, 44, 45, 46, 47, 48, 49, 50, 51, 8, 52, 13, 14, 53, 54, 55, 32, 56, 34, 57, 58, 59, 18, 60, 20, 61, 62, 63, 41, 64, 124, 125, 126, 127, 137, 138, 139, 140, 141, 128, 129, 130, 131, 132, 134, 135, 136, 133] (by decide +kernel) (by decide +kernel)
set_option maxRecDepth 20000 in
theorem gX4_agrees_X4_sayTheSame : GoodIn wsX4_agrees (wsV RX4 144 RX4 yX4_sayTheSame wsX4_sayTheSame) := goodIn_app (goodIn_of _ (by decide +kernel)) ggX4_agrees_X4_sayTheSame
set_option maxRecDepth 20000 in
theorem ggX4_agrees_X3_goRounds : GoodIn wsX4_agrees wsX3_goRounds := goodIn_r _ [68, 10, 69, 6, 7, 8, 9, 11, 12, 13, 14, 15, 16, 17, 18, 19, 20, 21, 22, 23, 24, 25, 26, 27, 28, 29, 30, 31, 32, 33, 34, 35, 36, 37, 70, 71, 72, 73, 74, 44, 45, 46, 47, 48, 75, 76, 77, 78, 79, 80, 81, 58, 59, 60, 82, 83, 84, 85, 86, 87, 88, 89, 90, 91, 92, 93, 94, 95, 96, 97, 50, 51, 52, 53, 54, 55, 56, 57, 98, 99, 100, 101, 102, 103, 104, 105, 106, 107, 108, 109, 110, 111, 112, 113, 114, 115, 116, 117, 118, 119, 120, 121, 122, 123, 128, 129, 130, 131, 132, 133, 134, 135, 136, 137, 138, 139, 140, 141] (by decide +kernel) (by decide +kernel)
set_option maxRecDepth 20000 in
theorem gX4_agrees_X3_goRounds : GoodIn wsX4_agrees (wsV RX4 136 RX3 yX3_goRounds wsX3_goRounds) := goodIn_app (goodIn_of _ (by decide +kernel)) ggX4_agrees_X3_goRounds
theorem dX4_agrees_0 : decode cX4_agrees 0 = .ok (.aload_n 0, 1) := by decide +kernel
theorem dX4_agrees_1 : decode cX4_agrees 1 = .ok (.getfield 23, 3) := by decide +kernel
theorem dX4_agrees_4 : decode cX4_agrees 4 = .ok (.aload_n 0, 1) := by decide +kernel
theorem dX4_agrees_5 : decode cX4_agrees 5 = .ok (.getfield 19, 3) := by decide +kernel
theorem dX4_agrees_8 : decode cX4_agrees 8 = .ok (.invokevirtual 140, 3) := by decide +kernel
theorem dX4_agrees_11 : decode cX4_agrees 11 = .ok (.iconst 0, 1) := by decide +kernel
theorem dX4_agrees_12 : decode cX4_agrees 12 = .ok (.istore_n 1, 1) := by decide +kernel
theorem dX4_agrees_13 : decode cX4_agrees 13 = .ok (.iload_n 1, 1) := by decide +kernel
theorem dX4_agrees_14 : decode cX4_agrees 14 = .ok (.sipush 200, 3) := by decide +kernel
theorem dX4_agrees_17 : decode cX4_agrees 17 = .ok (.if_icmp .gt 38, 3) := by decide +kernel
theorem dX4_agrees_20 : decode cX4_agrees 20 = .ok (.aload_n 0, 1) := by decide +kernel
theorem dX4_agrees_21 : decode cX4_agrees 21 = .ok (.aload_n 0, 1) := by decide +kernel
theorem dX4_agrees_22 : decode cX4_agrees 22 = .ok (.getfield 23, 3) := by decide +kernel
theorem dX4_agrees_25 : decode cX4_agrees 25 = .ok (.invokevirtual 144, 3) := by decide +kernel
theorem dX4_agrees_28 : decode cX4_agrees 28 = .ok (.ifCond .eq 5, 3) := by decide +kernel
theorem dX4_agrees_31 : decode cX4_agrees 31 = .ok (.iload_n 1, 1) := by decide +kernel
theorem dX4_agrees_32 : decode cX4_agrees 32 = .ok (.ireturn, 1) := by decide +kernel
theorem dX4_agrees_33 : decode cX4_agrees 33 = .ok (.aload_n 0, 1) := by decide +kernel
theorem dX4_agrees_34 : decode cX4_agrees 34 = .ok (.getfield 23, 3) := by decide +kernel
theorem dX4_agrees_37 : decode cX4_agrees 37 = .ok (.aload_n 0, 1) := by decide +kernel
theorem dX4_agrees_38 : decode cX4_agrees 38 = .ok (.getfield 10, 3) := by decide +kernel
theorem dX4_agrees_41 : decode cX4_agrees 41 = .ok (.aload_n 0, 1) := by decide +kernel
theorem dX4_agrees_42 : decode cX4_agrees 42 = .ok (.getfield 26, 3) := by decide +kernel
theorem dX4_agrees_45 : decode cX4_agrees 45 = .ok (.iconst 1, 1) := by decide +kernel
theorem dX4_agrees_46 : decode cX4_agrees 46 = .ok (.invokevirtual 136, 3) := by decide +kernel
theorem dX4_agrees_49 : decode cX4_agrees 49 = .ok (.iinc 1 1, 3) := by decide +kernel
theorem dX4_agrees_52 : decode cX4_agrees 52 = .ok (.goto (-39), 3) := by decide +kernel
theorem dX4_agrees_55 : decode cX4_agrees 55 = .ok (.iconst (-1), 1) := by decide +kernel
theorem dX4_agrees_56 : decode cX4_agrees 56 = .ok (.ireturn, 1) := by decide +kernel
set_option maxRecDepth 20000 in
theorem ggX4_foresee_X4_needRounds : GoodIn wsX4_foresee wsX4_needRounds := goodIn_ca (goodIn_r _ [8, 9, 10, 11, 12, 7, 13] (by decide +kernel) (by decide +kernel)) (goodIn_sub (fun _ h => List.mem_cons_of_mem _ (List.mem_append_left _ (List.mem_append_right _ h))) (by decide +kernel))
set_option maxRecDepth 20000 in
theorem gX4_foresee_X4_needRounds : GoodIn wsX4_foresee (va_wsS RX4 130 yX4_needRounds wsX4_needRounds) := goodIn_app (goodIn_of _ (by decide +kernel)) ggX4_foresee_X4_needRounds
set_option maxRecDepth 20000 in
theorem ggX4_foresee_X4_needParrot : GoodIn wsX4_foresee wsX4_needParrot := goodIn_ca (goodIn_r _ [17, 18, 19, 3, 20, 21, 22, 23, 24, 25, 130, 131, 132, 133, 134, 135, 136, 137, 138] (by decide +kernel) (by decide +kernel)) (goodIn_sub (fun _ h => List.mem_cons_of_mem _ (List.mem_append_right _ h)) (by decide +kernel))
set_option maxRecDepth 20000 in
theorem gX4_foresee_X4_needParrot : GoodIn wsX4_foresee (wsV RX4 61 RX4 yX4_needParrot wsX4_needParrot) := goodIn_app (goodIn_of _ (by decide +kernel)) ggX4_foresee_X4_needParrot
set_option maxRecDepth 20000 in
theorem ggX4_foresee_X3_copyFrom : GoodIn wsX4_foresee wsX3_copyFrom := goodIn_r _ [30, 31, 32, 33, 34, 35, 36, 37, 38, 39, 40, 41, 42, 43, 44, 45, 46, 47, 48, 49, 50, 51, 52, 53, 54, 55, 56, 57, 58, 139, 140, 141, 142, 143, 144, 145, 146, 147] (by decide +kernel) (by decide +kernel)
set_option maxRecDepth 20000 in
theorem gX4_foresee_X3_copyFrom : GoodIn wsX4_foresee (wsV RX4 140 RX3 yX3_copyFrom wsX3_copyFrom) := goodIn_app (goodIn_of _ (by decide +kernel)) ggX4_foresee_X3_copyFrom
set_option maxRecDepth 20000 in
theorem ggX4_foresee_X3_goRounds : GoodIn wsX4_foresee wsX3_goRounds := goodIn_r _ [62, 31, 63, 27, 28, 29, 30, 32, 33, 34, 35, 36, 37, 38, 39, 40, 41, 42, 43, 44, 45, 46, 47, 48, 49, 50, 51, 52, 53, 54, 55, 56, 57, 58, 64, 65, 66, 67, 68, 21, 22, 23, 24, 25, 69, 70, 71, 72, 73, 74, 75, 76, 77, 78, 79, 80, 81, 82, 83, 84, 85, 86, 87, 88, 89, 90, 91, 92, 93, 94, 95, 96, 97, 98, 99, 100, 101, 102, 103, 104, 105, 106, 107, 108, 109, 110, 111, 112, 113, 114, 115, 116, 117, 118, 119, 120, 121, 122, 123, 124, 125, 126, 127, 128, 139, 140, 141, 142, 143, 144, 145, 146, 147, 134, 135, 136, 137, 138] (by decide +kernel) (by decide +kernel)
set_option maxRecDepth 20000 in
theorem gX4_foresee_X3_goRounds : GoodIn wsX4_foresee (wsV RX4 136 RX3 yX3_goRounds wsX3_goRounds) := goodIn_app (goodIn_of _ (by decide +kernel)) ggX4_foresee_X3_goRounds
set_option maxRecDepth 20000 in
theorem ggX4_foresee_X3_word : GoodIn wsX4_foresee wsX3_word := goodIn_r _ [97, 34, 35, 98, 99, 100, 53, 101, 55, 102, 76, 77, 39, 78, 41, 139, 140, 141, 142, 143, 145, 146, 147, 144] (by decide +kernel) (by decide +kernel)
set_option maxRecDepth 20000 in
theorem gX4_foresee_X3_word : GoodIn wsX4_foresee (wsV RX4 93 RX3 yX3_word wsX3_word) := goodIn_app (goodIn_of _ (by decide +kernel)) ggX4_foresee_X3_word
theorem dX4_foresee_0 : decode cX4_foresee 0 = .ok (.iload_n 1, 1) := by decide +kernel
theorem dX4_foresee_1 : decode cX4_foresee 1 = .ok (.sipush 200, 3) := by decide +kernel
theorem dX4_foresee_4 : decode cX4_foresee 4 = .ok (.invokestatic 130, 3) := by decide +kernel
theorem dX4_foresee_7 : decode cX4_foresee 7 = .ok (.aload_n 0, 1) := by decide +kernel
theorem dX4_foresee_8 : decode cX4_foresee 8 = .ok (.iload_n 2, 1) := by decide +kernel
theorem dX4_foresee_9 : decode cX4_foresee 9 = .ok (.invokevirtual 61, 3) := by decide +kernel
theorem dX4_foresee_12 : decode cX4_foresee 12 = .ok (.aload_n 0, 1) := by decide +kernel
theorem dX4_foresee_13 : decode cX4_foresee 13 = .ok (.getfield 23, 3) := by decide +kernel
theorem dX4_foresee_16 : decode cX4_foresee 16 = .ok (.aload_n 0, 1) := by decide +kernel
theorem dX4_foresee_17 : decode cX4_foresee 17 = .ok (.getfield 19, 3) := by decide +kernel
theorem dX4_foresee_20 : decode cX4_foresee 20 = .ok (.invokevirtual 140, 3) := by decide +kernel
theorem dX4_foresee_23 : decode cX4_foresee 23 = .ok (.aload_n 0, 1) := by decide +kernel
theorem dX4_foresee_24 : decode cX4_foresee 24 = .ok (.getfield 23, 3) := by decide +kernel
theorem dX4_foresee_27 : decode cX4_foresee 27 = .ok (.aload_n 0, 1) := by decide +kernel
theorem dX4_foresee_28 : decode cX4_foresee 28 = .ok (.getfield 10, 3) := by decide +kernel
theorem dX4_foresee_31 : decode cX4_foresee 31 = .ok (.aload_n 0, 1) := by decide +kernel
theorem dX4_foresee_32 : decode cX4_foresee 32 = .ok (.getfield 26, 3) := by decide +kernel
theorem dX4_foresee_35 : decode cX4_foresee 35 = .ok (.iload_n 1, 1) := by decide +kernel
theorem dX4_foresee_36 : decode cX4_foresee 36 = .ok (.invokevirtual 136, 3) := by decide +kernel
theorem dX4_foresee_39 : decode cX4_foresee 39 = .ok (.aload_n 0, 1) := by decide +kernel
theorem dX4_foresee_40 : decode cX4_foresee 40 = .ok (.getfield 23, 3) := by decide +kernel
theorem dX4_foresee_43 : decode cX4_foresee 43 = .ok (.iload_n 2, 1) := by decide +kernel
theorem dX4_foresee_44 : decode cX4_foresee 44 = .ok (.invokevirtual 93, 3) := by decide +kernel
theorem dX4_foresee_47 : decode cX4_foresee 47 = .ok (.ireturn, 1) := by decide +kernel
set_option maxRecDepth 20000 in
theorem ggX4_advise_X4_needWord : GoodIn wsX4_advise wsX4_needWord := goodIn_ca (goodIn_r _ [5, 6, 7, 8, 9, 4, 10] (by decide +kernel) (by decide +kernel)) (goodIn_sub (fun _ h => List.mem_cons_of_mem _ (List.mem_append_right _ h)) (by decide +kernel))
set_option maxRecDepth 20000 in
theorem gX4_advise_X4_needWord : GoodIn wsX4_advise (va_wsS RX4 88 yX4_needWord wsX4_needWord) := goodIn_app (goodIn_of _ (by decide +kernel)) ggX4_advise_X4_needWord
set_option maxRecDepth 20000 in
theorem ggX4_advise_X4_needRounds : GoodIn wsX4_advise wsX4_needRounds := goodIn_ca (goodIn_r _ [13, 6, 7, 8, 9, 4, 10] (by decide +kernel) (by decide +kernel)) (goodIn_sub (fun _ h => List.mem_cons_of_mem _ (List.mem_append_right _ h)) (by decide +kernel))
set_option maxRecDepth 20000 in
theorem gX4_advise_X4_needRounds : GoodIn wsX4_advise (va_wsS RX4 130 yX4_needRounds wsX4_needRounds) := goodIn_app (goodIn_of _ (by decide +kernel)) ggX4_advise_X4_needRounds
set_option maxRecDepth 20000 in
theorem ggX4_advise_X2_size : GoodIn wsX4_advise wsX2_size := goodIn_r _ [18, 19, 147, 148, 149, 150, 151] (by decide +kernel) (by decide +kernel)
set_option maxRecDepth 20000 in
theorem gX4_advise_X2_size : GoodIn wsX4_advise (wsV RX4 44 RX2 yX2_size wsX2_size) := goodIn_app (goodIn_of _ (by decide +kernel)) ggX4_advise_X2_size
set_option maxRecDepth 20000 in
theorem ggX4_advise_X4_votesIfWhispered : GoodIn wsX4_advise wsX4_votesIfWhispered := goodIn_r _ [23, 24, 25, 1, 26, 27, 28, 29, 30, 31, 32, 33, 34, 35, 36, 37, 38, 39, 40, 41, 42, 43, 44, 45, 46, 47, 48, 49, 50, 51, 52, 53, 54, 55, 56, 57, 58, 59, 60, 61, 62, 63, 64, 65, 66, 67, 68, 69, 70, 71, 72, 73, 74, 75, 76, 77, 78, 79, 80, 81, 82, 15, 16, 17, 18, 19, 83, 84, 85, 86, 87, 88, 89, 90, 91, 92, 93, 94, 95, 96, 97, 98, 99, 100, 101, 102, 103, 104, 105, 106, 107, 108, 109, 110, 111, 112, 113, 114, 115, 116, 117, 118, 119, 120, 121, 122, 123, 124, 125, 126, 127, 128, 129, 130, 131, 132, 133, 134, 135, 136, 137, 138, 139, 140, 4, 141, 14, 142, 143, 144, 145, 146, 152, 153, 154, 155, 156, 157, 158, 159, 160, 147, 148, 149, 150, 151] (by decide +kernel) (by decide +kernel)
set_option maxRecDepth 20000 in
theorem gX4_advise_X4_votesIfWhispered : GoodIn wsX4_advise (wsV RX4 148 RX4 yX4_votesIfWhispered wsX4_votesIfWhispered) := goodIn_app (goodIn_of _ (by decide +kernel)) ggX4_advise_X4_votesIfWhispered
theorem dX4_advise_0 : decode cX4_advise 0 = .ok (.iload_n 1, 1) := by decide +kernel
theorem dX4_advise_1 : decode cX4_advise 1 = .ok (.invokestatic 88, 3) := by decide +kernel
theorem dX4_advise_4 : decode cX4_advise 4 = .ok (.iload_n 2, 1) := by decide +kernel
theorem dX4_advise_5 : decode cX4_advise 5 = .ok (.bipush 40, 2) := by decide +kernel
theorem dX4_advise_7 : decode cX4_advise 7 = .ok (.invokestatic 130, 3) := by decide +kernel
theorem dX4_advise_10 : decode cX4_advise 10 = .ok (.aload_n 0, 1) := by decide +kernel
theorem dX4_advise_11 : decode cX4_advise 11 = .ok (.getfield 10, 3) := by decide +kernel
theorem dX4_advise_14 : decode cX4_advise 14 = .ok (.invokevirtual 44, 3) := by decide +kernel
theorem dX4_advise_17 : decode cX4_advise 17 = .ok (.istore_n 3, 1) := by decide +kernel
theorem dX4_advise_18 : decode cX4_advise 18 = .ok (.iconst (-1), 1) := by decide +kernel
theorem dX4_advise_19 : decode cX4_advise 19 = .ok (.istore 4, 2) := by decide +kernel
theorem dX4_advise_21 : decode cX4_advise 21 = .ok (.iconst (-1), 1) := by decide +kernel
theorem dX4_advise_22 : decode cX4_advise 22 = .ok (.istore 5, 2) := by decide +kernel
theorem dX4_advise_24 : decode cX4_advise 24 = .ok (.iconst 0, 1) := by decide +kernel
theorem dX4_advise_25 : decode cX4_advise 25 = .ok (.istore 6, 2) := by decide +kernel
theorem dX4_advise_27 : decode cX4_advise 27 = .ok (.iload 6, 2) := by decide +kernel
theorem dX4_advise_29 : decode cX4_advise 29 = .ok (.iload_n 3, 1) := by decide +kernel
theorem dX4_advise_30 : decode cX4_advise 30 = .ok (.if_icmp .ge 34, 3) := by decide +kernel
theorem dX4_advise_33 : decode cX4_advise 33 = .ok (.aload_n 0, 1) := by decide +kernel
theorem dX4_advise_34 : decode cX4_advise 34 = .ok (.iload 6, 2) := by decide +kernel
theorem dX4_advise_36 : decode cX4_advise 36 = .ok (.iload_n 1, 1) := by decide +kernel
theorem dX4_advise_37 : decode cX4_advise 37 = .ok (.iload_n 2, 1) := by decide +kernel
theorem dX4_advise_38 : decode cX4_advise 38 = .ok (.invokevirtual 148, 3) := by decide +kernel
theorem dX4_advise_41 : decode cX4_advise 41 = .ok (.istore 7, 2) := by decide +kernel
theorem dX4_advise_43 : decode cX4_advise 43 = .ok (.iload 7, 2) := by decide +kernel
theorem dX4_advise_45 : decode cX4_advise 45 = .ok (.iload 5, 2) := by decide +kernel
theorem dX4_advise_47 : decode cX4_advise 47 = .ok (.if_icmp .le 11, 3) := by decide +kernel
theorem dX4_advise_50 : decode cX4_advise 50 = .ok (.iload 7, 2) := by decide +kernel
theorem dX4_advise_52 : decode cX4_advise 52 = .ok (.istore 5, 2) := by decide +kernel
theorem dX4_advise_54 : decode cX4_advise 54 = .ok (.iload 6, 2) := by decide +kernel
theorem dX4_advise_56 : decode cX4_advise 56 = .ok (.istore 4, 2) := by decide +kernel
theorem dX4_advise_58 : decode cX4_advise 58 = .ok (.iinc 6 1, 3) := by decide +kernel
theorem dX4_advise_61 : decode cX4_advise 61 = .ok (.goto (-34), 3) := by decide +kernel
theorem dX4_advise_64 : decode cX4_advise 64 = .ok (.iload 4, 2) := by decide +kernel
theorem dX4_advise_66 : decode cX4_advise 66 = .ok (.ireturn, 1) := by decide +kernel
set_option maxRecDepth 20000 in
theorem ggX4_source_X4_needParrot : GoodIn wsX4_source wsX4_needParrot := goodIn_ca (goodIn_r _ [6, 7, 8, 1, 9, 10, 11, 12, 13, 14, 36, 37, 38, 39, 40, 41, 42, 43, 44] (by decide +kernel) (by decide +kernel)) (goodIn_sub (fun _ h => List.mem_cons_of_mem _ (List.mem_append_right _ h)) (by decide +kernel))
set_option maxRecDepth 20000 in
theorem gX4_source_X4_needParrot : GoodIn wsX4_source (wsV RX4 61 RX4 yX4_needParrot wsX4_needParrot) := goodIn_app (goodIn_of _ (by decide +kernel)) ggX4_source_X4_needParrot
set_option maxRecDepth 20000 in
theorem ggX4_source_X2_othersAsSet : GoodIn wsX4_source wsX2_othersAsSet := goodIn_r _ [18, 19, 20, 21, 22, 23, 24, 25, 26, 27, 28, 12, 29, 30, 40, 41, 42, 43, 44, 45] (by decide +kernel) (by decide +kernel)
set_option maxRecDepth 20000 in
theorem gX4_source_X2_othersAsSet : GoodIn wsX4_source (wsV RX4 152 RX2 yX2_othersAsSet wsX2_othersAsSet) := goodIn_app (goodIn_of _ (by decide +kernel)) ggX4_source_X2_othersAsSet
set_option maxRecDepth 20000 in
theorem ggX4_source_X2_othersOfAll : GoodIn wsX4_source wsX2_othersOfAll := goodIn_r _ [34, 14, 35, 16, 17, 12, 18, 19, 20, 21, 22, 23, 24, 25, 26, 27, 28, 29, 30, 40, 41, 42, 43, 44, 45] (by decide +kernel) (by decide +kernel)
set_option maxRecDepth 20000 in
theorem gX4_source_X2_othersOfAll : GoodIn wsX4_source (wsV RX4 155 RX2 yX2_othersOfAll wsX2_othersOfAll) := goodIn_app (goodIn_of _ (by decide +kernel)) ggX4_source_X2_othersOfAll
theorem dX4_source_0 : decode cX4_source 0 = .ok (.aload_n 0, 1) := by decide +kernel
theorem dX4_source_1 : decode cX4_source 1 = .ok (.iload_n 1, 1) := by decide +kernel
theorem dX4_source_2 : decode cX4_source 2 = .ok (.invokevirtual 61, 3) := by decide +kernel
theorem dX4_source_5 : decode cX4_source 5 = .ok (.aload_n 0, 1) := by decide +kernel
theorem dX4_source_6 : decode cX4_source 6 = .ok (.getfield 10, 3) := by decide +kernel
theorem dX4_source_9 : decode cX4_source 9 = .ok (.iload_n 1, 1) := by decide +kernel
theorem dX4_source_10 : decode cX4_source 10 = .ok (.invokevirtual 152, 3) := by decide +kernel
theorem dX4_source_13 : decode cX4_source 13 = .ok (.istore_n 2, 1) := by decide +kernel
theorem dX4_source_14 : decode cX4_source 14 = .ok (.iconst 0, 1) := by decide +kernel
theorem dX4_source_15 : decode cX4_source 15 = .ok (.istore_n 3, 1) := by decide +kernel
theorem dX4_source_16 : decode cX4_source 16 = .ok (.iload_n 3, 1) := by decide +kernel
theorem dX4_source_17 : decode cX4_source 17 = .ok (.bipush 12, 2) := by decide +kernel
theorem dX4_source_19 : decode cX4_source 19 = .ok (.if_icmp .ge 20, 3) := by decide +kernel
theorem dX4_source_22 : decode cX4_source 22 = .ok (.iload_n 2, 1) := by decide +kernel
theorem dX4_source_23 : decode cX4_source 23 = .ok (.aload_n 0, 1) := by decide +kernel
theorem dX4_source_24 : decode cX4_source 24 = .ok (.getfield 10, 3) := by decide +kernel
theorem dX4_source_27 : decode cX4_source 27 = .ok (.iload_n 2, 1) := by decide +kernel
theorem dX4_source_28 : decode cX4_source 28 = .ok (.invokevirtual 155, 3) := by decide +kernel
theorem dX4_source_31 : decode cX4_source 31 = .ok (.ior, 1) := by decide +kernel
theorem dX4_source_32 : decode cX4_source 32 = .ok (.istore_n 2, 1) := by decide +kernel
theorem dX4_source_33 : decode cX4_source 33 = .ok (.iinc 3 1, 3) := by decide +kernel
theorem dX4_source_36 : decode cX4_source 36 = .ok (.goto (-20), 3) := by decide +kernel
theorem dX4_source_39 : decode cX4_source 39 = .ok (.iload_n 2, 1) := by decide +kernel
theorem dX4_source_40 : decode cX4_source 40 = .ok (.ireturn, 1) := by decide +kernel
set_option maxRecDepth 20000 in
theorem ggX4_mean_X2_size : GoodIn wsX4_mean wsX2_size := goodIn_r _ [6, 7, 30, 31, 32, 33, 34] (by decide +kernel) (by decide +kernel)
set_option maxRecDepth 20000 in
theorem gX4_mean_X2_size : GoodIn wsX4_mean (wsV RX4 44 RX2 yX2_size wsX2_size) := goodIn_app (goodIn_of _ (by decide +kernel)) ggX4_mean_X2_size
set_option maxRecDepth 20000 in
theorem ggX4_mean_X4_sureOfAll : GoodIn wsX4_mean wsX4_sureOfAll := goodIn_r _ [12, 1, 13, 2, 3, 4, 5, 6, 7, 14, 15, 16, 17, 18, 19, 20, 21, 22, 23, 24, 25, 26, 27, 28, 29, 30, 31, 32, 33, 34, 35, 36, 37, 38, 39, 40] (by decide +kernel) (by decide +kernel)
set_option maxRecDepth 20000 in
theorem gX4_mean_X4_sureOfAll : GoodIn wsX4_mean (wsV RX4 158 RX4 yX4_sureOfAll wsX4_sureOfAll) := goodIn_app (goodIn_of _ (by decide +kernel)) ggX4_mean_X4_sureOfAll
theorem dX4_mean_0 : decode cX4_mean 0 = .ok (.aload_n 0, 1) := by decide +kernel
theorem dX4_mean_1 : decode cX4_mean 1 = .ok (.getfield 10, 3) := by decide +kernel
theorem dX4_mean_4 : decode cX4_mean 4 = .ok (.invokevirtual 44, 3) := by decide +kernel
theorem dX4_mean_7 : decode cX4_mean 7 = .ok (.istore_n 1, 1) := by decide +kernel
theorem dX4_mean_8 : decode cX4_mean 8 = .ok (.iload_n 1, 1) := by decide +kernel
theorem dX4_mean_9 : decode cX4_mean 9 = .ok (.ifCond .gt 5, 3) := by decide +kernel
theorem dX4_mean_12 : decode cX4_mean 12 = .ok (.dconst 0, 1) := by decide +kernel
theorem dX4_mean_13 : decode cX4_mean 13 = .ok (.dreturn, 1) := by decide +kernel
theorem dX4_mean_14 : decode cX4_mean 14 = .ok (.aload_n 0, 1) := by decide +kernel
theorem dX4_mean_15 : decode cX4_mean 15 = .ok (.invokevirtual 158, 3) := by decide +kernel
theorem dX4_mean_18 : decode cX4_mean 18 = .ok (.i2d, 1) := by decide +kernel
theorem dX4_mean_19 : decode cX4_mean 19 = .ok (.iload_n 1, 1) := by decide +kernel
theorem dX4_mean_20 : decode cX4_mean 20 = .ok (.i2d, 1) := by decide +kernel
theorem dX4_mean_21 : decode cX4_mean 21 = .ok (.ddiv, 1) := by decide +kernel
theorem dX4_mean_22 : decode cX4_mean 22 = .ok (.dreturn, 1) := by decide +kernel
set_option maxRecDepth 20000 in
theorem ggX4_digest_X4_tellOfJury : GoodIn wsX4_digest wsX4_tellOfJury := goodIn_r _ [7, 8, 2, 9, 10, 11, 12, 13, 14, 15, 16, 17, 18, 19, 20, 21, 22, 23, 6, 24, 25, 26, 27, 28, 29, 30, 31, 32, 33, 34, 35, 36, 37, 38, 39, 40, 41, 42, 43, 44, 45, 46, 47, 48, 49, 50, 51, 52, 53, 54, 55, 56, 57, 58, 59, 60, 61, 62, 63, 64, 65, 66, 67, 68, 69, 70, 71, 72, 73, 74, 131, 132, 133, 134, 135, 136, 137, 138, 139, 140, 141, 142, 143, 144, 145, 146, 147, 148] (by decide +kernel) (by decide +kernel)
set_option maxRecDepth 20000 in
theorem gX4_digest_X4_tellOfJury : GoodIn wsX4_digest (wsV RX4 127 RX4 yX4_tellOfJury wsX4_tellOfJury) := goodIn_app (goodIn_of _ (by decide +kernel)) ggX4_digest_X4_tellOfJury
set_option maxRecDepth 20000 in
theorem ggX4_digest_X4_mix : GoodIn wsX4_digest wsX4_mix := goodIn_r _ [77, 78] (by decide +kernel) (by decide +kernel)
set_option maxRecDepth 20000 in
theorem gX4_digest_X4_mix : GoodIn wsX4_digest (va_wsS RX4 163 yX4_mix wsX4_mix) := goodIn_app (goodIn_of _ (by decide +kernel)) ggX4_digest_X4_mix
set_option maxRecDepth 20000 in
theorem ggX4_digest_X2_size : GoodIn wsX4_digest wsX2_size := goodIn_r _ [19, 20, 140, 141, 142, 143, 144] (by decide +kernel) (by decide +kernel)
set_option maxRecDepth 20000 in
theorem gX4_digest_X2_size : GoodIn wsX4_digest (wsV RX4 44 RX2 yX2_size wsX2_size) := goodIn_app (goodIn_of _ (by decide +kernel)) ggX4_digest_X2_size
set_option maxRecDepth 20000 in
theorem ggX4_digest_X4_mixParrot : GoodIn wsX4_digest wsX4_mixParrot := goodIn_r _ [82, 2, 83, 84, 85, 6, 86, 8, 29, 30, 31, 12, 32, 33, 34, 35, 36, 37, 38, 39, 40, 41, 42, 43, 44, 45, 46, 64, 65, 66, 67, 68, 69, 87, 88, 89, 18, 90, 91, 92, 93, 94, 95, 96, 97, 98, 99, 100, 101, 102, 103, 104, 105, 106, 20, 107, 108, 109, 110, 111, 112, 113, 114, 115, 116, 117, 118, 119, 75, 76, 77, 78, 120, 121, 122, 123, 51, 52, 53, 54, 124, 55, 56, 57, 58, 59, 125, 126, 127, 128, 129, 130, 131, 132, 133, 134, 135, 136, 137, 138, 139, 145, 146, 147, 148, 140, 141, 142, 143, 144] (by decide +kernel) (by decide +kernel)
set_option maxRecDepth 20000 in
theorem gX4_digest_X4_mixParrot : GoodIn wsX4_digest (wsV RX4 167 RX4 yX4_mixParrot wsX4_mixParrot) := goodIn_app (goodIn_of _ (by decide +kernel)) ggX4_digest_X4_mixParrot
theorem dX4_digest_0 : decode cX4_digest 0 = .ok (.ldc2_w 161, 3) := by decide +kernel
theorem dX4_digest_3 : decode cX4_digest 3 = .ok (.lstore_n 1, 1) := by decide +kernel
theorem dX4_digest_4 : decode cX4_digest 4 = .ok (.iconst 0, 1) := by decide +kernel
theorem dX4_digest_5 : decode cX4_digest 5 = .ok (.istore_n 3, 1) := by decide +kernel
theorem dX4_digest_6 : decode cX4_digest 6 = .ok (.iload_n 3, 1) := by decide +kernel
theorem dX4_digest_7 : decode cX4_digest 7 = .ok (.iconst 5, 1) := by decide +kernel
theorem dX4_digest_8 : decode cX4_digest 8 = .ok (.if_icmp .gt 19, 3) := by decide +kernel
theorem dX4_digest_11 : decode cX4_digest 11 = .ok (.lload_n 1, 1) := by decide +kernel
theorem dX4_digest_12 : decode cX4_digest 12 = .ok (.aload_n 0, 1) := by decide +kernel
theorem dX4_digest_13 : decode cX4_digest 13 = .ok (.iload_n 3, 1) := by decide +kernel
theorem dX4_digest_14 : decode cX4_digest 14 = .ok (.invokevirtual 127, 3) := by decide +kernel
end
section
theorem dX4_digest_17 : decode cX4_digest 17 = .ok (.invokestatic 163, 3) := by decide +kernel
theorem dX4_digest_20 : decode cX4_digest 20 = .ok (.lstore_n 1, 1) := by decide +kernel
theorem dX4_digest_21 : decode cX4_digest 21 = .ok (.iinc 3 1, 3) := by decide +kernel
theorem dX4_digest_24 : decode cX4_digest 24 = .ok (.goto (-18), 3) := by decide +kernel
theorem dX4_digest_27 : decode cX4_digest 27 = .ok (.aload_n 0, 1) := by decide +kernel
theorem dX4_digest_28 : decode cX4_digest 28 = .ok (.getfield 10, 3) := by decide +kernel
theorem dX4_digest_31 : decode cX4_digest 31 = .ok (.invokevirtual 44, 3) := by decide +kernel
theorem dX4_digest_34 : decode cX4_digest 34 = .ok (.istore_n 3, 1) := by decide +kernel
theorem dX4_digest_35 : decode cX4_digest 35 = .ok (.iconst 0, 1) := by decide +kernel
theorem dX4_digest_36 : decode cX4_digest 36 = .ok (.istore 4, 2) := by decide +kernel
theorem dX4_digest_38 : decode cX4_digest 38 = .ok (.iload 4, 2) := by decide +kernel
theorem dX4_digest_40 : decode cX4_digest 40 = .ok (.iload_n 3, 1) := by decide +kernel
theorem dX4_digest_41 : decode cX4_digest 41 = .ok (.if_icmp .ge 17, 3) := by decide +kernel
theorem dX4_digest_44 : decode cX4_digest 44 = .ok (.aload_n 0, 1) := by decide +kernel
theorem dX4_digest_45 : decode cX4_digest 45 = .ok (.lload_n 1, 1) := by decide +kernel
theorem dX4_digest_46 : decode cX4_digest 46 = .ok (.iload 4, 2) := by decide +kernel
theorem dX4_digest_48 : decode cX4_digest 48 = .ok (.invokevirtual 167, 3) := by decide +kernel
theorem dX4_digest_51 : decode cX4_digest 51 = .ok (.lstore_n 1, 1) := by decide +kernel
theorem dX4_digest_52 : decode cX4_digest 52 = .ok (.iinc 4 1, 3) := by decide +kernel
theorem dX4_digest_55 : decode cX4_digest 55 = .ok (.goto (-17), 3) := by decide +kernel
theorem dX4_digest_58 : decode cX4_digest 58 = .ok (.lload_n 1, 1) := by decide +kernel
theorem dX4_digest_59 : decode cX4_digest 59 = .ok (.lreturn, 1) := by decide +kernel
theorem dX4_isOutside_0 : decode cX4_isOutside 0 = .ok (.iload_n 0, 1) := by decide +kernel
theorem dX4_isOutside_1 : decode cX4_isOutside 1 = .ok (.iload_n 1, 1) := by decide +kernel
theorem dX4_isOutside_2 : decode cX4_isOutside 2 = .ok (.if_icmp .lt 8, 3) := by decide +kernel
theorem dX4_isOutside_5 : decode cX4_isOutside 5 = .ok (.iload_n 0, 1) := by decide +kernel
theorem dX4_isOutside_6 : decode cX4_isOutside 6 = .ok (.iload_n 2, 1) := by decide +kernel
theorem dX4_isOutside_7 : decode cX4_isOutside 7 = .ok (.if_icmp .le 7, 3) := by decide +kernel
theorem dX4_isOutside_10 : decode cX4_isOutside 10 = .ok (.iconst 1, 1) := by decide +kernel
theorem dX4_isOutside_11 : decode cX4_isOutside 11 = .ok (.goto 4, 3) := by decide +kernel
theorem dX4_isOutside_14 : decode cX4_isOutside 14 = .ok (.iconst 0, 1) := by decide +kernel
theorem dX4_isOutside_15 : decode cX4_isOutside 15 = .ok (.ireturn, 1) := by decide +kernel
set_option maxRecDepth 20000 in
theorem ggX4_needParrot_X2_size : GoodIn wsX4_needParrot wsX2_size := goodIn_r _ [8, 9, 14, 15, 16, 17, 18] (by decide +kernel) (by decide +kernel)
set_option maxRecDepth 20000 in
theorem gX4_needParrot_X2_size : GoodIn wsX4_needParrot (wsV RX4 44 RX2 yX2_size wsX2_size) := goodIn_app (goodIn_of _ (by decide +kernel)) ggX4_needParrot_X2_size
theorem dX4_needParrot_0 : decode cX4_needParrot 0 = .ok (.iload_n 1, 1) := by decide +kernel
theorem dX4_needParrot_1 : decode cX4_needParrot 1 = .ok (.ifCond .lt 14, 3) := by decide +kernel
theorem dX4_needParrot_4 : decode cX4_needParrot 4 = .ok (.iload_n 1, 1) := by decide +kernel
theorem dX4_needParrot_5 : decode cX4_needParrot 5 = .ok (.aload_n 0, 1) := by decide +kernel
theorem dX4_needParrot_6 : decode cX4_needParrot 6 = .ok (.getfield 10, 3) := by decide +kernel
theorem dX4_needParrot_9 : decode cX4_needParrot 9 = .ok (.invokevirtual 44, 3) := by decide +kernel
theorem dX4_needParrot_12 : decode cX4_needParrot 12 = .ok (.if_icmp .lt 13, 3) := by decide +kernel
theorem dX4_needParrot_15 : decode cX4_needParrot 15 = .ok (.new 106, 3) := by decide +kernel
theorem dX4_needParrot_18 : decode cX4_needParrot 18 = .ok (.dup, 1) := by decide +kernel
theorem dX4_needParrot_19 : decode cX4_needParrot 19 = .ok (.ldc 170, 2) := by decide +kernel
theorem dX4_needParrot_21 : decode cX4_needParrot 21 = .ok (.invokespecial 110, 3) := by decide +kernel
theorem dX4_needParrot_24 : decode cX4_needParrot 24 = .ok (.athrow, 1) := by decide +kernel
theorem dX4_needParrot_25 : decode cX4_needParrot 25 = .ok (.return_, 1) := by decide +kernel
set_option maxRecDepth 20000 in
theorem ggX4_needWhat_X4_isOutside : GoodIn wsX4_needWhat wsX4_isOutside := goodIn_r _ [6] (by decide +kernel) (by decide +kernel)
set_option maxRecDepth 20000 in
theorem gX4_needWhat_X4_isOutside : GoodIn wsX4_needWhat (va_wsS RX4 29 yX4_isOutside wsX4_isOutside) := goodIn_app (goodIn_of _ (by decide +kernel)) ggX4_needWhat_X4_isOutside
theorem dX4_needWhat_0 : decode cX4_needWhat 0 = .ok (.iload_n 0, 1) := by decide +kernel
theorem dX4_needWhat_1 : decode cX4_needWhat 1 = .ok (.iconst 0, 1) := by decide +kernel
theorem dX4_needWhat_2 : decode cX4_needWhat 2 = .ok (.iload_n 1, 1) := by decide +kernel
theorem dX4_needWhat_3 : decode cX4_needWhat 3 = .ok (.invokestatic 29, 3) := by decide +kernel
theorem dX4_needWhat_6 : decode cX4_needWhat 6 = .ok (.ifCond .eq 13, 3) := by decide +kernel
theorem dX4_needWhat_9 : decode cX4_needWhat 9 = .ok (.new 106, 3) := by decide +kernel
theorem dX4_needWhat_12 : decode cX4_needWhat 12 = .ok (.dup, 1) := by decide +kernel
theorem dX4_needWhat_13 : decode cX4_needWhat 13 = .ok (.ldc 172, 2) := by decide +kernel
theorem dX4_needWhat_15 : decode cX4_needWhat 15 = .ok (.invokespecial 110, 3) := by decide +kernel
theorem dX4_needWhat_18 : decode cX4_needWhat 18 = .ok (.athrow, 1) := by decide +kernel
theorem dX4_needWhat_19 : decode cX4_needWhat 19 = .ok (.return_, 1) := by decide +kernel
set_option maxRecDepth 20000 in
theorem ggX4_needLoud_X4_isOutside : GoodIn wsX4_needLoud wsX4_isOutside := goodIn_r _ [6] (by decide +kernel) (by decide +kernel)
set_option maxRecDepth 20000 in
theorem gX4_needLoud_X4_isOutside : GoodIn wsX4_needLoud (va_wsS RX4 29 yX4_isOutside wsX4_isOutside) := goodIn_app (goodIn_of _ (by decide +kernel)) ggX4_needLoud_X4_isOutside
theorem dX4_needLoud_0 : decode cX4_needLoud 0 = .ok (.iload_n 0, 1) := by decide +kernel
theorem dX4_needLoud_1 : decode cX4_needLoud 1 = .ok (.iconst 1, 1) := by decide +kernel
theorem dX4_needLoud_2 : decode cX4_needLoud 2 = .ok (.iconst 5, 1) := by decide +kernel
theorem dX4_needLoud_3 : decode cX4_needLoud 3 = .ok (.invokestatic 29, 3) := by decide +kernel
theorem dX4_needLoud_6 : decode cX4_needLoud 6 = .ok (.ifCond .eq 13, 3) := by decide +kernel
theorem dX4_needLoud_9 : decode cX4_needLoud 9 = .ok (.new 33, 3) := by decide +kernel
theorem dX4_needLoud_12 : decode cX4_needLoud 12 = .ok (.dup, 1) := by decide +kernel
theorem dX4_needLoud_13 : decode cX4_needLoud 13 = .ok (.ldc 174, 2) := by decide +kernel
theorem dX4_needLoud_15 : decode cX4_needLoud 15 = .ok (.invokespecial 37, 3) := by decide +kernel
theorem dX4_needLoud_18 : decode cX4_needLoud 18 = .ok (.athrow, 1) := by decide +kernel
theorem dX4_needLoud_19 : decode cX4_needLoud 19 = .ok (.return_, 1) := by decide +kernel
set_option maxRecDepth 20000 in
theorem ggX4_needWord_X4_isOutside : GoodIn wsX4_needWord wsX4_isOutside := goodIn_r _ [6] (by decide +kernel) (by decide +kernel)
set_option maxRecDepth 20000 in
theorem gX4_needWord_X4_isOutside : GoodIn wsX4_needWord (va_wsS RX4 29 yX4_isOutside wsX4_isOutside) := goodIn_app (goodIn_of _ (by decide +kernel)) ggX4_needWord_X4_isOutside
theorem dX4_needWord_0 : decode cX4_needWord 0 = .ok (.iload_n 0, 1) := by decide +kernel
theorem dX4_needWord_1 : decode cX4_needWord 1 = .ok (.iconst 0, 1) := by decide +kernel
theorem dX4_needWord_2 : decode cX4_needWord 2 = .ok (.sipush 9999, 3) := by decide +kernel
theorem dX4_needWord_5 : decode cX4_needWord 5 = .ok (.invokestatic 29, 3) := by decide +kernel
theorem dX4_needWord_8 : decode cX4_needWord 8 = .ok (.ifCond .eq 13, 3) := by decide +kernel
theorem dX4_needWord_11 : decode cX4_needWord 11 = .ok (.new 33, 3) := by decide +kernel
theorem dX4_needWord_14 : decode cX4_needWord 14 = .ok (.dup, 1) := by decide +kernel
theorem dX4_needWord_15 : decode cX4_needWord 15 = .ok (.ldc 176, 2) := by decide +kernel
theorem dX4_needWord_17 : decode cX4_needWord 17 = .ok (.invokespecial 37, 3) := by decide +kernel
theorem dX4_needWord_20 : decode cX4_needWord 20 = .ok (.athrow, 1) := by decide +kernel
theorem dX4_needWord_21 : decode cX4_needWord 21 = .ok (.return_, 1) := by decide +kernel
set_option maxRecDepth 20000 in
theorem ggX4_needRounds_X4_isOutside : GoodIn wsX4_needRounds wsX4_isOutside := goodIn_r _ [6] (by decide +kernel) (by decide +kernel)
set_option maxRecDepth 20000 in
theorem gX4_needRounds_X4_isOutside : GoodIn wsX4_needRounds (va_wsS RX4 29 yX4_isOutside wsX4_isOutside) := goodIn_app (goodIn_of _ (by decide +kernel)) ggX4_needRounds_X4_isOutside
theorem dX4_needRounds_0 : decode cX4_needRounds 0 = .ok (.iload_n 0, 1) := by decide +kernel
theorem dX4_needRounds_1 : decode cX4_needRounds 1 = .ok (.iconst 1, 1) := by decide +kernel
theorem dX4_needRounds_2 : decode cX4_needRounds 2 = .ok (.iload_n 1, 1) := by decide +kernel
theorem dX4_needRounds_3 : decode cX4_needRounds 3 = .ok (.invokestatic 29, 3) := by decide +kernel
theorem dX4_needRounds_6 : decode cX4_needRounds 6 = .ok (.ifCond .eq 13, 3) := by decide +kernel
theorem dX4_needRounds_9 : decode cX4_needRounds 9 = .ok (.new 33, 3) := by decide +kernel
theorem dX4_needRounds_12 : decode cX4_needRounds 12 = .ok (.dup, 1) := by decide +kernel
theorem dX4_needRounds_13 : decode cX4_needRounds 13 = .ok (.ldc 178, 2) := by decide +kernel
theorem dX4_needRounds_15 : decode cX4_needRounds 15 = .ok (.invokespecial 37, 3) := by decide +kernel
theorem dX4_needRounds_18 : decode cX4_needRounds 18 = .ok (.athrow, 1) := by decide +kernel
theorem dX4_needRounds_19 : decode cX4_needRounds 19 = .ok (.return_, 1) := by decide +kernel
set_option maxRecDepth 20000 in
theorem ggX4_tellOfParrot_X3_word : GoodIn wsX4_tellOfParrot wsX3_word := goodIn_r _ [7, 8, 9, 10, 11, 12, 13, 14, 15, 16, 17, 18, 19, 20, 21, 67, 68, 69, 70, 71, 72, 73, 74, 75] (by decide +kernel) (by decide +kernel)
set_option maxRecDepth 20000 in
theorem gX4_tellOfParrot_X3_word : GoodIn wsX4_tellOfParrot (wsV RX4 93 RX3 yX3_word wsX3_word) := goodIn_app (goodIn_of _ (by decide +kernel)) ggX4_tellOfParrot_X3_word
set_option maxRecDepth 20000 in
theorem ggX4_tellOfParrot_X3_sure : GoodIn wsX4_tellOfParrot wsX3_sure := goodIn_r _ [25, 26, 27, 17, 18, 19, 20, 21, 67, 68, 69, 70, 71, 75] (by decide +kernel) (by decide +kernel)
set_option maxRecDepth 20000 in
theorem gX4_tellOfParrot_X3_sure : GoodIn wsX4_tellOfParrot (wsV RX4 180 RX3 yX3_sure wsX3_sure) := goodIn_app (goodIn_of _ (by decide +kernel)) ggX4_tellOfParrot_X3_sure
set_option maxRecDepth 20000 in
theorem ggX4_tellOfParrot_X2_memory : GoodIn wsX4_tellOfParrot wsX2_memory := goodIn_r _ [32, 33, 34, 17, 18, 19, 20, 21, 76, 77, 78, 79, 80, 75] (by decide +kernel) (by decide +kernel)
set_option maxRecDepth 20000 in
theorem gX4_tellOfParrot_X2_memory : GoodIn wsX4_tellOfParrot (wsV RX4 183 RX2 yX2_memory wsX2_memory) := goodIn_app (goodIn_of _ (by decide +kernel)) ggX4_tellOfParrot_X2_memory
set_option maxRecDepth 20000 in
theorem ggX4_tellOfParrot_X2_loud : GoodIn wsX4_tellOfParrot wsX2_loud := goodIn_r _ [38, 39, 34, 17, 18, 19, 20, 21, 76, 77, 78, 79, 80, 75] (by decide +kernel) (by decide +kernel)
set_option maxRecDepth 20000 in
theorem gX4_tellOfParrot_X2_loud : GoodIn wsX4_tellOfParrot (wsV RX4 82 RX2 yX2_loud wsX2_loud) := goodIn_app (goodIn_of _ (by decide +kernel)) ggX4_tellOfParrot_X2_loud
set_option maxRecDepth 20000 in
theorem ggX4_tellOfParrot_X2_listening : GoodIn wsX4_tellOfParrot wsX2_listening := goodIn_r _ [43, 44, 34, 17, 18, 19, 20, 21, 76, 77, 78, 79, 80, 75] (by decide +kernel) (by decide +kernel)
set_option maxRecDepth 20000 in
theorem gX4_tellOfParrot_X2_listening : GoodIn wsX4_tellOfParrot (wsV RX4 73 RX2 yX2_listening wsX2_listening) := goodIn_app (goodIn_of _ (by decide +kernel)) ggX4_tellOfParrot_X2_listening
set_option maxRecDepth 20000 in
theorem ggX4_tellOfParrot_X2_listeners : GoodIn wsX4_tellOfParrot wsX2_listeners := goodIn_r _ [48, 49, 50, 51, 52, 31, 53, 44, 34, 17, 18, 19, 20, 21, 54, 55, 56, 57, 58, 76, 77, 78, 79, 80, 75] (by decide +kernel) (by decide +kernel)
set_option maxRecDepth 20000 in
theorem gX4_tellOfParrot_X2_listeners : GoodIn wsX4_tellOfParrot (wsV RX4 186 RX2 yX2_listeners wsX2_listeners) := goodIn_app (goodIn_of _ (by decide +kernel)) ggX4_tellOfParrot_X2_listeners
set_option maxRecDepth 20000 in
theorem ggX4_tellOfParrot_X2_heard : GoodIn wsX4_tellOfParrot wsX2_heard := goodIn_r _ [62, 44, 39, 34, 17, 18, 19, 20, 21, 54, 55, 56, 31, 57, 58, 76, 77, 78, 79, 80, 75] (by decide +kernel) (by decide +kernel)
set_option maxRecDepth 20000 in
theorem gX4_tellOfParrot_X2_heard : GoodIn wsX4_tellOfParrot (wsV RX4 189 RX2 yX2_heard wsX2_heard) := goodIn_app (goodIn_of _ (by decide +kernel)) ggX4_tellOfParrot_X2_heard
theorem dX4_tellOfParrot_0 : decode cX4_tellOfParrot 0 = .ok (.iload_n 2, 1) := by decide +kernel
theorem dX4_tellOfParrot_1 : decode cX4_tellOfParrot 1 = .ok (.tableswitch 93 0 5 #[39, 48, 57, 66, 75, 84], 39) := by decide +kernel
theorem dX4_tellOfParrot_40 : decode cX4_tellOfParrot 40 = .ok (.aload_n 0, 1) := by decide +kernel
theorem dX4_tellOfParrot_41 : decode cX4_tellOfParrot 41 = .ok (.getfield 19, 3) := by decide +kernel
theorem dX4_tellOfParrot_44 : decode cX4_tellOfParrot 44 = .ok (.iload_n 1, 1) := by decide +kernel
theorem dX4_tellOfParrot_45 : decode cX4_tellOfParrot 45 = .ok (.invokevirtual 93, 3) := by decide +kernel
theorem dX4_tellOfParrot_48 : decode cX4_tellOfParrot 48 = .ok (.ireturn, 1) := by decide +kernel
theorem dX4_tellOfParrot_49 : decode cX4_tellOfParrot 49 = .ok (.aload_n 0, 1) := by decide +kernel
theorem dX4_tellOfParrot_50 : decode cX4_tellOfParrot 50 = .ok (.getfield 19, 3) := by decide +kernel
theorem dX4_tellOfParrot_53 : decode cX4_tellOfParrot 53 = .ok (.iload_n 1, 1) := by decide +kernel
theorem dX4_tellOfParrot_54 : decode cX4_tellOfParrot 54 = .ok (.invokevirtual 180, 3) := by decide +kernel
theorem dX4_tellOfParrot_57 : decode cX4_tellOfParrot 57 = .ok (.ireturn, 1) := by decide +kernel
theorem dX4_tellOfParrot_58 : decode cX4_tellOfParrot 58 = .ok (.aload_n 0, 1) := by decide +kernel
theorem dX4_tellOfParrot_59 : decode cX4_tellOfParrot 59 = .ok (.getfield 10, 3) := by decide +kernel
theorem dX4_tellOfParrot_62 : decode cX4_tellOfParrot 62 = .ok (.iload_n 1, 1) := by decide +kernel
theorem dX4_tellOfParrot_63 : decode cX4_tellOfParrot 63 = .ok (.invokevirtual 183, 3) := by decide +kernel
theorem dX4_tellOfParrot_66 : decode cX4_tellOfParrot 66 = .ok (.ireturn, 1) := by decide +kernel
theorem dX4_tellOfParrot_67 : decode cX4_tellOfParrot 67 = .ok (.aload_n 0, 1) := by decide +kernel
theorem dX4_tellOfParrot_68 : decode cX4_tellOfParrot 68 = .ok (.getfield 10, 3) := by decide +kernel
theorem dX4_tellOfParrot_71 : decode cX4_tellOfParrot 71 = .ok (.iload_n 1, 1) := by decide +kernel
theorem dX4_tellOfParrot_72 : decode cX4_tellOfParrot 72 = .ok (.invokevirtual 82, 3) := by decide +kernel
theorem dX4_tellOfParrot_75 : decode cX4_tellOfParrot 75 = .ok (.ireturn, 1) := by decide +kernel
theorem dX4_tellOfParrot_76 : decode cX4_tellOfParrot 76 = .ok (.aload_n 0, 1) := by decide +kernel
theorem dX4_tellOfParrot_77 : decode cX4_tellOfParrot 77 = .ok (.getfield 10, 3) := by decide +kernel
theorem dX4_tellOfParrot_80 : decode cX4_tellOfParrot 80 = .ok (.iload_n 1, 1) := by decide +kernel
theorem dX4_tellOfParrot_81 : decode cX4_tellOfParrot 81 = .ok (.invokevirtual 73, 3) := by decide +kernel
theorem dX4_tellOfParrot_84 : decode cX4_tellOfParrot 84 = .ok (.ireturn, 1) := by decide +kernel
theorem dX4_tellOfParrot_85 : decode cX4_tellOfParrot 85 = .ok (.aload_n 0, 1) := by decide +kernel
theorem dX4_tellOfParrot_86 : decode cX4_tellOfParrot 86 = .ok (.getfield 10, 3) := by decide +kernel
theorem dX4_tellOfParrot_89 : decode cX4_tellOfParrot 89 = .ok (.iload_n 1, 1) := by decide +kernel
theorem dX4_tellOfParrot_90 : decode cX4_tellOfParrot 90 = .ok (.invokevirtual 186, 3) := by decide +kernel
theorem dX4_tellOfParrot_93 : decode cX4_tellOfParrot 93 = .ok (.ireturn, 1) := by decide +kernel
theorem dX4_tellOfParrot_94 : decode cX4_tellOfParrot 94 = .ok (.aload_n 0, 1) := by decide +kernel
theorem dX4_tellOfParrot_95 : decode cX4_tellOfParrot 95 = .ok (.getfield 10, 3) := by decide +kernel
theorem dX4_tellOfParrot_98 : decode cX4_tellOfParrot 98 = .ok (.iload_n 1, 1) := by decide +kernel
theorem dX4_tellOfParrot_99 : decode cX4_tellOfParrot 99 = .ok (.invokevirtual 189, 3) := by decide +kernel
theorem dX4_tellOfParrot_102 : decode cX4_tellOfParrot 102 = .ok (.ireturn, 1) := by decide +kernel
set_option maxRecDepth 20000 in
theorem ggX4_tellOfHalf_X3_halves : GoodIn wsX4_tellOfHalf wsX3_halves := goodIn_r _ [6, 7, 8, 35, 36, 37, 38, 39] (by decide +kernel) (by decide +kernel)
set_option maxRecDepth 20000 in
theorem gX4_tellOfHalf_X3_halves : GoodIn wsX4_tellOfHalf (wsV RX4 118 RX3 yX3_halves wsX3_halves) := goodIn_app (goodIn_of _ (by decide +kernel)) ggX4_tellOfHalf_X3_halves
set_option maxRecDepth 20000 in
theorem ggX4_tellOfHalf_X0_value : GoodIn wsX4_tellOfHalf wsX0_value := goodIn_r _ [13, 14, 15, 16, 17, 18, 19, 20, 40, 41, 42, 43] (by decide +kernel) (by decide +kernel)
set_option maxRecDepth 20000 in
theorem gX4_tellOfHalf_X0_value : GoodIn wsX4_tellOfHalf (wsV RX4 122 RX0 yX0_value wsX0_value) := goodIn_app (goodIn_of _ (by decide +kernel)) ggX4_tellOfHalf_X0_value
set_option maxRecDepth 20000 in
theorem ggX4_tellOfHalf_X0_from : GoodIn wsX4_tellOfHalf wsX0_from := goodIn_r _ [24, 25, 15, 16, 17, 18, 19, 20, 40, 41, 42, 43] (by decide +kernel) (by decide +kernel)
set_option maxRecDepth 20000 in
theorem gX4_tellOfHalf_X0_from : GoodIn wsX4_tellOfHalf (wsV RX4 192 RX0 yX0_from wsX0_from) := goodIn_app (goodIn_of _ (by decide +kernel)) ggX4_tellOfHalf_X0_from
set_option maxRecDepth 20000 in
theorem ggX4_tellOfHalf_X0_over : GoodIn wsX4_tellOfHalf wsX0_over := goodIn_r _ [29, 30, 15, 16, 17, 18, 19, 20, 40, 41, 42, 43] (by decide +kernel) (by decide +kernel)
set_option maxRecDepth 20000 in
theorem gX4_tellOfHalf_X0_over : GoodIn wsX4_tellOfHalf (wsV RX4 195 RX0 yX0_over wsX0_over) := goodIn_app (goodIn_of _ (by decide +kernel)) ggX4_tellOfHalf_X0_over
theorem dX4_tellOfHalf_0 : decode cX4_tellOfHalf 0 = .ok (.aload_n 0, 1) := by decide +kernel
theorem dX4_tellOfHalf_1 : decode cX4_tellOfHalf 1 = .ok (.getfield 19, 3) := by decide +kernel
theorem dX4_tellOfHalf_4 : decode cX4_tellOfHalf 4 = .ok (.iload_n 2, 1) := by decide +kernel
theorem dX4_tellOfHalf_5 : decode cX4_tellOfHalf 5 = .ok (.invokevirtual 118, 3) := by decide +kernel
theorem dX4_tellOfHalf_8 : decode cX4_tellOfHalf 8 = .ok (.astore 4, 2) := by decide +kernel
theorem dX4_tellOfHalf_10 : decode cX4_tellOfHalf 10 = .ok (.iload_n 3, 1) := by decide +kernel
theorem dX4_tellOfHalf_11 : decode cX4_tellOfHalf 11 = .ok (.lookupswitch 39 #[(0, 25), (1, 32)], 25) := by decide +kernel
theorem dX4_tellOfHalf_36 : decode cX4_tellOfHalf 36 = .ok (.aload 4, 2) := by decide +kernel
theorem dX4_tellOfHalf_38 : decode cX4_tellOfHalf 38 = .ok (.iload_n 1, 1) := by decide +kernel
theorem dX4_tellOfHalf_39 : decode cX4_tellOfHalf 39 = .ok (.invokevirtual 122, 3) := by decide +kernel
theorem dX4_tellOfHalf_42 : decode cX4_tellOfHalf 42 = .ok (.ireturn, 1) := by decide +kernel
theorem dX4_tellOfHalf_43 : decode cX4_tellOfHalf 43 = .ok (.aload 4, 2) := by decide +kernel
theorem dX4_tellOfHalf_45 : decode cX4_tellOfHalf 45 = .ok (.iload_n 1, 1) := by decide +kernel
theorem dX4_tellOfHalf_46 : decode cX4_tellOfHalf 46 = .ok (.invokevirtual 192, 3) := by decide +kernel
theorem dX4_tellOfHalf_49 : decode cX4_tellOfHalf 49 = .ok (.ireturn, 1) := by decide +kernel
theorem dX4_tellOfHalf_50 : decode cX4_tellOfHalf 50 = .ok (.aload 4, 2) := by decide +kernel
theorem dX4_tellOfHalf_52 : decode cX4_tellOfHalf 52 = .ok (.iload_n 1, 1) := by decide +kernel
theorem dX4_tellOfHalf_53 : decode cX4_tellOfHalf 53 = .ok (.invokevirtual 195, 3) := by decide +kernel
theorem dX4_tellOfHalf_56 : decode cX4_tellOfHalf 56 = .ok (.ireturn, 1) := by decide +kernel
set_option maxRecDepth 20000 in
theorem ggX4_tellOfJury_X3_round : GoodIn wsX4_tellOfJury wsX3_round := goodIn_r _ [7, 8, 74, 75, 76, 77, 78] (by decide +kernel) (by decide +kernel)
set_option maxRecDepth 20000 in
theorem gX4_tellOfJury_X3_round : GoodIn wsX4_tellOfJury (wsV RX4 198 RX3 yX3_round wsX3_round) := goodIn_app (goodIn_of _ (by decide +kernel)) ggX4_tellOfJury_X3_round
set_option maxRecDepth 20000 in
theorem ggX4_tellOfJury_X2_size : GoodIn wsX4_tellOfJury wsX2_size := goodIn_r _ [13, 14, 79, 80, 81, 82, 83] (by decide +kernel) (by decide +kernel)
set_option maxRecDepth 20000 in
theorem gX4_tellOfJury_X2_size : GoodIn wsX4_tellOfJury (wsV RX4 44 RX2 yX2_size wsX2_size) := goodIn_app (goodIn_of _ (by decide +kernel)) ggX4_tellOfJury_X2_size
set_option maxRecDepth 20000 in
theorem ggX4_tellOfJury_X4_differentWords : GoodIn wsX4_tellOfJury wsX4_differentWords := goodIn_r _ [19, 2, 9, 10, 11, 12, 13, 14, 20, 21, 22, 18, 23, 1, 24, 25, 26, 6, 27, 28, 29, 30, 31, 32, 33, 34, 35, 36, 37, 38, 39, 40, 41, 70, 71, 72, 73, 79, 80, 81, 82, 83, 74, 75, 76, 77, 78, 84, 85, 86, 87] (by decide +kernel) (by decide +kernel)
set_option maxRecDepth 20000 in
theorem gX4_tellOfJury_X4_differentWords : GoodIn wsX4_tellOfJury (wsV RX4 201 RX4 yX4_differentWords wsX4_differentWords) := goodIn_app (goodIn_of _ (by decide +kernel)) ggX4_tellOfJury_X4_differentWords
set_option maxRecDepth 20000 in
theorem ggX4_tellOfJury_X4_halvesFromCourt : GoodIn wsX4_tellOfJury wsX4_halvesFromCourt := goodIn_r _ [45, 2, 1, 9, 10, 11, 12, 13, 14, 46, 47, 48, 6, 49, 29, 28, 50, 51, 52, 33, 53, 54, 36, 37, 38, 39, 40, 41, 70, 71, 72, 73, 79, 80, 81, 82, 83, 74, 75, 76, 77, 78, 84, 85, 86, 87] (by decide +kernel) (by decide +kernel)
set_option maxRecDepth 20000 in
theorem gX4_tellOfJury_X4_halvesFromCourt : GoodIn wsX4_tellOfJury (wsV RX4 204 RX4 yX4_halvesFromCourt wsX4_halvesFromCourt) := goodIn_app (goodIn_of _ (by decide +kernel)) ggX4_tellOfJury_X4_halvesFromCourt
set_option maxRecDepth 20000 in
theorem ggX4_tellOfJury_X4_sureOfAll : GoodIn wsX4_tellOfJury wsX4_sureOfAll := goodIn_r _ [58, 2, 1, 9, 10, 11, 12, 13, 14, 59, 60, 61, 6, 62, 63, 64, 37, 38, 39, 40, 41, 70, 71, 72, 73, 79, 80, 81, 82, 83, 74, 75, 76, 77, 78, 87] (by decide +kernel) (by decide +kernel)
set_option maxRecDepth 20000 in
theorem gX4_tellOfJury_X4_sureOfAll : GoodIn wsX4_tellOfJury (wsV RX4 158 RX4 yX4_sureOfAll wsX4_sureOfAll) := goodIn_app (goodIn_of _ (by decide +kernel)) ggX4_tellOfJury_X4_sureOfAll
set_option maxRecDepth 20000 in
theorem ggX4_tellOfJury_X3_taken : GoodIn wsX4_tellOfJury wsX3_taken := goodIn_r _ [68, 69, 74, 75, 76, 77, 78] (by decide +kernel) (by decide +kernel)
set_option maxRecDepth 20000 in
theorem gX4_tellOfJury_X3_taken : GoodIn wsX4_tellOfJury (wsV RX4 133 RX3 yX3_taken wsX3_taken) := goodIn_app (goodIn_of _ (by decide +kernel)) ggX4_tellOfJury_X3_taken
theorem dX4_tellOfJury_0 : decode cX4_tellOfJury 0 = .ok (.iload_n 1, 1) := by decide +kernel
theorem dX4_tellOfJury_1 : decode cX4_tellOfJury 1 = .ok (.tableswitch 66 0 4 #[35, 43, 51, 56, 61], 35) := by decide +kernel
theorem dX4_tellOfJury_36 : decode cX4_tellOfJury 36 = .ok (.aload_n 0, 1) := by decide +kernel
theorem dX4_tellOfJury_37 : decode cX4_tellOfJury 37 = .ok (.getfield 19, 3) := by decide +kernel
theorem dX4_tellOfJury_40 : decode cX4_tellOfJury 40 = .ok (.invokevirtual 198, 3) := by decide +kernel
theorem dX4_tellOfJury_43 : decode cX4_tellOfJury 43 = .ok (.ireturn, 1) := by decide +kernel
theorem dX4_tellOfJury_44 : decode cX4_tellOfJury 44 = .ok (.aload_n 0, 1) := by decide +kernel
theorem dX4_tellOfJury_45 : decode cX4_tellOfJury 45 = .ok (.getfield 10, 3) := by decide +kernel
theorem dX4_tellOfJury_48 : decode cX4_tellOfJury 48 = .ok (.invokevirtual 44, 3) := by decide +kernel
theorem dX4_tellOfJury_51 : decode cX4_tellOfJury 51 = .ok (.ireturn, 1) := by decide +kernel
theorem dX4_tellOfJury_52 : decode cX4_tellOfJury 52 = .ok (.aload_n 0, 1) := by decide +kernel
theorem dX4_tellOfJury_53 : decode cX4_tellOfJury 53 = .ok (.invokevirtual 201, 3) := by decide +kernel
theorem dX4_tellOfJury_56 : decode cX4_tellOfJury 56 = .ok (.ireturn, 1) := by decide +kernel
theorem dX4_tellOfJury_57 : decode cX4_tellOfJury 57 = .ok (.aload_n 0, 1) := by decide +kernel
theorem dX4_tellOfJury_58 : decode cX4_tellOfJury 58 = .ok (.invokevirtual 204, 3) := by decide +kernel
theorem dX4_tellOfJury_61 : decode cX4_tellOfJury 61 = .ok (.ireturn, 1) := by decide +kernel
theorem dX4_tellOfJury_62 : decode cX4_tellOfJury 62 = .ok (.aload_n 0, 1) := by decide +kernel
theorem dX4_tellOfJury_63 : decode cX4_tellOfJury 63 = .ok (.invokevirtual 158, 3) := by decide +kernel
theorem dX4_tellOfJury_66 : decode cX4_tellOfJury 66 = .ok (.ireturn, 1) := by decide +kernel
theorem dX4_tellOfJury_67 : decode cX4_tellOfJury 67 = .ok (.aload_n 0, 1) := by decide +kernel
theorem dX4_tellOfJury_68 : decode cX4_tellOfJury 68 = .ok (.getfield 19, 3) := by decide +kernel
theorem dX4_tellOfJury_71 : decode cX4_tellOfJury 71 = .ok (.invokevirtual 133, 3) := by decide +kernel
theorem dX4_tellOfJury_74 : decode cX4_tellOfJury 74 = .ok (.ireturn, 1) := by decide +kernel
set_option maxRecDepth 20000 in
theorem ggX4_differentWords_X2_size : GoodIn wsX4_differentWords wsX2_size := goodIn_r _ [6, 7, 37, 38, 39, 40, 41] (by decide +kernel) (by decide +kernel)
set_option maxRecDepth 20000 in
theorem gX4_differentWords_X2_size : GoodIn wsX4_differentWords (wsV RX4 44 RX2 yX2_size wsX2_size) := goodIn_app (goodIn_of _ (by decide +kernel)) ggX4_differentWords_X2_size
set_option maxRecDepth 20000 in
theorem ggX4_differentWords_X4_isFirstWithItsWord : GoodIn wsX4_differentWords wsX4_isFirstWithItsWord := goodIn_r _ [12, 13, 14, 15, 16, 17, 18, 19, 20, 21, 22, 23, 24, 25, 26, 27, 28, 29, 30, 31, 32, 33, 34, 35, 36, 42, 43, 44, 45, 46, 47, 48, 49, 50] (by decide +kernel) (by decide +kernel)
set_option maxRecDepth 20000 in
theorem gX4_differentWords_X4_isFirstWithItsWord : GoodIn wsX4_differentWords (wsV RX4 207 RX4 yX4_isFirstWithItsWord wsX4_isFirstWithItsWord) := goodIn_app (goodIn_of _ (by decide +kernel)) ggX4_differentWords_X4_isFirstWithItsWord
theorem dX4_differentWords_0 : decode cX4_differentWords 0 = .ok (.aload_n 0, 1) := by decide +kernel
theorem dX4_differentWords_1 : decode cX4_differentWords 1 = .ok (.getfield 10, 3) := by decide +kernel
theorem dX4_differentWords_4 : decode cX4_differentWords 4 = .ok (.invokevirtual 44, 3) := by decide +kernel
theorem dX4_differentWords_7 : decode cX4_differentWords 7 = .ok (.istore_n 1, 1) := by decide +kernel
theorem dX4_differentWords_8 : decode cX4_differentWords 8 = .ok (.iconst 0, 1) := by decide +kernel
theorem dX4_differentWords_9 : decode cX4_differentWords 9 = .ok (.istore_n 2, 1) := by decide +kernel
theorem dX4_differentWords_10 : decode cX4_differentWords 10 = .ok (.iconst 0, 1) := by decide +kernel
theorem dX4_differentWords_11 : decode cX4_differentWords 11 = .ok (.istore_n 3, 1) := by decide +kernel
theorem dX4_differentWords_12 : decode cX4_differentWords 12 = .ok (.iload_n 3, 1) := by decide +kernel
theorem dX4_differentWords_13 : decode cX4_differentWords 13 = .ok (.iload_n 1, 1) := by decide +kernel
theorem dX4_differentWords_14 : decode cX4_differentWords 14 = .ok (.if_icmp .ge 20, 3) := by decide +kernel
theorem dX4_differentWords_17 : decode cX4_differentWords 17 = .ok (.aload_n 0, 1) := by decide +kernel
theorem dX4_differentWords_18 : decode cX4_differentWords 18 = .ok (.iload_n 3, 1) := by decide +kernel
theorem dX4_differentWords_19 : decode cX4_differentWords 19 = .ok (.invokevirtual 207, 3) := by decide +kernel
theorem dX4_differentWords_22 : decode cX4_differentWords 22 = .ok (.ifCond .eq 6, 3) := by decide +kernel
theorem dX4_differentWords_25 : decode cX4_differentWords 25 = .ok (.iinc 2 1, 3) := by decide +kernel
theorem dX4_differentWords_28 : decode cX4_differentWords 28 = .ok (.iinc 3 1, 3) := by decide +kernel
theorem dX4_differentWords_31 : decode cX4_differentWords 31 = .ok (.goto (-19), 3) := by decide +kernel
theorem dX4_differentWords_34 : decode cX4_differentWords 34 = .ok (.iload_n 2, 1) := by decide +kernel
theorem dX4_differentWords_35 : decode cX4_differentWords 35 = .ok (.ireturn, 1) := by decide +kernel
set_option maxRecDepth 20000 in
theorem ggX4_isFirstWithItsWord_X3_word : GoodIn wsX4_isFirstWithItsWord wsX3_word := goodIn_r _ [6, 7, 8, 9, 10, 11, 12, 13, 14, 15, 16, 17, 18, 19, 20, 25, 26, 27, 28, 29, 30, 31, 32, 33] (by decide +kernel) (by decide +kernel)
set_option maxRecDepth 20000 in
theorem gX4_isFirstWithItsWord_X3_word : GoodIn wsX4_isFirstWithItsWord (wsV RX4 93 RX3 yX3_word wsX3_word) := goodIn_app (goodIn_of _ (by decide +kernel)) ggX4_isFirstWithItsWord_X3_word
theorem dX4_isFirstWithItsWord_0 : decode cX4_isFirstWithItsWord 0 = .ok (.aload_n 0, 1) := by decide +kernel
theorem dX4_isFirstWithItsWord_1 : decode cX4_isFirstWithItsWord 1 = .ok (.getfield 19, 3) := by decide +kernel
theorem dX4_isFirstWithItsWord_4 : decode cX4_isFirstWithItsWord 4 = .ok (.iload_n 1, 1) := by decide +kernel
theorem dX4_isFirstWithItsWord_5 : decode cX4_isFirstWithItsWord 5 = .ok (.invokevirtual 93, 3) := by decide +kernel
theorem dX4_isFirstWithItsWord_8 : decode cX4_isFirstWithItsWord 8 = .ok (.istore_n 2, 1) := by decide +kernel
theorem dX4_isFirstWithItsWord_9 : decode cX4_isFirstWithItsWord 9 = .ok (.iconst 0, 1) := by decide +kernel
theorem dX4_isFirstWithItsWord_10 : decode cX4_isFirstWithItsWord 10 = .ok (.istore_n 3, 1) := by decide +kernel
theorem dX4_isFirstWithItsWord_11 : decode cX4_isFirstWithItsWord 11 = .ok (.iload_n 3, 1) := by decide +kernel
theorem dX4_isFirstWithItsWord_12 : decode cX4_isFirstWithItsWord 12 = .ok (.iload_n 1, 1) := by decide +kernel
theorem dX4_isFirstWithItsWord_13 : decode cX4_isFirstWithItsWord 13 = .ok (.if_icmp .ge 23, 3) := by decide +kernel
theorem dX4_isFirstWithItsWord_16 : decode cX4_isFirstWithItsWord 16 = .ok (.aload_n 0, 1) := by decide +kernel
theorem dX4_isFirstWithItsWord_17 : decode cX4_isFirstWithItsWord 17 = .ok (.getfield 19, 3) := by decide +kernel
theorem dX4_isFirstWithItsWord_20 : decode cX4_isFirstWithItsWord 20 = .ok (.iload_n 3, 1) := by decide +kernel
theorem dX4_isFirstWithItsWord_21 : decode cX4_isFirstWithItsWord 21 = .ok (.invokevirtual 93, 3) := by decide +kernel
theorem dX4_isFirstWithItsWord_24 : decode cX4_isFirstWithItsWord 24 = .ok (.iload_n 2, 1) := by decide +kernel
theorem dX4_isFirstWithItsWord_25 : decode cX4_isFirstWithItsWord 25 = .ok (.if_icmp .ne 5, 3) := by decide +kernel
theorem dX4_isFirstWithItsWord_28 : decode cX4_isFirstWithItsWord 28 = .ok (.iconst 0, 1) := by decide +kernel
theorem dX4_isFirstWithItsWord_29 : decode cX4_isFirstWithItsWord 29 = .ok (.ireturn, 1) := by decide +kernel
theorem dX4_isFirstWithItsWord_30 : decode cX4_isFirstWithItsWord 30 = .ok (.iinc 3 1, 3) := by decide +kernel
theorem dX4_isFirstWithItsWord_33 : decode cX4_isFirstWithItsWord 33 = .ok (.goto (-22), 3) := by decide +kernel
theorem dX4_isFirstWithItsWord_36 : decode cX4_isFirstWithItsWord 36 = .ok (.iconst 1, 1) := by decide +kernel
theorem dX4_isFirstWithItsWord_37 : decode cX4_isFirstWithItsWord 37 = .ok (.ireturn, 1) := by decide +kernel
set_option maxRecDepth 20000 in
theorem ggX4_halvesFromCourt_X2_size : GoodIn wsX4_halvesFromCourt wsX2_size := goodIn_r _ [7, 8, 32, 33, 34, 35, 36] (by decide +kernel) (by decide +kernel)
set_option maxRecDepth 20000 in
theorem gX4_halvesFromCourt_X2_size : GoodIn wsX4_halvesFromCourt (wsV RX4 44 RX2 yX2_size wsX2_size) := goodIn_app (goodIn_of _ (by decide +kernel)) ggX4_halvesFromCourt_X2_size
set_option maxRecDepth 20000 in
theorem ggX4_halvesFromCourt_X3_halves : GoodIn wsX4_halvesFromCourt wsX3_halves := goodIn_r _ [13, 14, 15, 37, 38, 39, 40, 41] (by decide +kernel) (by decide +kernel)
set_option maxRecDepth 20000 in
theorem gX4_halvesFromCourt_X3_halves : GoodIn wsX4_halvesFromCourt (wsV RX4 118 RX3 yX3_halves wsX3_halves) := goodIn_app (goodIn_of _ (by decide +kernel)) ggX4_halvesFromCourt_X3_halves
set_option maxRecDepth 20000 in
theorem ggX4_halvesFromCourt_X0_from : GoodIn wsX4_halvesFromCourt wsX0_from := goodIn_r _ [20, 21, 22, 23, 24, 25, 26, 27, 42, 43, 44, 45] (by decide +kernel) (by decide +kernel)
set_option maxRecDepth 20000 in
theorem gX4_halvesFromCourt_X0_from : GoodIn wsX4_halvesFromCourt (wsV RX4 192 RX0 yX0_from wsX0_from) := goodIn_app (goodIn_of _ (by decide +kernel)) ggX4_halvesFromCourt_X0_from
theorem dX4_halvesFromCourt_0 : decode cX4_halvesFromCourt 0 = .ok (.aload_n 0, 1) := by decide +kernel
theorem dX4_halvesFromCourt_1 : decode cX4_halvesFromCourt 1 = .ok (.getfield 10, 3) := by decide +kernel
theorem dX4_halvesFromCourt_4 : decode cX4_halvesFromCourt 4 = .ok (.invokevirtual 44, 3) := by decide +kernel
theorem dX4_halvesFromCourt_7 : decode cX4_halvesFromCourt 7 = .ok (.istore_n 1, 1) := by decide +kernel
theorem dX4_halvesFromCourt_8 : decode cX4_halvesFromCourt 8 = .ok (.iconst 0, 1) := by decide +kernel
theorem dX4_halvesFromCourt_9 : decode cX4_halvesFromCourt 9 = .ok (.istore_n 2, 1) := by decide +kernel
theorem dX4_halvesFromCourt_10 : decode cX4_halvesFromCourt 10 = .ok (.iconst 0, 1) := by decide +kernel
theorem dX4_halvesFromCourt_11 : decode cX4_halvesFromCourt 11 = .ok (.istore_n 3, 1) := by decide +kernel
theorem dX4_halvesFromCourt_12 : decode cX4_halvesFromCourt 12 = .ok (.iload_n 3, 1) := by decide +kernel
theorem dX4_halvesFromCourt_13 : decode cX4_halvesFromCourt 13 = .ok (.iload_n 1, 1) := by decide +kernel
theorem dX4_halvesFromCourt_14 : decode cX4_halvesFromCourt 14 = .ok (.if_icmp .ge 47, 3) := by decide +kernel
theorem dX4_halvesFromCourt_17 : decode cX4_halvesFromCourt 17 = .ok (.aload_n 0, 1) := by decide +kernel
theorem dX4_halvesFromCourt_18 : decode cX4_halvesFromCourt 18 = .ok (.getfield 19, 3) := by decide +kernel
theorem dX4_halvesFromCourt_21 : decode cX4_halvesFromCourt 21 = .ok (.iconst 0, 1) := by decide +kernel
theorem dX4_halvesFromCourt_22 : decode cX4_halvesFromCourt 22 = .ok (.invokevirtual 118, 3) := by decide +kernel
theorem dX4_halvesFromCourt_25 : decode cX4_halvesFromCourt 25 = .ok (.iload_n 3, 1) := by decide +kernel
theorem dX4_halvesFromCourt_26 : decode cX4_halvesFromCourt 26 = .ok (.invokevirtual 192, 3) := by decide +kernel
theorem dX4_halvesFromCourt_29 : decode cX4_halvesFromCourt 29 = .ok (.iconst (-1), 1) := by decide +kernel
theorem dX4_halvesFromCourt_30 : decode cX4_halvesFromCourt 30 = .ok (.if_icmp .ne 6, 3) := by decide +kernel
theorem dX4_halvesFromCourt_33 : decode cX4_halvesFromCourt 33 = .ok (.iinc 2 1, 3) := by decide +kernel
theorem dX4_halvesFromCourt_36 : decode cX4_halvesFromCourt 36 = .ok (.aload_n 0, 1) := by decide +kernel
theorem dX4_halvesFromCourt_37 : decode cX4_halvesFromCourt 37 = .ok (.getfield 19, 3) := by decide +kernel
theorem dX4_halvesFromCourt_40 : decode cX4_halvesFromCourt 40 = .ok (.iconst 1, 1) := by decide +kernel
theorem dX4_halvesFromCourt_41 : decode cX4_halvesFromCourt 41 = .ok (.invokevirtual 118, 3) := by decide +kernel
theorem dX4_halvesFromCourt_44 : decode cX4_halvesFromCourt 44 = .ok (.iload_n 3, 1) := by decide +kernel
theorem dX4_halvesFromCourt_45 : decode cX4_halvesFromCourt 45 = .ok (.invokevirtual 192, 3) := by decide +kernel
theorem dX4_halvesFromCourt_48 : decode cX4_halvesFromCourt 48 = .ok (.iconst (-1), 1) := by decide +kernel
theorem dX4_halvesFromCourt_49 : decode cX4_halvesFromCourt 49 = .ok (.if_icmp .ne 6, 3) := by decide +kernel
theorem dX4_halvesFromCourt_52 : decode cX4_halvesFromCourt 52 = .ok (.iinc 2 1, 3) := by decide +kernel
theorem dX4_halvesFromCourt_55 : decode cX4_halvesFromCourt 55 = .ok (.iinc 3 1, 3) := by decide +kernel
theorem dX4_halvesFromCourt_58 : decode cX4_halvesFromCourt 58 = .ok (.goto (-46), 3) := by decide +kernel
theorem dX4_halvesFromCourt_61 : decode cX4_halvesFromCourt 61 = .ok (.iload_n 2, 1) := by decide +kernel
theorem dX4_halvesFromCourt_62 : decode cX4_halvesFromCourt 62 = .ok (.ireturn, 1) := by decide +kernel
set_option maxRecDepth 20000 in
theorem ggX4_sureOfAll_X2_size : GoodIn wsX4_sureOfAll wsX2_size := goodIn_r _ [7, 8, 25, 26, 27, 28, 29] (by decide +kernel) (by decide +kernel)
set_option maxRecDepth 20000 in
theorem gX4_sureOfAll_X2_size : GoodIn wsX4_sureOfAll (wsV RX4 44 RX2 yX2_size wsX2_size) := goodIn_app (goodIn_of _ (by decide +kernel)) ggX4_sureOfAll_X2_size
set_option maxRecDepth 20000 in
theorem ggX4_sureOfAll_X3_sure : GoodIn wsX4_sureOfAll wsX3_sure := goodIn_r _ [13, 14, 15, 16, 17, 18, 19, 20, 30, 31, 32, 33, 34, 35] (by decide +kernel) (by decide +kernel)
set_option maxRecDepth 20000 in
theorem gX4_sureOfAll_X3_sure : GoodIn wsX4_sureOfAll (wsV RX4 180 RX3 yX3_sure wsX3_sure) := goodIn_app (goodIn_of _ (by decide +kernel)) ggX4_sureOfAll_X3_sure
theorem dX4_sureOfAll_0 : decode cX4_sureOfAll 0 = .ok (.aload_n 0, 1) := by decide +kernel
theorem dX4_sureOfAll_1 : decode cX4_sureOfAll 1 = .ok (.getfield 10, 3) := by decide +kernel
theorem dX4_sureOfAll_4 : decode cX4_sureOfAll 4 = .ok (.invokevirtual 44, 3) := by decide +kernel
theorem dX4_sureOfAll_7 : decode cX4_sureOfAll 7 = .ok (.istore_n 1, 1) := by decide +kernel
theorem dX4_sureOfAll_8 : decode cX4_sureOfAll 8 = .ok (.iconst 0, 1) := by decide +kernel
theorem dX4_sureOfAll_9 : decode cX4_sureOfAll 9 = .ok (.istore_n 2, 1) := by decide +kernel
theorem dX4_sureOfAll_10 : decode cX4_sureOfAll 10 = .ok (.iconst 0, 1) := by decide +kernel
theorem dX4_sureOfAll_11 : decode cX4_sureOfAll 11 = .ok (.istore_n 3, 1) := by decide +kernel
theorem dX4_sureOfAll_12 : decode cX4_sureOfAll 12 = .ok (.iload_n 3, 1) := by decide +kernel
theorem dX4_sureOfAll_13 : decode cX4_sureOfAll 13 = .ok (.iload_n 1, 1) := by decide +kernel
theorem dX4_sureOfAll_14 : decode cX4_sureOfAll 14 = .ok (.if_icmp .ge 20, 3) := by decide +kernel
theorem dX4_sureOfAll_17 : decode cX4_sureOfAll 17 = .ok (.iload_n 2, 1) := by decide +kernel
theorem dX4_sureOfAll_18 : decode cX4_sureOfAll 18 = .ok (.aload_n 0, 1) := by decide +kernel
theorem dX4_sureOfAll_19 : decode cX4_sureOfAll 19 = .ok (.getfield 19, 3) := by decide +kernel
theorem dX4_sureOfAll_22 : decode cX4_sureOfAll 22 = .ok (.iload_n 3, 1) := by decide +kernel
theorem dX4_sureOfAll_23 : decode cX4_sureOfAll 23 = .ok (.invokevirtual 180, 3) := by decide +kernel
theorem dX4_sureOfAll_26 : decode cX4_sureOfAll 26 = .ok (.iadd, 1) := by decide +kernel
theorem dX4_sureOfAll_27 : decode cX4_sureOfAll 27 = .ok (.istore_n 2, 1) := by decide +kernel
theorem dX4_sureOfAll_28 : decode cX4_sureOfAll 28 = .ok (.iinc 3 1, 3) := by decide +kernel
theorem dX4_sureOfAll_31 : decode cX4_sureOfAll 31 = .ok (.goto (-19), 3) := by decide +kernel
theorem dX4_sureOfAll_34 : decode cX4_sureOfAll 34 = .ok (.iload_n 2, 1) := by decide +kernel
theorem dX4_sureOfAll_35 : decode cX4_sureOfAll 35 = .ok (.ireturn, 1) := by decide +kernel
set_option maxRecDepth 20000 in
theorem ggX4_votesIn_X2_size : GoodIn wsX4_votesIn wsX2_size := goodIn_r _ [6, 7, 31, 32, 33, 34, 35] (by decide +kernel) (by decide +kernel)
set_option maxRecDepth 20000 in
theorem gX4_votesIn_X2_size : GoodIn wsX4_votesIn (wsV RX4 44 RX2 yX2_size wsX2_size) := goodIn_app (goodIn_of _ (by decide +kernel)) ggX4_votesIn_X2_size
set_option maxRecDepth 20000 in
theorem ggX4_votesIn_X3_word : GoodIn wsX4_votesIn wsX3_word := goodIn_r _ [12, 13, 14, 15, 16, 17, 18, 19, 20, 21, 22, 23, 24, 25, 26, 36, 37, 38, 39, 40, 41, 42, 43, 44] (by decide +kernel) (by decide +kernel)
set_option maxRecDepth 20000 in
theorem gX4_votesIn_X3_word : GoodIn wsX4_votesIn (wsV RX4 93 RX3 yX3_word wsX3_word) := goodIn_app (goodIn_of _ (by decide +kernel)) ggX4_votesIn_X3_word
theorem dX4_votesIn_0 : decode cX4_votesIn 0 = .ok (.aload_n 0, 1) := by decide +kernel
theorem dX4_votesIn_1 : decode cX4_votesIn 1 = .ok (.getfield 10, 3) := by decide +kernel
theorem dX4_votesIn_4 : decode cX4_votesIn 4 = .ok (.invokevirtual 44, 3) := by decide +kernel
theorem dX4_votesIn_7 : decode cX4_votesIn 7 = .ok (.istore_n 3, 1) := by decide +kernel
theorem dX4_votesIn_8 : decode cX4_votesIn 8 = .ok (.iconst 0, 1) := by decide +kernel
theorem dX4_votesIn_9 : decode cX4_votesIn 9 = .ok (.istore 4, 2) := by decide +kernel
theorem dX4_votesIn_11 : decode cX4_votesIn 11 = .ok (.iconst 0, 1) := by decide +kernel
theorem dX4_votesIn_12 : decode cX4_votesIn 12 = .ok (.istore 5, 2) := by decide +kernel
theorem dX4_votesIn_14 : decode cX4_votesIn 14 = .ok (.iload 5, 2) := by decide +kernel
theorem dX4_votesIn_16 : decode cX4_votesIn 16 = .ok (.iload_n 3, 1) := by decide +kernel
theorem dX4_votesIn_17 : decode cX4_votesIn 17 = .ok (.if_icmp .ge 22, 3) := by decide +kernel
theorem dX4_votesIn_20 : decode cX4_votesIn 20 = .ok (.aload_n 1, 1) := by decide +kernel
theorem dX4_votesIn_21 : decode cX4_votesIn 21 = .ok (.iload 5, 2) := by decide +kernel
theorem dX4_votesIn_23 : decode cX4_votesIn 23 = .ok (.invokevirtual 93, 3) := by decide +kernel
theorem dX4_votesIn_26 : decode cX4_votesIn 26 = .ok (.iload_n 2, 1) := by decide +kernel
theorem dX4_votesIn_27 : decode cX4_votesIn 27 = .ok (.if_icmp .ne 6, 3) := by decide +kernel
theorem dX4_votesIn_30 : decode cX4_votesIn 30 = .ok (.iinc 4 1, 3) := by decide +kernel
theorem dX4_votesIn_33 : decode cX4_votesIn 33 = .ok (.iinc 5 1, 3) := by decide +kernel
theorem dX4_votesIn_36 : decode cX4_votesIn 36 = .ok (.goto (-22), 3) := by decide +kernel
theorem dX4_votesIn_39 : decode cX4_votesIn 39 = .ok (.iload 4, 2) := by decide +kernel
theorem dX4_votesIn_41 : decode cX4_votesIn 41 = .ok (.ireturn, 1) := by decide +kernel
set_option maxRecDepth 20000 in
theorem ggX4_sayTheSame_X2_size : GoodIn wsX4_sayTheSame wsX2_size := goodIn_r _ [6, 7, 36, 37, 38, 39, 40] (by decide +kernel) (by decide +kernel)
set_option maxRecDepth 20000 in
theorem gX4_sayTheSame_X2_size : GoodIn wsX4_sayTheSame (wsV RX4 44 RX2 yX2_size wsX2_size) := goodIn_app (goodIn_of _ (by decide +kernel)) ggX4_sayTheSame_X2_size
set_option maxRecDepth 20000 in
theorem ggX4_sayTheSame_X3_word : GoodIn wsX4_sayTheSame wsX3_word := goodIn_r _ [12, 13, 14, 15, 16, 17, 18, 19, 20, 21, 22, 23, 24, 25, 26, 41, 42, 43, 44, 45, 46, 47, 48, 49] (by decide +kernel) (by decide +kernel)
set_option maxRecDepth 20000 in
theorem gX4_sayTheSame_X3_word : GoodIn wsX4_sayTheSame (wsV RX4 93 RX3 yX3_word wsX3_word) := goodIn_app (goodIn_of _ (by decide +kernel)) ggX4_sayTheSame_X3_word
set_option maxRecDepth 20000 in
theorem ggX4_sayTheSame_X4_votesIn : GoodIn wsX4_sayTheSame wsX4_votesIn := goodIn_r _ [31, 1, 2, 3, 4, 5, 6, 7, 8, 9, 10, 11, 12, 13, 14, 15, 16, 17, 18, 19, 20, 21, 22, 23, 24, 25, 26, 32, 33, 34, 35, 36, 37, 38, 39, 40, 41, 42, 43, 44, 45, 46, 47, 48, 49] (by decide +kernel) (by decide +kernel)
set_option maxRecDepth 20000 in
theorem gX4_sayTheSame_X4_votesIn : GoodIn wsX4_sayTheSame (wsV RX4 114 RX4 yX4_votesIn wsX4_votesIn) := goodIn_app (goodIn_of _ (by decide +kernel)) ggX4_sayTheSame_X4_votesIn
theorem dX4_sayTheSame_0 : decode cX4_sayTheSame 0 = .ok (.aload_n 0, 1) := by decide +kernel
theorem dX4_sayTheSame_1 : decode cX4_sayTheSame 1 = .ok (.getfield 10, 3) := by decide +kernel
theorem dX4_sayTheSame_4 : decode cX4_sayTheSame 4 = .ok (.invokevirtual 44, 3) := by decide +kernel
theorem dX4_sayTheSame_7 : decode cX4_sayTheSame 7 = .ok (.istore_n 2, 1) := by decide +kernel
theorem dX4_sayTheSame_8 : decode cX4_sayTheSame 8 = .ok (.aload_n 0, 1) := by decide +kernel
theorem dX4_sayTheSame_9 : decode cX4_sayTheSame 9 = .ok (.aload_n 1, 1) := by decide +kernel
theorem dX4_sayTheSame_10 : decode cX4_sayTheSame 10 = .ok (.aload_n 1, 1) := by decide +kernel
theorem dX4_sayTheSame_11 : decode cX4_sayTheSame 11 = .ok (.iconst 0, 1) := by decide +kernel
theorem dX4_sayTheSame_12 : decode cX4_sayTheSame 12 = .ok (.invokevirtual 93, 3) := by decide +kernel
theorem dX4_sayTheSame_15 : decode cX4_sayTheSame 15 = .ok (.invokevirtual 114, 3) := by decide +kernel
theorem dX4_sayTheSame_18 : decode cX4_sayTheSame 18 = .ok (.iload_n 2, 1) := by decide +kernel
theorem dX4_sayTheSame_19 : decode cX4_sayTheSame 19 = .ok (.if_icmp .ne 7, 3) := by decide +kernel
theorem dX4_sayTheSame_22 : decode cX4_sayTheSame 22 = .ok (.iconst 1, 1) := by decide +kernel
theorem dX4_sayTheSame_23 : decode cX4_sayTheSame 23 = .ok (.goto 4, 3) := by decide +kernel
theorem dX4_sayTheSame_26 : decode cX4_sayTheSame 26 = .ok (.iconst 0, 1) := by decide +kernel
theorem dX4_sayTheSame_27 : decode cX4_sayTheSame 27 = .ok (.ireturn, 1) := by decide +kernel
theorem dX4_mix_0 : decode cX4_mix 0 = .ok (.lload_n 0, 1) := by decide +kernel
theorem dX4_mix_1 : decode cX4_mix 1 = .ok (.ldc2_w 211, 3) := by decide +kernel
theorem dX4_mix_4 : decode cX4_mix 4 = .ok (.lmul, 1) := by decide +kernel
theorem dX4_mix_5 : decode cX4_mix 5 = .ok (.iload_n 2, 1) := by decide +kernel
theorem dX4_mix_6 : decode cX4_mix 6 = .ok (.i2l, 1) := by decide +kernel
theorem dX4_mix_7 : decode cX4_mix 7 = .ok (.ladd, 1) := by decide +kernel
theorem dX4_mix_8 : decode cX4_mix 8 = .ok (.lreturn, 1) := by decide +kernel
set_option maxRecDepth 20000 in
theorem ggX4_mixParrot_X4_tellOfParrot : GoodIn wsX4_mixParrot wsX4_tellOfParrot := goodIn_r _ [6, 7, 1, 8, 9, 10, 11, 12, 13, 14, 15, 16, 17, 18, 19, 20, 21, 22, 23, 24, 25, 26, 27, 28, 29, 30, 31, 32, 33, 34, 35, 36, 37, 38, 39, 40, 41, 42, 43, 44, 45, 46, 47, 48, 49, 50, 51, 52, 53, 54, 55, 56, 57, 58, 59, 60, 61, 62, 63, 64, 65, 66, 67, 92, 93, 94, 95, 96, 97, 98, 99, 100, 101, 102, 103, 104, 105, 106, 107, 108, 109] (by decide +kernel) (by decide +kernel)
set_option maxRecDepth 20000 in
theorem gX4_mixParrot_X4_tellOfParrot : GoodIn wsX4_mixParrot (wsV RX4 99 RX4 yX4_tellOfParrot wsX4_tellOfParrot) := goodIn_app (goodIn_of _ (by decide +kernel)) ggX4_mixParrot_X4_tellOfParrot
set_option maxRecDepth 20000 in
theorem ggX4_mixParrot_X4_mix : GoodIn wsX4_mixParrot wsX4_mix := goodIn_r _ [70, 71] (by decide +kernel) (by decide +kernel)
set_option maxRecDepth 20000 in
theorem gX4_mixParrot_X4_mix : GoodIn wsX4_mixParrot (va_wsS RX4 163 yX4_mix wsX4_mix) := goodIn_app (goodIn_of _ (by decide +kernel)) ggX4_mixParrot_X4_mix
set_option maxRecDepth 20000 in
theorem ggX4_mixParrot_X4_tellOfHalf : GoodIn wsX4_mixParrot wsX4_tellOfHalf := goodIn_r _ [75, 7, 76, 77, 78, 11, 79, 14, 13, 80, 16, 17, 18, 19, 20, 21, 22, 23, 24, 25, 26, 81, 82, 83, 84, 85, 86, 87, 88, 89, 90, 92, 93, 94, 95, 96, 97, 98, 99, 100, 101, 102, 103, 104] (by decide +kernel) (by decide +kernel)
set_option maxRecDepth 20000 in
theorem gX4_mixParrot_X4_tellOfHalf : GoodIn wsX4_mixParrot (wsV RX4 102 RX4 yX4_tellOfHalf wsX4_tellOfHalf) := goodIn_app (goodIn_of _ (by decide +kernel)) ggX4_mixParrot_X4_tellOfHalf
set_option maxRecDepth 20000 in
theorem ggX4_mixParrot_X2_listening : GoodIn wsX4_mixParrot wsX2_listening := goodIn_r _ [48, 49, 39, 22, 23, 24, 25, 26, 105, 106, 107, 108, 109, 104] (by decide +kernel) (by decide +kernel)
set_option maxRecDepth 20000 in
theorem gX4_mixParrot_X2_listening : GoodIn wsX4_mixParrot (wsV RX4 73 RX2 yX2_listening wsX2_listening) := goodIn_app (goodIn_of _ (by decide +kernel)) ggX4_mixParrot_X2_listening
set_option maxRecDepth 20000 in
theorem ggX4_mixParrot_X2_other : GoodIn wsX4_mixParrot wsX2_other := goodIn_r _ [62, 63, 39, 22, 23, 24, 25, 26, 105, 106, 107, 108, 109, 104] (by decide +kernel) (by decide +kernel)
set_option maxRecDepth 20000 in
theorem gX4_mixParrot_X2_other : GoodIn wsX4_mixParrot (wsV RX4 111 RX2 yX2_other wsX2_other) := goodIn_app (goodIn_of _ (by decide +kernel)) ggX4_mixParrot_X2_other
theorem dX4_mixParrot_0 : decode cX4_mixParrot 0 = .ok (.lload_n 1, 1) := by decide +kernel
theorem dX4_mixParrot_1 : decode cX4_mixParrot 1 = .ok (.lstore 4, 2) := by decide +kernel
theorem dX4_mixParrot_3 : decode cX4_mixParrot 3 = .ok (.iconst 0, 1) := by decide +kernel
theorem dX4_mixParrot_4 : decode cX4_mixParrot 4 = .ok (.istore 6, 2) := by decide +kernel
theorem dX4_mixParrot_6 : decode cX4_mixParrot 6 = .ok (.iload 6, 2) := by decide +kernel
theorem dX4_mixParrot_8 : decode cX4_mixParrot 8 = .ok (.bipush 6, 2) := by decide +kernel
theorem dX4_mixParrot_10 : decode cX4_mixParrot 10 = .ok (.if_icmp .gt 23, 3) := by decide +kernel
theorem dX4_mixParrot_13 : decode cX4_mixParrot 13 = .ok (.lload 4, 2) := by decide +kernel
theorem dX4_mixParrot_15 : decode cX4_mixParrot 15 = .ok (.aload_n 0, 1) := by decide +kernel
theorem dX4_mixParrot_16 : decode cX4_mixParrot 16 = .ok (.iload_n 3, 1) := by decide +kernel
theorem dX4_mixParrot_17 : decode cX4_mixParrot 17 = .ok (.iload 6, 2) := by decide +kernel
theorem dX4_mixParrot_19 : decode cX4_mixParrot 19 = .ok (.invokevirtual 99, 3) := by decide +kernel
theorem dX4_mixParrot_22 : decode cX4_mixParrot 22 = .ok (.invokestatic 163, 3) := by decide +kernel
theorem dX4_mixParrot_25 : decode cX4_mixParrot 25 = .ok (.lstore 4, 2) := by decide +kernel
theorem dX4_mixParrot_27 : decode cX4_mixParrot 27 = .ok (.iinc 6 1, 3) := by decide +kernel
theorem dX4_mixParrot_30 : decode cX4_mixParrot 30 = .ok (.goto (-24), 3) := by decide +kernel
theorem dX4_mixParrot_33 : decode cX4_mixParrot 33 = .ok (.iconst 0, 1) := by decide +kernel
theorem dX4_mixParrot_34 : decode cX4_mixParrot 34 = .ok (.istore 6, 2) := by decide +kernel
theorem dX4_mixParrot_36 : decode cX4_mixParrot 36 = .ok (.iload 6, 2) := by decide +kernel
theorem dX4_mixParrot_38 : decode cX4_mixParrot 38 = .ok (.iconst 2, 1) := by decide +kernel
theorem dX4_mixParrot_39 : decode cX4_mixParrot 39 = .ok (.if_icmp .gt 24, 3) := by decide +kernel
theorem dX4_mixParrot_42 : decode cX4_mixParrot 42 = .ok (.lload 4, 2) := by decide +kernel
theorem dX4_mixParrot_44 : decode cX4_mixParrot 44 = .ok (.aload_n 0, 1) := by decide +kernel
theorem dX4_mixParrot_45 : decode cX4_mixParrot 45 = .ok (.iload_n 3, 1) := by decide +kernel
theorem dX4_mixParrot_46 : decode cX4_mixParrot 46 = .ok (.iconst 0, 1) := by decide +kernel
theorem dX4_mixParrot_47 : decode cX4_mixParrot 47 = .ok (.iload 6, 2) := by decide +kernel
theorem dX4_mixParrot_49 : decode cX4_mixParrot 49 = .ok (.invokevirtual 102, 3) := by decide +kernel
theorem dX4_mixParrot_52 : decode cX4_mixParrot 52 = .ok (.invokestatic 163, 3) := by decide +kernel
theorem dX4_mixParrot_55 : decode cX4_mixParrot 55 = .ok (.lstore 4, 2) := by decide +kernel
theorem dX4_mixParrot_57 : decode cX4_mixParrot 57 = .ok (.iinc 6 1, 3) := by decide +kernel
theorem dX4_mixParrot_60 : decode cX4_mixParrot 60 = .ok (.goto (-24), 3) := by decide +kernel
theorem dX4_mixParrot_63 : decode cX4_mixParrot 63 = .ok (.iconst 0, 1) := by decide +kernel
theorem dX4_mixParrot_64 : decode cX4_mixParrot 64 = .ok (.istore 6, 2) := by decide +kernel
theorem dX4_mixParrot_66 : decode cX4_mixParrot 66 = .ok (.iload 6, 2) := by decide +kernel
theorem dX4_mixParrot_68 : decode cX4_mixParrot 68 = .ok (.iconst 2, 1) := by decide +kernel
theorem dX4_mixParrot_69 : decode cX4_mixParrot 69 = .ok (.if_icmp .gt 24, 3) := by decide +kernel
theorem dX4_mixParrot_72 : decode cX4_mixParrot 72 = .ok (.lload 4, 2) := by decide +kernel
theorem dX4_mixParrot_74 : decode cX4_mixParrot 74 = .ok (.aload_n 0, 1) := by decide +kernel
theorem dX4_mixParrot_75 : decode cX4_mixParrot 75 = .ok (.iload_n 3, 1) := by decide +kernel
theorem dX4_mixParrot_76 : decode cX4_mixParrot 76 = .ok (.iconst 1, 1) := by decide +kernel
theorem dX4_mixParrot_77 : decode cX4_mixParrot 77 = .ok (.iload 6, 2) := by decide +kernel
theorem dX4_mixParrot_79 : decode cX4_mixParrot 79 = .ok (.invokevirtual 102, 3) := by decide +kernel
theorem dX4_mixParrot_82 : decode cX4_mixParrot 82 = .ok (.invokestatic 163, 3) := by decide +kernel
theorem dX4_mixParrot_85 : decode cX4_mixParrot 85 = .ok (.lstore 4, 2) := by decide +kernel
theorem dX4_mixParrot_87 : decode cX4_mixParrot 87 = .ok (.iinc 6 1, 3) := by decide +kernel
theorem dX4_mixParrot_90 : decode cX4_mixParrot 90 = .ok (.goto (-24), 3) := by decide +kernel
theorem dX4_mixParrot_93 : decode cX4_mixParrot 93 = .ok (.aload_n 0, 1) := by decide +kernel
theorem dX4_mixParrot_94 : decode cX4_mixParrot 94 = .ok (.getfield 10, 3) := by decide +kernel
theorem dX4_mixParrot_97 : decode cX4_mixParrot 97 = .ok (.iload_n 3, 1) := by decide +kernel
theorem dX4_mixParrot_98 : decode cX4_mixParrot 98 = .ok (.invokevirtual 73, 3) := by decide +kernel
theorem dX4_mixParrot_101 : decode cX4_mixParrot 101 = .ok (.istore 6, 2) := by decide +kernel
theorem dX4_mixParrot_103 : decode cX4_mixParrot 103 = .ok (.iconst 0, 1) := by decide +kernel
theorem dX4_mixParrot_104 : decode cX4_mixParrot 104 = .ok (.istore 7, 2) := by decide +kernel
theorem dX4_mixParrot_106 : decode cX4_mixParrot 106 = .ok (.iload 7, 2) := by decide +kernel
theorem dX4_mixParrot_108 : decode cX4_mixParrot 108 = .ok (.iload 6, 2) := by decide +kernel
theorem dX4_mixParrot_110 : decode cX4_mixParrot 110 = .ok (.if_icmp .ge 26, 3) := by decide +kernel
theorem dX4_mixParrot_113 : decode cX4_mixParrot 113 = .ok (.lload 4, 2) := by decide +kernel
theorem dX4_mixParrot_115 : decode cX4_mixParrot 115 = .ok (.aload_n 0, 1) := by decide +kernel
theorem dX4_mixParrot_116 : decode cX4_mixParrot 116 = .ok (.getfield 10, 3) := by decide +kernel
theorem dX4_mixParrot_119 : decode cX4_mixParrot 119 = .ok (.iload_n 3, 1) := by decide +kernel
theorem dX4_mixParrot_120 : decode cX4_mixParrot 120 = .ok (.iload 7, 2) := by decide +kernel
theorem dX4_mixParrot_122 : decode cX4_mixParrot 122 = .ok (.invokevirtual 111, 3) := by decide +kernel
theorem dX4_mixParrot_125 : decode cX4_mixParrot 125 = .ok (.invokestatic 163, 3) := by decide +kernel
theorem dX4_mixParrot_128 : decode cX4_mixParrot 128 = .ok (.lstore 4, 2) := by decide +kernel
theorem dX4_mixParrot_130 : decode cX4_mixParrot 130 = .ok (.iinc 7 1, 3) := by decide +kernel
theorem dX4_mixParrot_133 : decode cX4_mixParrot 133 = .ok (.goto (-27), 3) := by decide +kernel
theorem dX4_mixParrot_136 : decode cX4_mixParrot 136 = .ok (.lload 4, 2) := by decide +kernel
theorem dX4_mixParrot_138 : decode cX4_mixParrot 138 = .ok (.lreturn, 1) := by decide +kernel
set_option maxRecDepth 20000 in
theorem ggX4_votesIfWhispered_X3_copyFrom : GoodIn wsX4_votesIfWhispered wsX3_copyFrom := goodIn_r _ [9, 10, 11, 12, 13, 14, 15, 16, 17, 18, 19, 20, 21, 22, 23, 24, 25, 26, 27, 28, 29, 30, 31, 32, 33, 34, 35, 36, 37, 132, 133, 134, 135, 136, 137, 138, 139, 140] (by decide +kernel) (by decide +kernel)
set_option maxRecDepth 20000 in
theorem gX4_votesIfWhispered_X3_copyFrom : GoodIn wsX4_votesIfWhispered (wsV RX4 140 RX3 yX3_copyFrom wsX3_copyFrom) := goodIn_app (goodIn_of _ (by decide +kernel)) ggX4_votesIfWhispered_X3_copyFrom
set_option maxRecDepth 20000 in
theorem ggX4_votesIfWhispered_X3_takeFromCourt : GoodIn wsX4_votesIfWhispered wsX3_takeFromCourt := goodIn_r _ [41, 13, 14, 12, 42, 43, 44, 32, 45, 34, 35, 36, 46, 47, 48, 18, 49, 20, 50, 132, 133, 134, 135, 136, 138, 139, 140, 137] (by decide +kernel) (by decide +kernel)
set_option maxRecDepth 20000 in
theorem gX4_votesIfWhispered_X3_takeFromCourt : GoodIn wsX4_votesIfWhispered (wsV RX4 57 RX3 yX3_takeFromCourt wsX3_takeFromCourt) := goodIn_app (goodIn_of _ (by decide +kernel)) ggX4_votesIfWhispered_X3_takeFromCourt
set_option maxRecDepth 20000 in
theorem ggX4_votesIfWhispered_X3_goRounds : GoodIn wsX4_votesIfWhispered wsX3_goRounds := goodIn_r _ [54, 10, 55, 6, 7, 8, 9, 11, 12, 13, 14, 15, 16, 17, 18, 19, 20, 21, 22, 23, 24, 25, 26, 27, 28, 29, 30, 31, 32, 33, 34, 35, 36, 37, 56, 57, 58, 59, 60, 61, 62, 63, 64, 65, 66, 67, 68, 69, 70, 71, 72, 73, 74, 75, 76, 77, 78, 79, 80, 81, 82, 83, 84, 85, 86, 87, 88, 89, 90, 91, 92, 93, 94, 95, 96, 97, 98, 99, 50, 47, 48, 49, 100, 101, 102, 103, 104, 105, 106, 107, 108, 46, 109, 110, 111, 112, 113, 114, 115, 116, 117, 118, 119, 120, 132, 133, 134, 135, 136, 137, 138, 139, 140, 141, 142, 143, 144, 145] (by decide +kernel) (by decide +kernel)
set_option maxRecDepth 20000 in
theorem gX4_votesIfWhispered_X3_goRounds : GoodIn wsX4_votesIfWhispered (wsV RX4 136 RX3 yX3_goRounds wsX3_goRounds) := goodIn_app (goodIn_of _ (by decide +kernel)) ggX4_votesIfWhispered_X3_goRounds
set_option maxRecDepth 20000 in
theorem ggX4_votesIfWhispered_X4_votesIn : GoodIn wsX4_votesIfWhispered wsX4_votesIn := goodIn_r _ [125, 3, 126, 61, 62, 63, 64, 65, 127, 92, 93, 8, 94, 13, 14, 95, 96, 97, 32, 98, 34, 99, 73, 74, 18, 75, 20, 128, 129, 130, 131, 141, 142, 143, 144, 145, 132, 133, 134, 135, 136, 138, 139, 140, 137] (by decide +kernel) (by decide +kernel)
set_option maxRecDepth 20000 in
theorem gX4_votesIfWhispered_X4_votesIn : GoodIn wsX4_votesIfWhispered (wsV RX4 114 RX4 yX4_votesIn wsX4_votesIn) := goodIn_app (goodIn_of _ (by decide +kernel)) ggX4_votesIfWhispered_X4_votesIn
theorem dX4_votesIfWhispered_0 : decode cX4_votesIfWhispered 0 = .ok (.aload_n 0, 1) := by decide +kernel
theorem dX4_votesIfWhispered_1 : decode cX4_votesIfWhispered 1 = .ok (.getfield 23, 3) := by decide +kernel
theorem dX4_votesIfWhispered_4 : decode cX4_votesIfWhispered 4 = .ok (.aload_n 0, 1) := by decide +kernel
theorem dX4_votesIfWhispered_5 : decode cX4_votesIfWhispered 5 = .ok (.getfield 19, 3) := by decide +kernel
theorem dX4_votesIfWhispered_8 : decode cX4_votesIfWhispered 8 = .ok (.invokevirtual 140, 3) := by decide +kernel
theorem dX4_votesIfWhispered_11 : decode cX4_votesIfWhispered 11 = .ok (.aload_n 0, 1) := by decide +kernel
theorem dX4_votesIfWhispered_12 : decode cX4_votesIfWhispered 12 = .ok (.getfield 23, 3) := by decide +kernel
theorem dX4_votesIfWhispered_15 : decode cX4_votesIfWhispered 15 = .ok (.iload_n 1, 1) := by decide +kernel
theorem dX4_votesIfWhispered_16 : decode cX4_votesIfWhispered 16 = .ok (.iload_n 2, 1) := by decide +kernel
theorem dX4_votesIfWhispered_17 : decode cX4_votesIfWhispered 17 = .ok (.bipush 9, 2) := by decide +kernel
theorem dX4_votesIfWhispered_19 : decode cX4_votesIfWhispered 19 = .ok (.invokevirtual 57, 3) := by decide +kernel
theorem dX4_votesIfWhispered_22 : decode cX4_votesIfWhispered 22 = .ok (.aload_n 0, 1) := by decide +kernel
theorem dX4_votesIfWhispered_23 : decode cX4_votesIfWhispered 23 = .ok (.getfield 23, 3) := by decide +kernel
theorem dX4_votesIfWhispered_26 : decode cX4_votesIfWhispered 26 = .ok (.aload_n 0, 1) := by decide +kernel
theorem dX4_votesIfWhispered_27 : decode cX4_votesIfWhispered 27 = .ok (.getfield 10, 3) := by decide +kernel
theorem dX4_votesIfWhispered_30 : decode cX4_votesIfWhispered 30 = .ok (.aload_n 0, 1) := by decide +kernel
theorem dX4_votesIfWhispered_31 : decode cX4_votesIfWhispered 31 = .ok (.getfield 26, 3) := by decide +kernel
theorem dX4_votesIfWhispered_34 : decode cX4_votesIfWhispered 34 = .ok (.iload_n 3, 1) := by decide +kernel
theorem dX4_votesIfWhispered_35 : decode cX4_votesIfWhispered 35 = .ok (.invokevirtual 136, 3) := by decide +kernel
theorem dX4_votesIfWhispered_38 : decode cX4_votesIfWhispered 38 = .ok (.aload_n 0, 1) := by decide +kernel
theorem dX4_votesIfWhispered_39 : decode cX4_votesIfWhispered 39 = .ok (.aload_n 0, 1) := by decide +kernel
theorem dX4_votesIfWhispered_40 : decode cX4_votesIfWhispered 40 = .ok (.getfield 23, 3) := by decide +kernel
theorem dX4_votesIfWhispered_43 : decode cX4_votesIfWhispered 43 = .ok (.iload_n 2, 1) := by decide +kernel
theorem dX4_votesIfWhispered_44 : decode cX4_votesIfWhispered 44 = .ok (.invokevirtual 114, 3) := by decide +kernel
theorem dX4_votesIfWhispered_47 : decode cX4_votesIfWhispered 47 = .ok (.ireturn, 1) := by decide +kernel
theorem dX5_init_0 : decode cX5_init 0 = .ok (.aload_n 0, 1) := by decide +kernel
theorem dX5_init_1 : decode cX5_init 1 = .ok (.invokespecial 1, 3) := by decide +kernel
theorem dX5_init_4 : decode cX5_init 4 = .ok (.aload_n 0, 1) := by decide +kernel
theorem dX5_init_5 : decode cX5_init 5 = .ok (.bipush 120, 2) := by decide +kernel
theorem dX5_init_7 : decode cX5_init 7 = .ok (.newarray .int, 2) := by decide +kernel
theorem dX5_init_9 : decode cX5_init 9 = .ok (.putfield 9, 3) := by decide +kernel
theorem dX5_init_12 : decode cX5_init 12 = .ok (.aload_n 0, 1) := by decide +kernel
theorem dX5_init_13 : decode cX5_init 13 = .ok (.bipush 120, 2) := by decide +kernel
theorem dX5_init_15 : decode cX5_init 15 = .ok (.newarray .int, 2) := by decide +kernel
theorem dX5_init_17 : decode cX5_init 17 = .ok (.putfield 13, 3) := by decide +kernel
theorem dX5_init_20 : decode cX5_init 20 = .ok (.aload_n 0, 1) := by decide +kernel
theorem dX5_init_21 : decode cX5_init 21 = .ok (.bipush 48, 2) := by decide +kernel
theorem dX5_init_23 : decode cX5_init 23 = .ok (.newarray .int, 2) := by decide +kernel
theorem dX5_init_25 : decode cX5_init 25 = .ok (.putfield 16, 3) := by decide +kernel
theorem dX5_init_28 : decode cX5_init 28 = .ok (.aload_n 0, 1) := by decide +kernel
theorem dX5_init_29 : decode cX5_init 29 = .ok (.iconst 2, 1) := by decide +kernel
theorem dX5_init_30 : decode cX5_init 30 = .ok (.newarray .int, 2) := by decide +kernel
theorem dX5_init_32 : decode cX5_init 32 = .ok (.dup, 1) := by decide +kernel
theorem dX5_init_33 : decode cX5_init 33 = .ok (.iconst 0, 1) := by decide +kernel
theorem dX5_init_34 : decode cX5_init 34 = .ok (.iconst 0, 1) := by decide +kernel
theorem dX5_init_35 : decode cX5_init 35 = .ok (.iastore, 1) := by decide +kernel
theorem dX5_init_36 : decode cX5_init 36 = .ok (.dup, 1) := by decide +kernel
theorem dX5_init_37 : decode cX5_init 37 = .ok (.iconst 1, 1) := by decide +kernel
theorem dX5_init_38 : decode cX5_init 38 = .ok (.iconst 0, 1) := by decide +kernel
theorem dX5_init_39 : decode cX5_init 39 = .ok (.iastore, 1) := by decide +kernel
theorem dX5_init_40 : decode cX5_init 40 = .ok (.putfield 19, 3) := by decide +kernel
theorem dX5_init_43 : decode cX5_init 43 = .ok (.return_, 1) := by decide +kernel
theorem dX5_thrown_0 : decode cX5_thrown 0 = .ok (.aload_n 0, 1) := by decide +kernel
theorem dX5_thrown_1 : decode cX5_thrown 1 = .ok (.getfield 22, 3) := by decide +kernel
theorem dX5_thrown_4 : decode cX5_thrown 4 = .ok (.ireturn, 1) := by decide +kernel
theorem dX5_fail_0 : decode cX5_fail 0 = .ok (.aload_n 0, 1) := by decide +kernel
theorem dX5_fail_1 : decode cX5_fail 1 = .ok (.iload_n 1, 1) := by decide +kernel
theorem dX5_fail_2 : decode cX5_fail 2 = .ok (.putfield 22, 3) := by decide +kernel
theorem dX5_fail_5 : decode cX5_fail 5 = .ok (.iconst 0, 1) := by decide +kernel
theorem dX5_fail_6 : decode cX5_fail 6 = .ok (.ireturn, 1) := by decide +kernel
theorem dX5_isIn_0 : decode cX5_isIn 0 = .ok (.iload_n 0, 1) := by decide +kernel
theorem dX5_isIn_1 : decode cX5_isIn 1 = .ok (.iload_n 1, 1) := by decide +kernel
theorem dX5_isIn_2 : decode cX5_isIn 2 = .ok (.if_icmp .lt 12, 3) := by decide +kernel
theorem dX5_isIn_5 : decode cX5_isIn 5 = .ok (.iload_n 0, 1) := by decide +kernel
theorem dX5_isIn_6 : decode cX5_isIn 6 = .ok (.iload_n 2, 1) := by decide +kernel
theorem dX5_isIn_7 : decode cX5_isIn 7 = .ok (.if_icmp .gt 7, 3) := by decide +kernel
theorem dX5_isIn_10 : decode cX5_isIn 10 = .ok (.iconst 1, 1) := by decide +kernel
theorem dX5_isIn_11 : decode cX5_isIn 11 = .ok (.goto 4, 3) := by decide +kernel
theorem dX5_isIn_14 : decode cX5_isIn 14 = .ok (.iconst 0, 1) := by decide +kernel
theorem dX5_isIn_15 : decode cX5_isIn 15 = .ok (.ireturn, 1) := by decide +kernel
set_option maxRecDepth 20000 in
theorem ggX5_isParrot_X5_isIn : GoodIn wsX5_isParrot wsX5_isIn := goodIn_r _ [5] (by decide +kernel) (by decide +kernel)
set_option maxRecDepth 20000 in
theorem gX5_isParrot_X5_isIn : GoodIn wsX5_isParrot (va_wsS RX5 29 yX5_isIn wsX5_isIn) := goodIn_app (goodIn_of _ (by decide +kernel)) ggX5_isParrot_X5_isIn
theorem dX5_isParrot_0 : decode cX5_isParrot 0 = .ok (.iload_n 1, 1) := by decide +kernel
theorem dX5_isParrot_1 : decode cX5_isParrot 1 = .ok (.iconst 0, 1) := by decide +kernel
theorem dX5_isParrot_2 : decode cX5_isParrot 2 = .ok (.aload_n 0, 1) := by decide +kernel
theorem dX5_isParrot_3 : decode cX5_isParrot 3 = .ok (.getfield 26, 3) := by decide +kernel
theorem dX5_isParrot_6 : decode cX5_isParrot 6 = .ok (.iconst 1, 1) := by decide +kernel
theorem dX5_isParrot_7 : decode cX5_isParrot 7 = .ok (.isub, 1) := by decide +kernel
theorem dX5_isParrot_8 : decode cX5_isParrot 8 = .ok (.invokestatic 29, 3) := by decide +kernel
theorem dX5_isParrot_11 : decode cX5_isParrot 11 = .ok (.ireturn, 1) := by decide +kernel
set_option maxRecDepth 20000 in
theorem ggX5_isWord_X5_isIn : GoodIn wsX5_isWord wsX5_isIn := goodIn_r _ [4] (by decide +kernel) (by decide +kernel)
set_option maxRecDepth 20000 in
theorem gX5_isWord_X5_isIn : GoodIn wsX5_isWord (va_wsS RX5 29 yX5_isIn wsX5_isIn) := goodIn_app (goodIn_of _ (by decide +kernel)) ggX5_isWord_X5_isIn
theorem dX5_isWord_0 : decode cX5_isWord 0 = .ok (.iload_n 0, 1) := by decide +kernel
theorem dX5_isWord_1 : decode cX5_isWord 1 = .ok (.iconst 0, 1) := by decide +kernel
theorem dX5_isWord_2 : decode cX5_isWord 2 = .ok (.sipush 9999, 3) := by decide +kernel
theorem dX5_isWord_5 : decode cX5_isWord 5 = .ok (.invokestatic 29, 3) := by decide +kernel
theorem dX5_isWord_8 : decode cX5_isWord 8 = .ok (.ireturn, 1) := by decide +kernel
theorem dX5_ju_0 : decode cX5_ju 0 = .ok (.aload_n 0, 1) := by decide +kernel
theorem dX5_ju_1 : decode cX5_ju 1 = .ok (.getfield 9, 3) := by decide +kernel
theorem dX5_ju_4 : decode cX5_ju 4 = .ok (.bipush 10, 2) := by decide +kernel
theorem dX5_ju_6 : decode cX5_ju 6 = .ok (.iload_n 1, 1) := by decide +kernel
theorem dX5_ju_7 : decode cX5_ju 7 = .ok (.imul, 1) := by decide +kernel
theorem dX5_ju_8 : decode cX5_ju 8 = .ok (.iload_n 2, 1) := by decide +kernel
theorem dX5_ju_9 : decode cX5_ju 9 = .ok (.iadd, 1) := by decide +kernel
theorem dX5_ju_10 : decode cX5_ju 10 = .ok (.iaload, 1) := by decide +kernel
theorem dX5_ju_11 : decode cX5_ju 11 = .ok (.ireturn, 1) := by decide +kernel
theorem dX5_put_0 : decode cX5_put 0 = .ok (.aload_n 0, 1) := by decide +kernel
theorem dX5_put_1 : decode cX5_put 1 = .ok (.getfield 9, 3) := by decide +kernel
theorem dX5_put_4 : decode cX5_put 4 = .ok (.bipush 10, 2) := by decide +kernel
theorem dX5_put_6 : decode cX5_put 6 = .ok (.iload_n 1, 1) := by decide +kernel
theorem dX5_put_7 : decode cX5_put 7 = .ok (.imul, 1) := by decide +kernel
theorem dX5_put_8 : decode cX5_put 8 = .ok (.iload_n 2, 1) := by decide +kernel
theorem dX5_put_9 : decode cX5_put 9 = .ok (.iadd, 1) := by decide +kernel
theorem dX5_put_10 : decode cX5_put 10 = .ok (.iload_n 3, 1) := by decide +kernel
theorem dX5_put_11 : decode cX5_put 11 = .ok (.iastore, 1) := by decide +kernel
theorem dX5_put_12 : decode cX5_put 12 = .ok (.return_, 1) := by decide +kernel
set_option maxRecDepth 20000 in
theorem ggX5_word_X5_ju : GoodIn wsX5_word wsX5_ju := goodIn_r _ [5, 6, 7, 8, 9, 10, 11, 12] (by decide +kernel) (by decide +kernel)
set_option maxRecDepth 20000 in
theorem gX5_word_X5_ju : GoodIn wsX5_word (wsV RX5 33 RX5 yX5_ju wsX5_ju) := goodIn_app (goodIn_of _ (by decide +kernel)) ggX5_word_X5_ju
theorem dX5_word_0 : decode cX5_word 0 = .ok (.bipush 100, 2) := by decide +kernel
theorem dX5_word_2 : decode cX5_word 2 = .ok (.aload_n 0, 1) := by decide +kernel
theorem dX5_word_3 : decode cX5_word 3 = .ok (.iload_n 1, 1) := by decide +kernel
theorem dX5_word_4 : decode cX5_word 4 = .ok (.iconst 0, 1) := by decide +kernel
theorem dX5_word_5 : decode cX5_word 5 = .ok (.invokevirtual 33, 3) := by decide +kernel
theorem dX5_word_8 : decode cX5_word 8 = .ok (.imul, 1) := by decide +kernel
theorem dX5_word_9 : decode cX5_word 9 = .ok (.aload_n 0, 1) := by decide +kernel
theorem dX5_word_10 : decode cX5_word 10 = .ok (.iload_n 1, 1) := by decide +kernel
theorem dX5_word_11 : decode cX5_word 11 = .ok (.iconst 1, 1) := by decide +kernel
theorem dX5_word_12 : decode cX5_word 12 = .ok (.invokevirtual 33, 3) := by decide +kernel
theorem dX5_word_15 : decode cX5_word 15 = .ok (.iadd, 1) := by decide +kernel
theorem dX5_word_16 : decode cX5_word 16 = .ok (.ireturn, 1) := by decide +kernel
set_option maxRecDepth 20000 in
theorem ggX5_come_X5_isIn : GoodIn wsX5_come wsX5_isIn := goodIn_r _ [12] (by decide +kernel) (by decide +kernel)
set_option maxRecDepth 20000 in
theorem gX5_come_X5_isIn : GoodIn wsX5_come (va_wsS RX5 29 yX5_isIn wsX5_isIn) := goodIn_app (goodIn_of _ (by decide +kernel)) ggX5_come_X5_isIn
set_option maxRecDepth 20000 in
theorem ggX5_come_X5_fail : GoodIn wsX5_come wsX5_fail := goodIn_r _ [16, 1, 17, 18, 19, 20, 21, 22] (by decide +kernel) (by decide +kernel)
set_option maxRecDepth 20000 in
theorem gX5_come_X5_fail : GoodIn wsX5_come (wsV RX5 37 RX5 yX5_fail wsX5_fail) := goodIn_app (goodIn_of _ (by decide +kernel)) ggX5_come_X5_fail
theorem dX5_come_0 : decode cX5_come 0 = .ok (.aload_n 0, 1) := by decide +kernel
theorem dX5_come_1 : decode cX5_come 1 = .ok (.iconst 0, 1) := by decide +kernel
theorem dX5_come_2 : decode cX5_come 2 = .ok (.putfield 22, 3) := by decide +kernel
theorem dX5_come_5 : decode cX5_come 5 = .ok (.iload_n 1, 1) := by decide +kernel
theorem dX5_come_6 : decode cX5_come 6 = .ok (.iconst 1, 1) := by decide +kernel
theorem dX5_come_7 : decode cX5_come 7 = .ok (.bipush 9, 2) := by decide +kernel
theorem dX5_come_9 : decode cX5_come 9 = .ok (.invokestatic 29, 3) := by decide +kernel
theorem dX5_come_12 : decode cX5_come 12 = .ok (.ifCond .eq 12, 3) := by decide +kernel
theorem dX5_come_15 : decode cX5_come 15 = .ok (.iload_n 2, 1) := by decide +kernel
theorem dX5_come_16 : decode cX5_come 16 = .ok (.iconst 1, 1) := by decide +kernel
theorem dX5_come_17 : decode cX5_come 17 = .ok (.iconst 5, 1) := by decide +kernel
theorem dX5_come_18 : decode cX5_come 18 = .ok (.invokestatic 29, 3) := by decide +kernel
theorem dX5_come_21 : decode cX5_come 21 = .ok (.ifCond .ne 9, 3) := by decide +kernel
theorem dX5_come_24 : decode cX5_come 24 = .ok (.aload_n 0, 1) := by decide +kernel
theorem dX5_come_25 : decode cX5_come 25 = .ok (.iconst 1, 1) := by decide +kernel
theorem dX5_come_26 : decode cX5_come 26 = .ok (.invokevirtual 37, 3) := by decide +kernel
theorem dX5_come_29 : decode cX5_come 29 = .ok (.ireturn, 1) := by decide +kernel
theorem dX5_come_30 : decode cX5_come 30 = .ok (.aload_n 0, 1) := by decide +kernel
theorem dX5_come_31 : decode cX5_come 31 = .ok (.getfield 26, 3) := by decide +kernel
theorem dX5_come_34 : decode cX5_come 34 = .ok (.bipush 12, 2) := by decide +kernel
theorem dX5_come_36 : decode cX5_come 36 = .ok (.if_icmp .ne 9, 3) := by decide +kernel
theorem dX5_come_39 : decode cX5_come 39 = .ok (.aload_n 0, 1) := by decide +kernel
theorem dX5_come_40 : decode cX5_come 40 = .ok (.iconst 2, 1) := by decide +kernel
theorem dX5_come_41 : decode cX5_come 41 = .ok (.invokevirtual 37, 3) := by decide +kernel
theorem dX5_come_44 : decode cX5_come 44 = .ok (.ireturn, 1) := by decide +kernel
theorem dX5_come_45 : decode cX5_come 45 = .ok (.bipush 10, 2) := by decide +kernel
theorem dX5_come_47 : decode cX5_come 47 = .ok (.newarray .int, 2) := by decide +kernel
theorem dX5_come_49 : decode cX5_come 49 = .ok (.dup, 1) := by decide +kernel
theorem dX5_come_50 : decode cX5_come 50 = .ok (.iconst 0, 1) := by decide +kernel
theorem dX5_come_51 : decode cX5_come 51 = .ok (.iconst 0, 1) := by decide +kernel
theorem dX5_come_52 : decode cX5_come 52 = .ok (.iastore, 1) := by decide +kernel
theorem dX5_come_53 : decode cX5_come 53 = .ok (.dup, 1) := by decide +kernel
theorem dX5_come_54 : decode cX5_come 54 = .ok (.iconst 1, 1) := by decide +kernel
theorem dX5_come_55 : decode cX5_come 55 = .ok (.iconst 0, 1) := by decide +kernel
theorem dX5_come_56 : decode cX5_come 56 = .ok (.iastore, 1) := by decide +kernel
theorem dX5_come_57 : decode cX5_come 57 = .ok (.dup, 1) := by decide +kernel
theorem dX5_come_58 : decode cX5_come 58 = .ok (.iconst 2, 1) := by decide +kernel
theorem dX5_come_59 : decode cX5_come 59 = .ok (.iconst (-1), 1) := by decide +kernel
theorem dX5_come_60 : decode cX5_come 60 = .ok (.iastore, 1) := by decide +kernel
theorem dX5_come_61 : decode cX5_come 61 = .ok (.dup, 1) := by decide +kernel
theorem dX5_come_62 : decode cX5_come 62 = .ok (.iconst 3, 1) := by decide +kernel
theorem dX5_come_63 : decode cX5_come 63 = .ok (.iconst (-1), 1) := by decide +kernel
theorem dX5_come_64 : decode cX5_come 64 = .ok (.iastore, 1) := by decide +kernel
theorem dX5_come_65 : decode cX5_come 65 = .ok (.dup, 1) := by decide +kernel
theorem dX5_come_66 : decode cX5_come 66 = .ok (.iconst 4, 1) := by decide +kernel
theorem dX5_come_67 : decode cX5_come 67 = .ok (.iconst 0, 1) := by decide +kernel
theorem dX5_come_68 : decode cX5_come 68 = .ok (.iastore, 1) := by decide +kernel
theorem dX5_come_69 : decode cX5_come 69 = .ok (.dup, 1) := by decide +kernel
theorem dX5_come_70 : decode cX5_come 70 = .ok (.iconst 5, 1) := by decide +kernel
theorem dX5_come_71 : decode cX5_come 71 = .ok (.iconst 0, 1) := by decide +kernel
theorem dX5_come_72 : decode cX5_come 72 = .ok (.iastore, 1) := by decide +kernel
theorem dX5_come_73 : decode cX5_come 73 = .ok (.dup, 1) := by decide +kernel
theorem dX5_come_74 : decode cX5_come 74 = .ok (.bipush 6, 2) := by decide +kernel
theorem dX5_come_76 : decode cX5_come 76 = .ok (.iconst 0, 1) := by decide +kernel
theorem dX5_come_77 : decode cX5_come 77 = .ok (.iastore, 1) := by decide +kernel
theorem dX5_come_78 : decode cX5_come 78 = .ok (.dup, 1) := by decide +kernel
theorem dX5_come_79 : decode cX5_come 79 = .ok (.bipush 7, 2) := by decide +kernel
theorem dX5_come_81 : decode cX5_come 81 = .ok (.iload_n 1, 1) := by decide +kernel
theorem dX5_come_82 : decode cX5_come 82 = .ok (.iastore, 1) := by decide +kernel
theorem dX5_come_83 : decode cX5_come 83 = .ok (.dup, 1) := by decide +kernel
theorem dX5_come_84 : decode cX5_come 84 = .ok (.bipush 8, 2) := by decide +kernel
theorem dX5_come_86 : decode cX5_come 86 = .ok (.iload_n 2, 1) := by decide +kernel
theorem dX5_come_87 : decode cX5_come 87 = .ok (.iastore, 1) := by decide +kernel
theorem dX5_come_88 : decode cX5_come 88 = .ok (.dup, 1) := by decide +kernel
theorem dX5_come_89 : decode cX5_come 89 = .ok (.bipush 9, 2) := by decide +kernel
theorem dX5_come_91 : decode cX5_come 91 = .ok (.iconst 0, 1) := by decide +kernel
theorem dX5_come_92 : decode cX5_come 92 = .ok (.iastore, 1) := by decide +kernel
theorem dX5_come_93 : decode cX5_come 93 = .ok (.astore_n 3, 1) := by decide +kernel
theorem dX5_come_94 : decode cX5_come 94 = .ok (.aload_n 3, 1) := by decide +kernel
theorem dX5_come_95 : decode cX5_come 95 = .ok (.iconst 0, 1) := by decide +kernel
theorem dX5_come_96 : decode cX5_come 96 = .ok (.aload_n 0, 1) := by decide +kernel
theorem dX5_come_97 : decode cX5_come 97 = .ok (.getfield 9, 3) := by decide +kernel
theorem dX5_come_100 : decode cX5_come 100 = .ok (.bipush 10, 2) := by decide +kernel
theorem dX5_come_102 : decode cX5_come 102 = .ok (.aload_n 0, 1) := by decide +kernel
theorem dX5_come_103 : decode cX5_come 103 = .ok (.getfield 26, 3) := by decide +kernel
theorem dX5_come_106 : decode cX5_come 106 = .ok (.imul, 1) := by decide +kernel
theorem dX5_come_107 : decode cX5_come 107 = .ok (.bipush 10, 2) := by decide +kernel
theorem dX5_come_109 : decode cX5_come 109 = .ok (.invokestatic 41, 3) := by decide +kernel
theorem dX5_come_112 : decode cX5_come 112 = .ok (.aload_n 0, 1) := by decide +kernel
theorem dX5_come_113 : decode cX5_come 113 = .ok (.dup, 1) := by decide +kernel
theorem dX5_come_114 : decode cX5_come 114 = .ok (.getfield 26, 3) := by decide +kernel
theorem dX5_come_117 : decode cX5_come 117 = .ok (.iconst 1, 1) := by decide +kernel
theorem dX5_come_118 : decode cX5_come 118 = .ok (.iadd, 1) := by decide +kernel
theorem dX5_come_119 : decode cX5_come 119 = .ok (.putfield 26, 3) := by decide +kernel
theorem dX5_come_122 : decode cX5_come 122 = .ok (.aload_n 0, 1) := by decide +kernel
theorem dX5_come_123 : decode cX5_come 123 = .ok (.getfield 26, 3) := by decide +kernel
theorem dX5_come_126 : decode cX5_come 126 = .ok (.iconst 1, 1) := by decide +kernel
theorem dX5_come_127 : decode cX5_come 127 = .ok (.isub, 1) := by decide +kernel
theorem dX5_come_128 : decode cX5_come 128 = .ok (.ireturn, 1) := by decide +kernel
set_option maxRecDepth 20000 in
theorem ggX5_place_X5_ju : GoodIn wsX5_place wsX5_ju := goodIn_r _ [6, 7, 8, 9, 10, 11, 12, 13] (by decide +kernel) (by decide +kernel)
set_option maxRecDepth 20000 in
theorem gX5_place_X5_ju : GoodIn wsX5_place (wsV RX5 33 RX5 yX5_ju wsX5_ju) := goodIn_app (goodIn_of _ (by decide +kernel)) ggX5_place_X5_ju
theorem dX5_place_0 : decode cX5_place 0 = .ok (.iconst 0, 1) := by decide +kernel
theorem dX5_place_1 : decode cX5_place 1 = .ok (.istore_n 3, 1) := by decide +kernel
theorem dX5_place_2 : decode cX5_place 2 = .ok (.iload_n 3, 1) := by decide +kernel
theorem dX5_place_3 : decode cX5_place 3 = .ok (.aload_n 0, 1) := by decide +kernel
theorem dX5_place_4 : decode cX5_place 4 = .ok (.iload_n 1, 1) := by decide +kernel
theorem dX5_place_5 : decode cX5_place 5 = .ok (.bipush 9, 2) := by decide +kernel
theorem dX5_place_7 : decode cX5_place 7 = .ok (.invokevirtual 33, 3) := by decide +kernel
theorem dX5_place_10 : decode cX5_place 10 = .ok (.if_icmp .ge 25, 3) := by decide +kernel
theorem dX5_place_13 : decode cX5_place 13 = .ok (.aload_n 0, 1) := by decide +kernel
theorem dX5_place_14 : decode cX5_place 14 = .ok (.getfield 16, 3) := by decide +kernel
theorem dX5_place_17 : decode cX5_place 17 = .ok (.iconst 4, 1) := by decide +kernel
theorem dX5_place_18 : decode cX5_place 18 = .ok (.iload_n 1, 1) := by decide +kernel
theorem dX5_place_19 : decode cX5_place 19 = .ok (.imul, 1) := by decide +kernel
theorem dX5_place_20 : decode cX5_place 20 = .ok (.iload_n 3, 1) := by decide +kernel
theorem dX5_place_21 : decode cX5_place 21 = .ok (.iadd, 1) := by decide +kernel
theorem dX5_place_22 : decode cX5_place 22 = .ok (.iaload, 1) := by decide +kernel
theorem dX5_place_23 : decode cX5_place 23 = .ok (.iload_n 2, 1) := by decide +kernel
theorem dX5_place_24 : decode cX5_place 24 = .ok (.if_icmp .ne 5, 3) := by decide +kernel
theorem dX5_place_27 : decode cX5_place 27 = .ok (.iload_n 3, 1) := by decide +kernel
theorem dX5_place_28 : decode cX5_place 28 = .ok (.ireturn, 1) := by decide +kernel
theorem dX5_place_29 : decode cX5_place 29 = .ok (.iinc 3 1, 3) := by decide +kernel
theorem dX5_place_32 : decode cX5_place 32 = .ok (.goto (-30), 3) := by decide +kernel
theorem dX5_place_35 : decode cX5_place 35 = .ok (.iconst (-1), 1) := by decide +kernel
theorem dX5_place_36 : decode cX5_place 36 = .ok (.ireturn, 1) := by decide +kernel
set_option maxRecDepth 20000 in
theorem ggX5_listen_X5_isParrot : GoodIn wsX5_listen wsX5_isParrot := goodIn_r _ [11, 12, 13, 14, 10, 15, 33, 34, 35, 36, 37, 38] (by decide +kernel) (by decide +kernel)
set_option maxRecDepth 20000 in
theorem gX5_listen_X5_isParrot : GoodIn wsX5_listen (wsV RX5 47 RX5 yX5_isParrot wsX5_isParrot) := goodIn_app (goodIn_of _ (by decide +kernel)) ggX5_listen_X5_isParrot
set_option maxRecDepth 20000 in
theorem ggX5_listen_X5_fail : GoodIn wsX5_listen wsX5_fail := goodIn_r _ [19, 1, 33, 34, 35, 36, 37, 38] (by decide +kernel) (by decide +kernel)
set_option maxRecDepth 20000 in
theorem gX5_listen_X5_fail : GoodIn wsX5_listen (wsV RX5 37 RX5 yX5_fail wsX5_fail) := goodIn_app (goodIn_of _ (by decide +kernel)) ggX5_listen_X5_fail
set_option maxRecDepth 20000 in
theorem ggX5_listen_X5_place : GoodIn wsX5_listen wsX5_place := goodIn_r _ [23, 2, 24, 25, 26, 10, 27, 28, 33, 34, 35, 36, 37, 38] (by decide +kernel) (by decide +kernel)
set_option maxRecDepth 20000 in
theorem gX5_listen_X5_place : GoodIn wsX5_listen (wsV RX5 51 RX5 yX5_place wsX5_place) := goodIn_app (goodIn_of _ (by decide +kernel)) ggX5_listen_X5_place
set_option maxRecDepth 20000 in
theorem ggX5_listen_X5_ju : GoodIn wsX5_listen wsX5_ju := goodIn_r _ [27, 28, 33, 34, 35, 36, 37, 38] (by decide +kernel) (by decide +kernel)
set_option maxRecDepth 20000 in
theorem gX5_listen_X5_ju : GoodIn wsX5_listen (wsV RX5 33 RX5 yX5_ju wsX5_ju) := goodIn_app (goodIn_of _ (by decide +kernel)) ggX5_listen_X5_ju
set_option maxRecDepth 20000 in
theorem ggX5_listen_X5_put : GoodIn wsX5_listen wsX5_put := goodIn_r _ [32, 28, 33, 34, 35, 36, 37, 38] (by decide +kernel) (by decide +kernel)
set_option maxRecDepth 20000 in
theorem gX5_listen_X5_put : GoodIn wsX5_listen (wsV RX5 54 RX5 yX5_put wsX5_put) := goodIn_app (goodIn_of _ (by decide +kernel)) ggX5_listen_X5_put
theorem dX5_listen_0 : decode cX5_listen 0 = .ok (.aload_n 0, 1) := by decide +kernel
theorem dX5_listen_1 : decode cX5_listen 1 = .ok (.iconst 0, 1) := by decide +kernel
theorem dX5_listen_2 : decode cX5_listen 2 = .ok (.putfield 22, 3) := by decide +kernel
theorem dX5_listen_5 : decode cX5_listen 5 = .ok (.aload_n 0, 1) := by decide +kernel
theorem dX5_listen_6 : decode cX5_listen 6 = .ok (.iload_n 1, 1) := by decide +kernel
theorem dX5_listen_7 : decode cX5_listen 7 = .ok (.invokevirtual 47, 3) := by decide +kernel
theorem dX5_listen_10 : decode cX5_listen 10 = .ok (.ifCond .eq 11, 3) := by decide +kernel
theorem dX5_listen_13 : decode cX5_listen 13 = .ok (.aload_n 0, 1) := by decide +kernel
theorem dX5_listen_14 : decode cX5_listen 14 = .ok (.iload_n 2, 1) := by decide +kernel
theorem dX5_listen_15 : decode cX5_listen 15 = .ok (.invokevirtual 47, 3) := by decide +kernel
theorem dX5_listen_18 : decode cX5_listen 18 = .ok (.ifCond .ne 9, 3) := by decide +kernel
theorem dX5_listen_21 : decode cX5_listen 21 = .ok (.aload_n 0, 1) := by decide +kernel
theorem dX5_listen_22 : decode cX5_listen 22 = .ok (.iconst 1, 1) := by decide +kernel
theorem dX5_listen_23 : decode cX5_listen 23 = .ok (.invokevirtual 37, 3) := by decide +kernel
theorem dX5_listen_26 : decode cX5_listen 26 = .ok (.ireturn, 1) := by decide +kernel
theorem dX5_listen_27 : decode cX5_listen 27 = .ok (.iload_n 1, 1) := by decide +kernel
theorem dX5_listen_28 : decode cX5_listen 28 = .ok (.iload_n 2, 1) := by decide +kernel
theorem dX5_listen_29 : decode cX5_listen 29 = .ok (.if_icmp .ne 9, 3) := by decide +kernel
theorem dX5_listen_32 : decode cX5_listen 32 = .ok (.aload_n 0, 1) := by decide +kernel
theorem dX5_listen_33 : decode cX5_listen 33 = .ok (.iconst 2, 1) := by decide +kernel
theorem dX5_listen_34 : decode cX5_listen 34 = .ok (.invokevirtual 37, 3) := by decide +kernel
theorem dX5_listen_37 : decode cX5_listen 37 = .ok (.ireturn, 1) := by decide +kernel
theorem dX5_listen_38 : decode cX5_listen 38 = .ok (.aload_n 0, 1) := by decide +kernel
theorem dX5_listen_39 : decode cX5_listen 39 = .ok (.iload_n 1, 1) := by decide +kernel
theorem dX5_listen_40 : decode cX5_listen 40 = .ok (.iload_n 2, 1) := by decide +kernel
theorem dX5_listen_41 : decode cX5_listen 41 = .ok (.invokevirtual 51, 3) := by decide +kernel
theorem dX5_listen_44 : decode cX5_listen 44 = .ok (.istore_n 3, 1) := by decide +kernel
theorem dX5_listen_45 : decode cX5_listen 45 = .ok (.aload_n 0, 1) := by decide +kernel
theorem dX5_listen_46 : decode cX5_listen 46 = .ok (.iload_n 1, 1) := by decide +kernel
theorem dX5_listen_47 : decode cX5_listen 47 = .ok (.bipush 9, 2) := by decide +kernel
theorem dX5_listen_49 : decode cX5_listen 49 = .ok (.invokevirtual 33, 3) := by decide +kernel
theorem dX5_listen_52 : decode cX5_listen 52 = .ok (.istore 4, 2) := by decide +kernel
theorem dX5_listen_54 : decode cX5_listen 54 = .ok (.iload_n 3, 1) := by decide +kernel
theorem dX5_listen_55 : decode cX5_listen 55 = .ok (.iconst (-1), 1) := by decide +kernel
theorem dX5_listen_56 : decode cX5_listen 56 = .ok (.if_icmp .ne 15, 3) := by decide +kernel
theorem dX5_listen_59 : decode cX5_listen 59 = .ok (.iload 4, 2) := by decide +kernel
theorem dX5_listen_61 : decode cX5_listen 61 = .ok (.iconst 4, 1) := by decide +kernel
theorem dX5_listen_62 : decode cX5_listen 62 = .ok (.if_icmp .ne 9, 3) := by decide +kernel
theorem dX5_listen_65 : decode cX5_listen 65 = .ok (.aload_n 0, 1) := by decide +kernel
theorem dX5_listen_66 : decode cX5_listen 66 = .ok (.iconst 3, 1) := by decide +kernel
theorem dX5_listen_67 : decode cX5_listen 67 = .ok (.invokevirtual 37, 3) := by decide +kernel
theorem dX5_listen_70 : decode cX5_listen 70 = .ok (.ireturn, 1) := by decide +kernel
theorem dX5_listen_71 : decode cX5_listen 71 = .ok (.iload_n 3, 1) := by decide +kernel
theorem dX5_listen_72 : decode cX5_listen 72 = .ok (.iconst (-1), 1) := by decide +kernel
theorem dX5_listen_73 : decode cX5_listen 73 = .ok (.if_icmp .ne 18, 3) := by decide +kernel
theorem dX5_listen_76 : decode cX5_listen 76 = .ok (.aload_n 0, 1) := by decide +kernel
theorem dX5_listen_77 : decode cX5_listen 77 = .ok (.getfield 16, 3) := by decide +kernel
theorem dX5_listen_80 : decode cX5_listen 80 = .ok (.iconst 4, 1) := by decide +kernel
theorem dX5_listen_81 : decode cX5_listen 81 = .ok (.iload_n 1, 1) := by decide +kernel
theorem dX5_listen_82 : decode cX5_listen 82 = .ok (.imul, 1) := by decide +kernel
theorem dX5_listen_83 : decode cX5_listen 83 = .ok (.iload 4, 2) := by decide +kernel
theorem dX5_listen_85 : decode cX5_listen 85 = .ok (.iadd, 1) := by decide +kernel
theorem dX5_listen_86 : decode cX5_listen 86 = .ok (.iload_n 2, 1) := by decide +kernel
theorem dX5_listen_87 : decode cX5_listen 87 = .ok (.iastore, 1) := by decide +kernel
theorem dX5_listen_88 : decode cX5_listen 88 = .ok (.goto 32, 3) := by decide +kernel
theorem dX5_listen_91 : decode cX5_listen 91 = .ok (.aload_n 0, 1) := by decide +kernel
theorem dX5_listen_92 : decode cX5_listen 92 = .ok (.getfield 16, 3) := by decide +kernel
theorem dX5_listen_95 : decode cX5_listen 95 = .ok (.iconst 4, 1) := by decide +kernel
theorem dX5_listen_96 : decode cX5_listen 96 = .ok (.iload_n 1, 1) := by decide +kernel
theorem dX5_listen_97 : decode cX5_listen 97 = .ok (.imul, 1) := by decide +kernel
theorem dX5_listen_98 : decode cX5_listen 98 = .ok (.iload_n 3, 1) := by decide +kernel
theorem dX5_listen_99 : decode cX5_listen 99 = .ok (.iadd, 1) := by decide +kernel
theorem dX5_listen_100 : decode cX5_listen 100 = .ok (.iconst 1, 1) := by decide +kernel
theorem dX5_listen_101 : decode cX5_listen 101 = .ok (.iadd, 1) := by decide +kernel
theorem dX5_listen_102 : decode cX5_listen 102 = .ok (.aload_n 0, 1) := by decide +kernel
theorem dX5_listen_103 : decode cX5_listen 103 = .ok (.getfield 16, 3) := by decide +kernel
theorem dX5_listen_106 : decode cX5_listen 106 = .ok (.iconst 4, 1) := by decide +kernel
theorem dX5_listen_107 : decode cX5_listen 107 = .ok (.iload_n 1, 1) := by decide +kernel
theorem dX5_listen_108 : decode cX5_listen 108 = .ok (.imul, 1) := by decide +kernel
theorem dX5_listen_109 : decode cX5_listen 109 = .ok (.iload_n 3, 1) := by decide +kernel
theorem dX5_listen_110 : decode cX5_listen 110 = .ok (.iadd, 1) := by decide +kernel
theorem dX5_listen_111 : decode cX5_listen 111 = .ok (.iload 4, 2) := by decide +kernel
theorem dX5_listen_113 : decode cX5_listen 113 = .ok (.iload_n 3, 1) := by decide +kernel
theorem dX5_listen_114 : decode cX5_listen 114 = .ok (.isub, 1) := by decide +kernel
theorem dX5_listen_115 : decode cX5_listen 115 = .ok (.iconst 1, 1) := by decide +kernel
theorem dX5_listen_116 : decode cX5_listen 116 = .ok (.isub, 1) := by decide +kernel
theorem dX5_listen_117 : decode cX5_listen 117 = .ok (.invokestatic 41, 3) := by decide +kernel
theorem dX5_listen_120 : decode cX5_listen 120 = .ok (.aload_n 0, 1) := by decide +kernel
theorem dX5_listen_121 : decode cX5_listen 121 = .ok (.iload_n 1, 1) := by decide +kernel
theorem dX5_listen_122 : decode cX5_listen 122 = .ok (.bipush 9, 2) := by decide +kernel
theorem dX5_listen_124 : decode cX5_listen 124 = .ok (.iload_n 3, 1) := by decide +kernel
theorem dX5_listen_125 : decode cX5_listen 125 = .ok (.iconst (-1), 1) := by decide +kernel
theorem dX5_listen_126 : decode cX5_listen 126 = .ok (.if_icmp .ne 10, 3) := by decide +kernel
theorem dX5_listen_129 : decode cX5_listen 129 = .ok (.iload 4, 2) := by decide +kernel
theorem dX5_listen_131 : decode cX5_listen 131 = .ok (.iconst 1, 1) := by decide +kernel
theorem dX5_listen_132 : decode cX5_listen 132 = .ok (.iadd, 1) := by decide +kernel
theorem dX5_listen_133 : decode cX5_listen 133 = .ok (.goto 7, 3) := by decide +kernel
theorem dX5_listen_136 : decode cX5_listen 136 = .ok (.iload 4, 2) := by decide +kernel
theorem dX5_listen_138 : decode cX5_listen 138 = .ok (.iconst 1, 1) := by decide +kernel
theorem dX5_listen_139 : decode cX5_listen 139 = .ok (.isub, 1) := by decide +kernel
theorem dX5_listen_140 : decode cX5_listen 140 = .ok (.invokevirtual 54, 3) := by decide +kernel
theorem dX5_listen_143 : decode cX5_listen 143 = .ok (.aload_n 0, 1) := by decide +kernel
theorem dX5_listen_144 : decode cX5_listen 144 = .ok (.iload_n 1, 1) := by decide +kernel
theorem dX5_listen_145 : decode cX5_listen 145 = .ok (.bipush 9, 2) := by decide +kernel
theorem dX5_listen_147 : decode cX5_listen 147 = .ok (.invokevirtual 33, 3) := by decide +kernel
theorem dX5_listen_150 : decode cX5_listen 150 = .ok (.ireturn, 1) := by decide +kernel
set_option maxRecDepth 20000 in
theorem ggX5_raise_X5_isParrot : GoodIn wsX5_raise wsX5_isParrot := goodIn_r _ [6, 7, 8, 9, 5, 10, 24, 25, 26, 27, 28, 29] (by decide +kernel) (by decide +kernel)
set_option maxRecDepth 20000 in
theorem gX5_raise_X5_isParrot : GoodIn wsX5_raise (wsV RX5 47 RX5 yX5_isParrot wsX5_isParrot) := goodIn_app (goodIn_of _ (by decide +kernel)) ggX5_raise_X5_isParrot
set_option maxRecDepth 20000 in
theorem ggX5_raise_X5_fail : GoodIn wsX5_raise wsX5_fail := goodIn_r _ [14, 1, 24, 25, 26, 27, 28, 29] (by decide +kernel) (by decide +kernel)
set_option maxRecDepth 20000 in
theorem gX5_raise_X5_fail : GoodIn wsX5_raise (wsV RX5 37 RX5 yX5_fail wsX5_fail) := goodIn_app (goodIn_of _ (by decide +kernel)) ggX5_raise_X5_fail
set_option maxRecDepth 20000 in
theorem ggX5_raise_X5_isIn : GoodIn wsX5_raise wsX5_isIn := goodIn_r _ [10] (by decide +kernel) (by decide +kernel)
set_option maxRecDepth 20000 in
theorem gX5_raise_X5_isIn : GoodIn wsX5_raise (va_wsS RX5 29 yX5_isIn wsX5_isIn) := goodIn_app (goodIn_of _ (by decide +kernel)) ggX5_raise_X5_isIn
set_option maxRecDepth 20000 in
theorem ggX5_raise_X5_ju : GoodIn wsX5_raise wsX5_ju := goodIn_r _ [18, 19, 24, 25, 26, 27, 28, 29] (by decide +kernel) (by decide +kernel)
set_option maxRecDepth 20000 in
theorem gX5_raise_X5_ju : GoodIn wsX5_raise (wsV RX5 33 RX5 yX5_ju wsX5_ju) := goodIn_app (goodIn_of _ (by decide +kernel)) ggX5_raise_X5_ju
set_option maxRecDepth 20000 in
theorem ggX5_raise_X5_put : GoodIn wsX5_raise wsX5_put := goodIn_r _ [23, 19, 24, 25, 26, 27, 28, 29] (by decide +kernel) (by decide +kernel)
set_option maxRecDepth 20000 in
theorem gX5_raise_X5_put : GoodIn wsX5_raise (wsV RX5 54 RX5 yX5_put wsX5_put) := goodIn_app (goodIn_of _ (by decide +kernel)) ggX5_raise_X5_put
theorem dX5_raise_0 : decode cX5_raise 0 = .ok (.aload_n 0, 1) := by decide +kernel
theorem dX5_raise_1 : decode cX5_raise 1 = .ok (.iconst 0, 1) := by decide +kernel
theorem dX5_raise_2 : decode cX5_raise 2 = .ok (.putfield 22, 3) := by decide +kernel
theorem dX5_raise_5 : decode cX5_raise 5 = .ok (.aload_n 0, 1) := by decide +kernel
theorem dX5_raise_6 : decode cX5_raise 6 = .ok (.iload_n 1, 1) := by decide +kernel
theorem dX5_raise_7 : decode cX5_raise 7 = .ok (.invokevirtual 47, 3) := by decide +kernel
theorem dX5_raise_10 : decode cX5_raise 10 = .ok (.ifCond .ne 9, 3) := by decide +kernel
theorem dX5_raise_13 : decode cX5_raise 13 = .ok (.aload_n 0, 1) := by decide +kernel
theorem dX5_raise_14 : decode cX5_raise 14 = .ok (.iconst 1, 1) := by decide +kernel
theorem dX5_raise_15 : decode cX5_raise 15 = .ok (.invokevirtual 37, 3) := by decide +kernel
theorem dX5_raise_18 : decode cX5_raise 18 = .ok (.ireturn, 1) := by decide +kernel
theorem dX5_raise_19 : decode cX5_raise 19 = .ok (.iload_n 2, 1) := by decide +kernel
theorem dX5_raise_20 : decode cX5_raise 20 = .ok (.iconst 1, 1) := by decide +kernel
theorem dX5_raise_21 : decode cX5_raise 21 = .ok (.iconst 5, 1) := by decide +kernel
theorem dX5_raise_22 : decode cX5_raise 22 = .ok (.invokestatic 29, 3) := by decide +kernel
theorem dX5_raise_25 : decode cX5_raise 25 = .ok (.ifCond .ne 9, 3) := by decide +kernel
theorem dX5_raise_28 : decode cX5_raise 28 = .ok (.aload_n 0, 1) := by decide +kernel
theorem dX5_raise_29 : decode cX5_raise 29 = .ok (.iconst 2, 1) := by decide +kernel
theorem dX5_raise_30 : decode cX5_raise 30 = .ok (.invokevirtual 37, 3) := by decide +kernel
theorem dX5_raise_33 : decode cX5_raise 33 = .ok (.ireturn, 1) := by decide +kernel
theorem dX5_raise_34 : decode cX5_raise 34 = .ok (.aload_n 0, 1) := by decide +kernel
theorem dX5_raise_35 : decode cX5_raise 35 = .ok (.iload_n 1, 1) := by decide +kernel
theorem dX5_raise_36 : decode cX5_raise 36 = .ok (.bipush 8, 2) := by decide +kernel
theorem dX5_raise_38 : decode cX5_raise 38 = .ok (.invokevirtual 33, 3) := by decide +kernel
theorem dX5_raise_41 : decode cX5_raise 41 = .ok (.istore_n 3, 1) := by decide +kernel
theorem dX5_raise_42 : decode cX5_raise 42 = .ok (.aload_n 0, 1) := by decide +kernel
theorem dX5_raise_43 : decode cX5_raise 43 = .ok (.iload_n 1, 1) := by decide +kernel
theorem dX5_raise_44 : decode cX5_raise 44 = .ok (.bipush 8, 2) := by decide +kernel
theorem dX5_raise_46 : decode cX5_raise 46 = .ok (.iload_n 2, 1) := by decide +kernel
theorem dX5_raise_47 : decode cX5_raise 47 = .ok (.invokevirtual 54, 3) := by decide +kernel
theorem dX5_raise_50 : decode cX5_raise 50 = .ok (.iload_n 3, 1) := by decide +kernel
theorem dX5_raise_51 : decode cX5_raise 51 = .ok (.ireturn, 1) := by decide +kernel
theorem dX5_say_0 : decode cX5_say 0 = .ok (.bipush 7, 2) := by decide +kernel
theorem dX5_say_2 : decode cX5_say 2 = .ok (.newarray .int, 2) := by decide +kernel
theorem dX5_say_4 : decode cX5_say 4 = .ok (.dup, 1) := by decide +kernel
theorem dX5_say_5 : decode cX5_say 5 = .ok (.iconst 0, 1) := by decide +kernel
theorem dX5_say_6 : decode cX5_say 6 = .ok (.iload_n 2, 1) := by decide +kernel
theorem dX5_say_7 : decode cX5_say 7 = .ok (.bipush 100, 2) := by decide +kernel
theorem dX5_say_9 : decode cX5_say 9 = .ok (.idiv, 1) := by decide +kernel
theorem dX5_say_10 : decode cX5_say 10 = .ok (.iastore, 1) := by decide +kernel
theorem dX5_say_11 : decode cX5_say 11 = .ok (.dup, 1) := by decide +kernel
theorem dX5_say_12 : decode cX5_say 12 = .ok (.iconst 1, 1) := by decide +kernel
theorem dX5_say_13 : decode cX5_say 13 = .ok (.iload_n 2, 1) := by decide +kernel
theorem dX5_say_14 : decode cX5_say 14 = .ok (.bipush 100, 2) := by decide +kernel
theorem dX5_say_16 : decode cX5_say 16 = .ok (.irem, 1) := by decide +kernel
theorem dX5_say_17 : decode cX5_say 17 = .ok (.iastore, 1) := by decide +kernel
theorem dX5_say_18 : decode cX5_say 18 = .ok (.dup, 1) := by decide +kernel
theorem dX5_say_19 : decode cX5_say 19 = .ok (.iconst 2, 1) := by decide +kernel
theorem dX5_say_20 : decode cX5_say 20 = .ok (.iconst (-1), 1) := by decide +kernel
theorem dX5_say_21 : decode cX5_say 21 = .ok (.iastore, 1) := by decide +kernel
theorem dX5_say_22 : decode cX5_say 22 = .ok (.dup, 1) := by decide +kernel
theorem dX5_say_23 : decode cX5_say 23 = .ok (.iconst 3, 1) := by decide +kernel
theorem dX5_say_24 : decode cX5_say 24 = .ok (.iconst (-1), 1) := by decide +kernel
theorem dX5_say_25 : decode cX5_say 25 = .ok (.iastore, 1) := by decide +kernel
theorem dX5_say_26 : decode cX5_say 26 = .ok (.dup, 1) := by decide +kernel
theorem dX5_say_27 : decode cX5_say 27 = .ok (.iconst 4, 1) := by decide +kernel
theorem dX5_say_28 : decode cX5_say 28 = .ok (.iconst 0, 1) := by decide +kernel
theorem dX5_say_29 : decode cX5_say 29 = .ok (.iastore, 1) := by decide +kernel
theorem dX5_say_30 : decode cX5_say 30 = .ok (.dup, 1) := by decide +kernel
theorem dX5_say_31 : decode cX5_say 31 = .ok (.iconst 5, 1) := by decide +kernel
theorem dX5_say_32 : decode cX5_say 32 = .ok (.iconst 0, 1) := by decide +kernel
theorem dX5_say_33 : decode cX5_say 33 = .ok (.iastore, 1) := by decide +kernel
theorem dX5_say_34 : decode cX5_say 34 = .ok (.dup, 1) := by decide +kernel
theorem dX5_say_35 : decode cX5_say 35 = .ok (.bipush 6, 2) := by decide +kernel
theorem dX5_say_37 : decode cX5_say 37 = .ok (.iload_n 3, 1) := by decide +kernel
theorem dX5_say_38 : decode cX5_say 38 = .ok (.iastore, 1) := by decide +kernel
theorem dX5_say_39 : decode cX5_say 39 = .ok (.astore 4, 2) := by decide +kernel
theorem dX5_say_41 : decode cX5_say 41 = .ok (.aload 4, 2) := by decide +kernel
theorem dX5_say_43 : decode cX5_say 43 = .ok (.iconst 0, 1) := by decide +kernel
theorem dX5_say_44 : decode cX5_say 44 = .ok (.aload_n 0, 1) := by decide +kernel
theorem dX5_say_45 : decode cX5_say 45 = .ok (.getfield 9, 3) := by decide +kernel
theorem dX5_say_48 : decode cX5_say 48 = .ok (.bipush 10, 2) := by decide +kernel
theorem dX5_say_50 : decode cX5_say 50 = .ok (.iload_n 1, 1) := by decide +kernel
theorem dX5_say_51 : decode cX5_say 51 = .ok (.imul, 1) := by decide +kernel
theorem dX5_say_52 : decode cX5_say 52 = .ok (.aload 4, 2) := by decide +kernel
theorem dX5_say_54 : decode cX5_say 54 = .ok (.arraylength, 1) := by decide +kernel
theorem dX5_say_55 : decode cX5_say 55 = .ok (.invokestatic 41, 3) := by decide +kernel
theorem dX5_say_58 : decode cX5_say 58 = .ok (.return_, 1) := by decide +kernel
set_option maxRecDepth 20000 in
theorem ggX5_whisper_X5_isParrot : GoodIn wsX5_whisper wsX5_isParrot := goodIn_r _ [6, 7, 8, 9, 5, 10, 36, 37, 38, 39, 40, 41] (by decide +kernel) (by decide +kernel)
set_option maxRecDepth 20000 in
theorem gX5_whisper_X5_isParrot : GoodIn wsX5_whisper (wsV RX5 47 RX5 yX5_isParrot wsX5_isParrot) := goodIn_app (goodIn_of _ (by decide +kernel)) ggX5_whisper_X5_isParrot
set_option maxRecDepth 20000 in
theorem ggX5_whisper_X5_fail : GoodIn wsX5_whisper wsX5_fail := goodIn_r _ [14, 1, 36, 37, 38, 39, 40, 41] (by decide +kernel) (by decide +kernel)
set_option maxRecDepth 20000 in
theorem gX5_whisper_X5_fail : GoodIn wsX5_whisper (wsV RX5 37 RX5 yX5_fail wsX5_fail) := goodIn_app (goodIn_of _ (by decide +kernel)) ggX5_whisper_X5_fail
set_option maxRecDepth 20000 in
theorem ggX5_whisper_X5_isWord : GoodIn wsX5_whisper wsX5_isWord := goodIn_r _ [17, 8, 9, 5, 10] (by decide +kernel) (by decide +kernel)
set_option maxRecDepth 20000 in
theorem gX5_whisper_X5_isWord : GoodIn wsX5_whisper (va_wsS RX5 58 yX5_isWord wsX5_isWord) := goodIn_app (goodIn_of _ (by decide +kernel)) ggX5_whisper_X5_isWord
set_option maxRecDepth 20000 in
theorem ggX5_whisper_X5_isIn : GoodIn wsX5_whisper wsX5_isIn := goodIn_r _ [10] (by decide +kernel) (by decide +kernel)
set_option maxRecDepth 20000 in
theorem gX5_whisper_X5_isIn : GoodIn wsX5_whisper (va_wsS RX5 29 yX5_isIn wsX5_isIn) := goodIn_app (goodIn_of _ (by decide +kernel)) ggX5_whisper_X5_isIn
set_option maxRecDepth 20000 in
theorem ggX5_whisper_X5_word : GoodIn wsX5_whisper wsX5_word := goodIn_r _ [21, 22, 23, 24, 5, 25, 26, 36, 37, 38, 39, 40, 41] (by decide +kernel) (by decide +kernel)
set_option maxRecDepth 20000 in
theorem gX5_whisper_X5_word : GoodIn wsX5_whisper (wsV RX5 61 RX5 yX5_word wsX5_word) := goodIn_app (goodIn_of _ (by decide +kernel)) ggX5_whisper_X5_word
set_option maxRecDepth 20000 in
theorem ggX5_whisper_X5_say : GoodIn wsX5_whisper wsX5_say := goodIn_r _ [30, 31, 26, 32, 33, 34, 35, 36, 37, 38, 39, 40, 41] (by decide +kernel) (by decide +kernel)
set_option maxRecDepth 20000 in
theorem gX5_whisper_X5_say : GoodIn wsX5_whisper (wsV RX5 64 RX5 yX5_say wsX5_say) := goodIn_app (goodIn_of _ (by decide +kernel)) ggX5_whisper_X5_say
theorem dX5_whisper_0 : decode cX5_whisper 0 = .ok (.aload_n 0, 1) := by decide +kernel
theorem dX5_whisper_1 : decode cX5_whisper 1 = .ok (.iconst 0, 1) := by decide +kernel
theorem dX5_whisper_2 : decode cX5_whisper 2 = .ok (.putfield 22, 3) := by decide +kernel
theorem dX5_whisper_5 : decode cX5_whisper 5 = .ok (.aload_n 0, 1) := by decide +kernel
theorem dX5_whisper_6 : decode cX5_whisper 6 = .ok (.iload_n 1, 1) := by decide +kernel
theorem dX5_whisper_7 : decode cX5_whisper 7 = .ok (.invokevirtual 47, 3) := by decide +kernel
theorem dX5_whisper_10 : decode cX5_whisper 10 = .ok (.ifCond .ne 9, 3) := by decide +kernel
theorem dX5_whisper_13 : decode cX5_whisper 13 = .ok (.aload_n 0, 1) := by decide +kernel
theorem dX5_whisper_14 : decode cX5_whisper 14 = .ok (.iconst 1, 1) := by decide +kernel
theorem dX5_whisper_15 : decode cX5_whisper 15 = .ok (.invokevirtual 37, 3) := by decide +kernel
theorem dX5_whisper_18 : decode cX5_whisper 18 = .ok (.ireturn, 1) := by decide +kernel
theorem dX5_whisper_19 : decode cX5_whisper 19 = .ok (.iload_n 2, 1) := by decide +kernel
theorem dX5_whisper_20 : decode cX5_whisper 20 = .ok (.invokestatic 58, 3) := by decide +kernel
theorem dX5_whisper_23 : decode cX5_whisper 23 = .ok (.ifCond .eq 13, 3) := by decide +kernel
theorem dX5_whisper_26 : decode cX5_whisper 26 = .ok (.iload_n 3, 1) := by decide +kernel
theorem dX5_whisper_27 : decode cX5_whisper 27 = .ok (.iconst 0, 1) := by decide +kernel
theorem dX5_whisper_28 : decode cX5_whisper 28 = .ok (.bipush 9, 2) := by decide +kernel
theorem dX5_whisper_30 : decode cX5_whisper 30 = .ok (.invokestatic 29, 3) := by decide +kernel
theorem dX5_whisper_33 : decode cX5_whisper 33 = .ok (.ifCond .ne 9, 3) := by decide +kernel
theorem dX5_whisper_36 : decode cX5_whisper 36 = .ok (.aload_n 0, 1) := by decide +kernel
theorem dX5_whisper_37 : decode cX5_whisper 37 = .ok (.iconst 2, 1) := by decide +kernel
theorem dX5_whisper_38 : decode cX5_whisper 38 = .ok (.invokevirtual 37, 3) := by decide +kernel
theorem dX5_whisper_41 : decode cX5_whisper 41 = .ok (.ireturn, 1) := by decide +kernel
theorem dX5_whisper_42 : decode cX5_whisper 42 = .ok (.aload_n 0, 1) := by decide +kernel
theorem dX5_whisper_43 : decode cX5_whisper 43 = .ok (.iload_n 1, 1) := by decide +kernel
theorem dX5_whisper_44 : decode cX5_whisper 44 = .ok (.invokevirtual 61, 3) := by decide +kernel
theorem dX5_whisper_47 : decode cX5_whisper 47 = .ok (.istore 4, 2) := by decide +kernel
theorem dX5_whisper_49 : decode cX5_whisper 49 = .ok (.aload_n 0, 1) := by decide +kernel
theorem dX5_whisper_50 : decode cX5_whisper 50 = .ok (.iload_n 1, 1) := by decide +kernel
theorem dX5_whisper_51 : decode cX5_whisper 51 = .ok (.iload_n 2, 1) := by decide +kernel
theorem dX5_whisper_52 : decode cX5_whisper 52 = .ok (.iload_n 3, 1) := by decide +kernel
theorem dX5_whisper_53 : decode cX5_whisper 53 = .ok (.invokevirtual 64, 3) := by decide +kernel
theorem dX5_whisper_56 : decode cX5_whisper 56 = .ok (.iload 4, 2) := by decide +kernel
theorem dX5_whisper_58 : decode cX5_whisper 58 = .ok (.ireturn, 1) := by decide +kernel
set_option maxRecDepth 20000 in
theorem ggX5_heard_X5_ju : GoodIn wsX5_heard wsX5_ju := goodIn_r _ [6, 7, 8, 9, 10, 11, 12, 13] (by decide +kernel) (by decide +kernel)
set_option maxRecDepth 20000 in
theorem gX5_heard_X5_ju : GoodIn wsX5_heard (wsV RX5 33 RX5 yX5_ju wsX5_ju) := goodIn_app (goodIn_of _ (by decide +kernel)) ggX5_heard_X5_ju
theorem dX5_heard_0 : decode cX5_heard 0 = .ok (.iconst (-1), 1) := by decide +kernel
theorem dX5_heard_1 : decode cX5_heard 1 = .ok (.istore_n 2, 1) := by decide +kernel
theorem dX5_heard_2 : decode cX5_heard 2 = .ok (.iconst 0, 1) := by decide +kernel
theorem dX5_heard_3 : decode cX5_heard 3 = .ok (.istore_n 3, 1) := by decide +kernel
theorem dX5_heard_4 : decode cX5_heard 4 = .ok (.iload_n 3, 1) := by decide +kernel
theorem dX5_heard_5 : decode cX5_heard 5 = .ok (.aload_n 0, 1) := by decide +kernel
theorem dX5_heard_6 : decode cX5_heard 6 = .ok (.iload_n 1, 1) := by decide +kernel
theorem dX5_heard_7 : decode cX5_heard 7 = .ok (.bipush 9, 2) := by decide +kernel
theorem dX5_heard_9 : decode cX5_heard 9 = .ok (.invokevirtual 33, 3) := by decide +kernel
theorem dX5_heard_12 : decode cX5_heard 12 = .ok (.if_icmp .ge 51, 3) := by decide +kernel
theorem dX5_heard_15 : decode cX5_heard 15 = .ok (.iload_n 2, 1) := by decide +kernel
theorem dX5_heard_16 : decode cX5_heard 16 = .ok (.iconst (-1), 1) := by decide +kernel
theorem dX5_heard_17 : decode cX5_heard 17 = .ok (.if_icmp .eq 29, 3) := by decide +kernel
theorem dX5_heard_20 : decode cX5_heard 20 = .ok (.aload_n 0, 1) := by decide +kernel
theorem dX5_heard_21 : decode cX5_heard 21 = .ok (.aload_n 0, 1) := by decide +kernel
theorem dX5_heard_22 : decode cX5_heard 22 = .ok (.getfield 16, 3) := by decide +kernel
theorem dX5_heard_25 : decode cX5_heard 25 = .ok (.iconst 4, 1) := by decide +kernel
theorem dX5_heard_26 : decode cX5_heard 26 = .ok (.iload_n 1, 1) := by decide +kernel
theorem dX5_heard_27 : decode cX5_heard 27 = .ok (.imul, 1) := by decide +kernel
theorem dX5_heard_28 : decode cX5_heard 28 = .ok (.iload_n 3, 1) := by decide +kernel
theorem dX5_heard_29 : decode cX5_heard 29 = .ok (.iadd, 1) := by decide +kernel
theorem dX5_heard_30 : decode cX5_heard 30 = .ok (.iaload, 1) := by decide +kernel
theorem dX5_heard_31 : decode cX5_heard 31 = .ok (.bipush 8, 2) := by decide +kernel
theorem dX5_heard_33 : decode cX5_heard 33 = .ok (.invokevirtual 33, 3) := by decide +kernel
theorem dX5_heard_36 : decode cX5_heard 36 = .ok (.aload_n 0, 1) := by decide +kernel
theorem dX5_heard_37 : decode cX5_heard 37 = .ok (.iload_n 2, 1) := by decide +kernel
theorem dX5_heard_38 : decode cX5_heard 38 = .ok (.bipush 8, 2) := by decide +kernel
theorem dX5_heard_40 : decode cX5_heard 40 = .ok (.invokevirtual 33, 3) := by decide +kernel
theorem dX5_heard_43 : decode cX5_heard 43 = .ok (.if_icmp .le 14, 3) := by decide +kernel
theorem dX5_heard_46 : decode cX5_heard 46 = .ok (.aload_n 0, 1) := by decide +kernel
theorem dX5_heard_47 : decode cX5_heard 47 = .ok (.getfield 16, 3) := by decide +kernel
theorem dX5_heard_50 : decode cX5_heard 50 = .ok (.iconst 4, 1) := by decide +kernel
theorem dX5_heard_51 : decode cX5_heard 51 = .ok (.iload_n 1, 1) := by decide +kernel
theorem dX5_heard_52 : decode cX5_heard 52 = .ok (.imul, 1) := by decide +kernel
theorem dX5_heard_53 : decode cX5_heard 53 = .ok (.iload_n 3, 1) := by decide +kernel
theorem dX5_heard_54 : decode cX5_heard 54 = .ok (.iadd, 1) := by decide +kernel
theorem dX5_heard_55 : decode cX5_heard 55 = .ok (.iaload, 1) := by decide +kernel
theorem dX5_heard_56 : decode cX5_heard 56 = .ok (.istore_n 2, 1) := by decide +kernel
theorem dX5_heard_57 : decode cX5_heard 57 = .ok (.iinc 3 1, 3) := by decide +kernel
theorem dX5_heard_60 : decode cX5_heard 60 = .ok (.goto (-56), 3) := by decide +kernel
theorem dX5_heard_63 : decode cX5_heard 63 = .ok (.iload_n 2, 1) := by decide +kernel
theorem dX5_heard_64 : decode cX5_heard 64 = .ok (.ireturn, 1) := by decide +kernel
set_option maxRecDepth 20000 in
theorem ggX5_parrotTold_X5_word : GoodIn wsX5_parrotTold wsX5_word := goodIn_r _ [6, 7, 8, 9, 5, 10, 11, 21, 22, 23, 24, 25, 26] (by decide +kernel) (by decide +kernel)
set_option maxRecDepth 20000 in
theorem gX5_parrotTold_X5_word : GoodIn wsX5_parrotTold (wsV RX5 61 RX5 yX5_word wsX5_word) := goodIn_app (goodIn_of _ (by decide +kernel)) ggX5_parrotTold_X5_word
set_option maxRecDepth 20000 in
theorem ggX5_parrotTold_X5_ju : GoodIn wsX5_parrotTold wsX5_ju := goodIn_r _ [10, 11, 21, 22, 23, 24, 25, 26] (by decide +kernel) (by decide +kernel)
set_option maxRecDepth 20000 in
theorem gX5_parrotTold_X5_ju : GoodIn wsX5_parrotTold (wsV RX5 33 RX5 yX5_ju wsX5_ju) := goodIn_app (goodIn_of _ (by decide +kernel)) ggX5_parrotTold_X5_ju
set_option maxRecDepth 20000 in
theorem ggX5_parrotTold_X5_place : GoodIn wsX5_parrotTold wsX5_place := goodIn_r _ [15, 16, 7, 8, 9, 5, 10, 11, 21, 22, 23, 24, 25, 26] (by decide +kernel) (by decide +kernel)
set_option maxRecDepth 20000 in
theorem gX5_parrotTold_X5_place : GoodIn wsX5_parrotTold (wsV RX5 51 RX5 yX5_place wsX5_place) := goodIn_app (goodIn_of _ (by decide +kernel)) ggX5_parrotTold_X5_place
set_option maxRecDepth 20000 in
theorem ggX5_parrotTold_X5_heard : GoodIn wsX5_parrotTold wsX5_heard := goodIn_r _ [20, 16, 7, 8, 9, 5, 10, 11, 21, 22, 23, 24, 25, 26] (by decide +kernel) (by decide +kernel)
set_option maxRecDepth 20000 in
theorem gX5_parrotTold_X5_heard : GoodIn wsX5_parrotTold (wsV RX5 67 RX5 yX5_heard wsX5_heard) := goodIn_app (goodIn_of _ (by decide +kernel)) ggX5_parrotTold_X5_heard
theorem dX5_parrotTold_0 : decode cX5_parrotTold 0 = .ok (.iconst 0, 1) := by decide +kernel
theorem dX5_parrotTold_1 : decode cX5_parrotTold 1 = .ok (.istore_n 3, 1) := by decide +kernel
theorem dX5_parrotTold_2 : decode cX5_parrotTold 2 = .ok (.iload_n 2, 1) := by decide +kernel
theorem dX5_parrotTold_3 : decode cX5_parrotTold 3 = .ok (.tableswitch 114 0 5 #[37, 43, 51, 59, 67, 75], 37) := by decide +kernel
theorem dX5_parrotTold_40 : decode cX5_parrotTold 40 = .ok (.aload_n 0, 1) := by decide +kernel
theorem dX5_parrotTold_41 : decode cX5_parrotTold 41 = .ok (.iload_n 1, 1) := by decide +kernel
theorem dX5_parrotTold_42 : decode cX5_parrotTold 42 = .ok (.invokevirtual 61, 3) := by decide +kernel
theorem dX5_parrotTold_45 : decode cX5_parrotTold 45 = .ok (.ireturn, 1) := by decide +kernel
theorem dX5_parrotTold_46 : decode cX5_parrotTold 46 = .ok (.aload_n 0, 1) := by decide +kernel
theorem dX5_parrotTold_47 : decode cX5_parrotTold 47 = .ok (.iload_n 1, 1) := by decide +kernel
theorem dX5_parrotTold_48 : decode cX5_parrotTold 48 = .ok (.bipush 6, 2) := by decide +kernel
theorem dX5_parrotTold_50 : decode cX5_parrotTold 50 = .ok (.invokevirtual 33, 3) := by decide +kernel
theorem dX5_parrotTold_53 : decode cX5_parrotTold 53 = .ok (.ireturn, 1) := by decide +kernel
theorem dX5_parrotTold_54 : decode cX5_parrotTold 54 = .ok (.aload_n 0, 1) := by decide +kernel
theorem dX5_parrotTold_55 : decode cX5_parrotTold 55 = .ok (.iload_n 1, 1) := by decide +kernel
theorem dX5_parrotTold_56 : decode cX5_parrotTold 56 = .ok (.bipush 7, 2) := by decide +kernel
theorem dX5_parrotTold_58 : decode cX5_parrotTold 58 = .ok (.invokevirtual 33, 3) := by decide +kernel
theorem dX5_parrotTold_61 : decode cX5_parrotTold 61 = .ok (.ireturn, 1) := by decide +kernel
theorem dX5_parrotTold_62 : decode cX5_parrotTold 62 = .ok (.aload_n 0, 1) := by decide +kernel
theorem dX5_parrotTold_63 : decode cX5_parrotTold 63 = .ok (.iload_n 1, 1) := by decide +kernel
theorem dX5_parrotTold_64 : decode cX5_parrotTold 64 = .ok (.bipush 8, 2) := by decide +kernel
theorem dX5_parrotTold_66 : decode cX5_parrotTold 66 = .ok (.invokevirtual 33, 3) := by decide +kernel
theorem dX5_parrotTold_69 : decode cX5_parrotTold 69 = .ok (.ireturn, 1) := by decide +kernel
theorem dX5_parrotTold_70 : decode cX5_parrotTold 70 = .ok (.aload_n 0, 1) := by decide +kernel
theorem dX5_parrotTold_71 : decode cX5_parrotTold 71 = .ok (.iload_n 1, 1) := by decide +kernel
theorem dX5_parrotTold_72 : decode cX5_parrotTold 72 = .ok (.bipush 9, 2) := by decide +kernel
theorem dX5_parrotTold_74 : decode cX5_parrotTold 74 = .ok (.invokevirtual 33, 3) := by decide +kernel
theorem dX5_parrotTold_77 : decode cX5_parrotTold 77 = .ok (.ireturn, 1) := by decide +kernel
theorem dX5_parrotTold_78 : decode cX5_parrotTold 78 = .ok (.iconst 0, 1) := by decide +kernel
theorem dX5_parrotTold_79 : decode cX5_parrotTold 79 = .ok (.istore 4, 2) := by decide +kernel
theorem dX5_parrotTold_81 : decode cX5_parrotTold 81 = .ok (.iload 4, 2) := by decide +kernel
theorem dX5_parrotTold_83 : decode cX5_parrotTold 83 = .ok (.aload_n 0, 1) := by decide +kernel
theorem dX5_parrotTold_84 : decode cX5_parrotTold 84 = .ok (.getfield 26, 3) := by decide +kernel
theorem dX5_parrotTold_87 : decode cX5_parrotTold 87 = .ok (.if_icmp .ge 28, 3) := by decide +kernel
theorem dX5_parrotTold_90 : decode cX5_parrotTold 90 = .ok (.iload_n 3, 1) := by decide +kernel
theorem dX5_parrotTold_91 : decode cX5_parrotTold 91 = .ok (.aload_n 0, 1) := by decide +kernel
theorem dX5_parrotTold_92 : decode cX5_parrotTold 92 = .ok (.iload 4, 2) := by decide +kernel
theorem dX5_parrotTold_94 : decode cX5_parrotTold 94 = .ok (.iload_n 1, 1) := by decide +kernel
theorem dX5_parrotTold_95 : decode cX5_parrotTold 95 = .ok (.invokevirtual 51, 3) := by decide +kernel
theorem dX5_parrotTold_98 : decode cX5_parrotTold 98 = .ok (.iconst (-1), 1) := by decide +kernel
theorem dX5_parrotTold_99 : decode cX5_parrotTold 99 = .ok (.if_icmp .ne 7, 3) := by decide +kernel
theorem dX5_parrotTold_102 : decode cX5_parrotTold 102 = .ok (.iconst 0, 1) := by decide +kernel
theorem dX5_parrotTold_103 : decode cX5_parrotTold 103 = .ok (.goto 4, 3) := by decide +kernel
theorem dX5_parrotTold_106 : decode cX5_parrotTold 106 = .ok (.iconst 1, 1) := by decide +kernel
theorem dX5_parrotTold_107 : decode cX5_parrotTold 107 = .ok (.iadd, 1) := by decide +kernel
theorem dX5_parrotTold_108 : decode cX5_parrotTold 108 = .ok (.istore_n 3, 1) := by decide +kernel
theorem dX5_parrotTold_109 : decode cX5_parrotTold 109 = .ok (.iinc 4 1, 3) := by decide +kernel
theorem dX5_parrotTold_112 : decode cX5_parrotTold 112 = .ok (.goto (-31), 3) := by decide +kernel
theorem dX5_parrotTold_115 : decode cX5_parrotTold 115 = .ok (.iload_n 3, 1) := by decide +kernel
theorem dX5_parrotTold_116 : decode cX5_parrotTold 116 = .ok (.ireturn, 1) := by decide +kernel
theorem dX5_parrotTold_117 : decode cX5_parrotTold 117 = .ok (.aload_n 0, 1) := by decide +kernel
theorem dX5_parrotTold_118 : decode cX5_parrotTold 118 = .ok (.iload_n 1, 1) := by decide +kernel
theorem dX5_parrotTold_119 : decode cX5_parrotTold 119 = .ok (.invokevirtual 67, 3) := by decide +kernel
theorem dX5_parrotTold_122 : decode cX5_parrotTold 122 = .ok (.ireturn, 1) := by decide +kernel
set_option maxRecDepth 20000 in
theorem ggX5_parrot_X5_isParrot : GoodIn wsX5_parrot wsX5_isParrot := goodIn_r _ [6, 7, 8, 9, 5, 10, 37, 38, 39, 40, 41, 42] (by decide +kernel) (by decide +kernel)
set_option maxRecDepth 20000 in
theorem gX5_parrot_X5_isParrot : GoodIn wsX5_parrot (wsV RX5 47 RX5 yX5_isParrot wsX5_isParrot) := goodIn_app (goodIn_of _ (by decide +kernel)) ggX5_parrot_X5_isParrot
set_option maxRecDepth 20000 in
theorem ggX5_parrot_X5_isIn : GoodIn wsX5_parrot wsX5_isIn := goodIn_r _ [10] (by decide +kernel) (by decide +kernel)
set_option maxRecDepth 20000 in
theorem gX5_parrot_X5_isIn : GoodIn wsX5_parrot (va_wsS RX5 29 yX5_isIn wsX5_isIn) := goodIn_app (goodIn_of _ (by decide +kernel)) ggX5_parrot_X5_isIn
set_option maxRecDepth 20000 in
theorem ggX5_parrot_X5_parrotTold : GoodIn wsX5_parrot wsX5_parrotTold := goodIn_r _ [14, 7, 15, 16, 17, 5, 18, 19, 20, 21, 22, 23, 24, 25, 26, 27, 28, 29, 30, 31, 32, 37, 38, 39, 40, 41, 42] (by decide +kernel) (by decide +kernel)
set_option maxRecDepth 20000 in
theorem gX5_parrot_X5_parrotTold : GoodIn wsX5_parrot (wsV RX5 70 RX5 yX5_parrotTold wsX5_parrotTold) := goodIn_app (goodIn_of _ (by decide +kernel)) ggX5_parrot_X5_parrotTold
set_option maxRecDepth 20000 in
theorem ggX5_parrot_X5_fail : GoodIn wsX5_parrot wsX5_fail := goodIn_r _ [36, 1, 37, 38, 39, 40, 41, 42] (by decide +kernel) (by decide +kernel)
set_option maxRecDepth 20000 in
theorem gX5_parrot_X5_fail : GoodIn wsX5_parrot (wsV RX5 37 RX5 yX5_fail wsX5_fail) := goodIn_app (goodIn_of _ (by decide +kernel)) ggX5_parrot_X5_fail
theorem dX5_parrot_0 : decode cX5_parrot 0 = .ok (.aload_n 0, 1) := by decide +kernel
theorem dX5_parrot_1 : decode cX5_parrot 1 = .ok (.iconst 0, 1) := by decide +kernel
theorem dX5_parrot_2 : decode cX5_parrot 2 = .ok (.putfield 22, 3) := by decide +kernel
theorem dX5_parrot_5 : decode cX5_parrot 5 = .ok (.aload_n 0, 1) := by decide +kernel
theorem dX5_parrot_6 : decode cX5_parrot 6 = .ok (.iload_n 1, 1) := by decide +kernel
theorem dX5_parrot_7 : decode cX5_parrot 7 = .ok (.invokevirtual 47, 3) := by decide +kernel
theorem dX5_parrot_10 : decode cX5_parrot 10 = .ok (.ifCond .eq 22, 3) := by decide +kernel
theorem dX5_parrot_13 : decode cX5_parrot 13 = .ok (.iload_n 2, 1) := by decide +kernel
theorem dX5_parrot_14 : decode cX5_parrot 14 = .ok (.iconst 0, 1) := by decide +kernel
theorem dX5_parrot_15 : decode cX5_parrot 15 = .ok (.bipush 6, 2) := by decide +kernel
theorem dX5_parrot_17 : decode cX5_parrot 17 = .ok (.invokestatic 29, 3) := by decide +kernel
theorem dX5_parrot_20 : decode cX5_parrot 20 = .ok (.ifCond .eq 12, 3) := by decide +kernel
theorem dX5_parrot_23 : decode cX5_parrot 23 = .ok (.aload_n 0, 1) := by decide +kernel
theorem dX5_parrot_24 : decode cX5_parrot 24 = .ok (.iload_n 1, 1) := by decide +kernel
theorem dX5_parrot_25 : decode cX5_parrot 25 = .ok (.iload_n 2, 1) := by decide +kernel
theorem dX5_parrot_26 : decode cX5_parrot 26 = .ok (.invokevirtual 70, 3) := by decide +kernel
theorem dX5_parrot_29 : decode cX5_parrot 29 = .ok (.goto 8, 3) := by decide +kernel
theorem dX5_parrot_32 : decode cX5_parrot 32 = .ok (.aload_n 0, 1) := by decide +kernel
theorem dX5_parrot_33 : decode cX5_parrot 33 = .ok (.iconst 1, 1) := by decide +kernel
theorem dX5_parrot_34 : decode cX5_parrot 34 = .ok (.invokevirtual 37, 3) := by decide +kernel
theorem dX5_parrot_37 : decode cX5_parrot 37 = .ok (.ireturn, 1) := by decide +kernel
set_option maxRecDepth 20000 in
theorem ggX5_halfTold_X5_ju : GoodIn wsX5_halfTold wsX5_ju := goodIn_r _ [5, 6, 7, 8, 9, 10, 11, 12] (by decide +kernel) (by decide +kernel)
set_option maxRecDepth 20000 in
theorem gX5_halfTold_X5_ju : GoodIn wsX5_halfTold (wsV RX5 33 RX5 yX5_ju wsX5_ju) := goodIn_app (goodIn_of _ (by decide +kernel)) ggX5_halfTold_X5_ju
theorem dX5_halfTold_0 : decode cX5_halfTold 0 = .ok (.aload_n 0, 1) := by decide +kernel
theorem dX5_halfTold_1 : decode cX5_halfTold 1 = .ok (.iload_n 1, 1) := by decide +kernel
theorem dX5_halfTold_2 : decode cX5_halfTold 2 = .ok (.iload_n 2, 1) := by decide +kernel
theorem dX5_halfTold_3 : decode cX5_halfTold 3 = .ok (.iload_n 3, 1) := by decide +kernel
theorem dX5_halfTold_4 : decode cX5_halfTold 4 = .ok (.ifCond .ne 7, 3) := by decide +kernel
theorem dX5_halfTold_7 : decode cX5_halfTold 7 = .ok (.iconst 0, 1) := by decide +kernel
theorem dX5_halfTold_8 : decode cX5_halfTold 8 = .ok (.goto 13, 3) := by decide +kernel
theorem dX5_halfTold_11 : decode cX5_halfTold 11 = .ok (.iload_n 3, 1) := by decide +kernel
theorem dX5_halfTold_12 : decode cX5_halfTold 12 = .ok (.iconst 1, 1) := by decide +kernel
theorem dX5_halfTold_13 : decode cX5_halfTold 13 = .ok (.if_icmp .ne 7, 3) := by decide +kernel
theorem dX5_halfTold_16 : decode cX5_halfTold 16 = .ok (.iconst 2, 1) := by decide +kernel
theorem dX5_halfTold_17 : decode cX5_halfTold 17 = .ok (.goto 4, 3) := by decide +kernel
theorem dX5_halfTold_20 : decode cX5_halfTold 20 = .ok (.iconst 4, 1) := by decide +kernel
theorem dX5_halfTold_21 : decode cX5_halfTold 21 = .ok (.iadd, 1) := by decide +kernel
theorem dX5_halfTold_22 : decode cX5_halfTold 22 = .ok (.invokevirtual 33, 3) := by decide +kernel
theorem dX5_halfTold_25 : decode cX5_halfTold 25 = .ok (.ireturn, 1) := by decide +kernel
set_option maxRecDepth 20000 in
theorem ggX5_half_X5_isParrot : GoodIn wsX5_half wsX5_isParrot := goodIn_r _ [6, 7, 8, 9, 5, 10, 24, 25, 26, 27, 28, 29] (by decide +kernel) (by decide +kernel)
set_option maxRecDepth 20000 in
theorem gX5_half_X5_isParrot : GoodIn wsX5_half (wsV RX5 47 RX5 yX5_isParrot wsX5_isParrot) := goodIn_app (goodIn_of _ (by decide +kernel)) ggX5_half_X5_isParrot
set_option maxRecDepth 20000 in
theorem ggX5_half_X5_isIn : GoodIn wsX5_half wsX5_isIn := goodIn_r _ [10] (by decide +kernel) (by decide +kernel)
set_option maxRecDepth 20000 in
theorem gX5_half_X5_isIn : GoodIn wsX5_half (va_wsS RX5 29 yX5_isIn wsX5_isIn) := goodIn_app (goodIn_of _ (by decide +kernel)) ggX5_half_X5_isIn
set_option maxRecDepth 20000 in
theorem ggX5_half_X5_halfTold : GoodIn wsX5_half wsX5_halfTold := goodIn_r _ [14, 15, 16, 17, 5, 18, 19, 24, 25, 26, 27, 28, 29] (by decide +kernel) (by decide +kernel)
set_option maxRecDepth 20000 in
theorem gX5_half_X5_halfTold : GoodIn wsX5_half (wsV RX5 73 RX5 yX5_halfTold wsX5_halfTold) := goodIn_app (goodIn_of _ (by decide +kernel)) ggX5_half_X5_halfTold
set_option maxRecDepth 20000 in
theorem ggX5_half_X5_fail : GoodIn wsX5_half wsX5_fail := goodIn_r _ [23, 1, 24, 25, 26, 27, 28, 29] (by decide +kernel) (by decide +kernel)
set_option maxRecDepth 20000 in
theorem gX5_half_X5_fail : GoodIn wsX5_half (wsV RX5 37 RX5 yX5_fail wsX5_fail) := goodIn_app (goodIn_of _ (by decide +kernel)) ggX5_half_X5_fail
theorem dX5_half_0 : decode cX5_half 0 = .ok (.aload_n 0, 1) := by decide +kernel
theorem dX5_half_1 : decode cX5_half 1 = .ok (.iconst 0, 1) := by decide +kernel
theorem dX5_half_2 : decode cX5_half 2 = .ok (.putfield 22, 3) := by decide +kernel
theorem dX5_half_5 : decode cX5_half 5 = .ok (.aload_n 0, 1) := by decide +kernel
theorem dX5_half_6 : decode cX5_half 6 = .ok (.iload_n 1, 1) := by decide +kernel
theorem dX5_half_7 : decode cX5_half 7 = .ok (.invokevirtual 47, 3) := by decide +kernel
theorem dX5_half_10 : decode cX5_half 10 = .ok (.ifCond .eq 30, 3) := by decide +kernel
theorem dX5_half_13 : decode cX5_half 13 = .ok (.iload_n 3, 1) := by decide +kernel
theorem dX5_half_14 : decode cX5_half 14 = .ok (.iconst 0, 1) := by decide +kernel
theorem dX5_half_15 : decode cX5_half 15 = .ok (.iconst 2, 1) := by decide +kernel
theorem dX5_half_16 : decode cX5_half 16 = .ok (.invokestatic 29, 3) := by decide +kernel
theorem dX5_half_19 : decode cX5_half 19 = .ok (.ifCond .eq 21, 3) := by decide +kernel
theorem dX5_half_22 : decode cX5_half 22 = .ok (.aload_n 0, 1) := by decide +kernel
theorem dX5_half_23 : decode cX5_half 23 = .ok (.iload_n 1, 1) := by decide +kernel
theorem dX5_half_24 : decode cX5_half 24 = .ok (.iload_n 2, 1) := by decide +kernel
theorem dX5_half_25 : decode cX5_half 25 = .ok (.ifCond .eq 7, 3) := by decide +kernel
theorem dX5_half_28 : decode cX5_half 28 = .ok (.iconst 1, 1) := by decide +kernel
theorem dX5_half_29 : decode cX5_half 29 = .ok (.goto 4, 3) := by decide +kernel
theorem dX5_half_32 : decode cX5_half 32 = .ok (.iconst 0, 1) := by decide +kernel
theorem dX5_half_33 : decode cX5_half 33 = .ok (.iload_n 3, 1) := by decide +kernel
theorem dX5_half_34 : decode cX5_half 34 = .ok (.invokevirtual 73, 3) := by decide +kernel
theorem dX5_half_37 : decode cX5_half 37 = .ok (.goto 8, 3) := by decide +kernel
theorem dX5_half_40 : decode cX5_half 40 = .ok (.aload_n 0, 1) := by decide +kernel
theorem dX5_half_41 : decode cX5_half 41 = .ok (.iconst 1, 1) := by decide +kernel
theorem dX5_half_42 : decode cX5_half 42 = .ok (.invokevirtual 37, 3) := by decide +kernel
theorem dX5_half_45 : decode cX5_half 45 = .ok (.ireturn, 1) := by decide +kernel
set_option maxRecDepth 20000 in
theorem ggX5_hears_X5_isParrot : GoodIn wsX5_hears wsX5_isParrot := goodIn_r _ [7, 8, 9, 10, 6, 11, 21, 22, 23, 24, 25, 26] (by decide +kernel) (by decide +kernel)
set_option maxRecDepth 20000 in
theorem gX5_hears_X5_isParrot : GoodIn wsX5_hears (wsV RX5 47 RX5 yX5_isParrot wsX5_isParrot) := goodIn_app (goodIn_of _ (by decide +kernel)) ggX5_hears_X5_isParrot
set_option maxRecDepth 20000 in
theorem ggX5_hears_X5_ju : GoodIn wsX5_hears wsX5_ju := goodIn_r _ [15, 16, 21, 22, 23, 24, 25, 26] (by decide +kernel) (by decide +kernel)
set_option maxRecDepth 20000 in
theorem gX5_hears_X5_ju : GoodIn wsX5_hears (wsV RX5 33 RX5 yX5_ju wsX5_ju) := goodIn_app (goodIn_of _ (by decide +kernel)) ggX5_hears_X5_ju
set_option maxRecDepth 20000 in
theorem ggX5_hears_X5_isIn : GoodIn wsX5_hears wsX5_isIn := goodIn_r _ [11] (by decide +kernel) (by decide +kernel)
set_option maxRecDepth 20000 in
theorem gX5_hears_X5_isIn : GoodIn wsX5_hears (va_wsS RX5 29 yX5_isIn wsX5_isIn) := goodIn_app (goodIn_of _ (by decide +kernel)) ggX5_hears_X5_isIn
set_option maxRecDepth 20000 in
theorem ggX5_hears_X5_fail : GoodIn wsX5_hears wsX5_fail := goodIn_r _ [20, 1, 21, 22, 23, 24, 25, 26] (by decide +kernel) (by decide +kernel)
set_option maxRecDepth 20000 in
theorem gX5_hears_X5_fail : GoodIn wsX5_hears (wsV RX5 37 RX5 yX5_fail wsX5_fail) := goodIn_app (goodIn_of _ (by decide +kernel)) ggX5_hears_X5_fail
theorem dX5_hears_0 : decode cX5_hears 0 = .ok (.aload_n 0, 1) := by decide +kernel
theorem dX5_hears_1 : decode cX5_hears 1 = .ok (.iconst 0, 1) := by decide +kernel
theorem dX5_hears_2 : decode cX5_hears 2 = .ok (.putfield 22, 3) := by decide +kernel
theorem dX5_hears_5 : decode cX5_hears 5 = .ok (.aload_n 0, 1) := by decide +kernel
theorem dX5_hears_6 : decode cX5_hears 6 = .ok (.iload_n 1, 1) := by decide +kernel
theorem dX5_hears_7 : decode cX5_hears 7 = .ok (.invokevirtual 47, 3) := by decide +kernel
theorem dX5_hears_10 : decode cX5_hears 10 = .ok (.ifCond .eq 33, 3) := by decide +kernel
theorem dX5_hears_13 : decode cX5_hears 13 = .ok (.iload_n 2, 1) := by decide +kernel
theorem dX5_hears_14 : decode cX5_hears 14 = .ok (.iconst 0, 1) := by decide +kernel
theorem dX5_hears_15 : decode cX5_hears 15 = .ok (.aload_n 0, 1) := by decide +kernel
theorem dX5_hears_16 : decode cX5_hears 16 = .ok (.iload_n 1, 1) := by decide +kernel
theorem dX5_hears_17 : decode cX5_hears 17 = .ok (.bipush 9, 2) := by decide +kernel
theorem dX5_hears_19 : decode cX5_hears 19 = .ok (.invokevirtual 33, 3) := by decide +kernel
theorem dX5_hears_22 : decode cX5_hears 22 = .ok (.iconst 1, 1) := by decide +kernel
theorem dX5_hears_23 : decode cX5_hears 23 = .ok (.isub, 1) := by decide +kernel
theorem dX5_hears_24 : decode cX5_hears 24 = .ok (.invokestatic 29, 3) := by decide +kernel
theorem dX5_hears_27 : decode cX5_hears 27 = .ok (.ifCond .eq 16, 3) := by decide +kernel
theorem dX5_hears_30 : decode cX5_hears 30 = .ok (.aload_n 0, 1) := by decide +kernel
theorem dX5_hears_31 : decode cX5_hears 31 = .ok (.getfield 16, 3) := by decide +kernel
theorem dX5_hears_34 : decode cX5_hears 34 = .ok (.iconst 4, 1) := by decide +kernel
theorem dX5_hears_35 : decode cX5_hears 35 = .ok (.iload_n 1, 1) := by decide +kernel
theorem dX5_hears_36 : decode cX5_hears 36 = .ok (.imul, 1) := by decide +kernel
theorem dX5_hears_37 : decode cX5_hears 37 = .ok (.iload_n 2, 1) := by decide +kernel
theorem dX5_hears_38 : decode cX5_hears 38 = .ok (.iadd, 1) := by decide +kernel
theorem dX5_hears_39 : decode cX5_hears 39 = .ok (.iaload, 1) := by decide +kernel
theorem dX5_hears_40 : decode cX5_hears 40 = .ok (.goto 8, 3) := by decide +kernel
theorem dX5_hears_43 : decode cX5_hears 43 = .ok (.aload_n 0, 1) := by decide +kernel
theorem dX5_hears_44 : decode cX5_hears 44 = .ok (.iconst 1, 1) := by decide +kernel
theorem dX5_hears_45 : decode cX5_hears 45 = .ok (.invokevirtual 37, 3) := by decide +kernel
theorem dX5_hears_48 : decode cX5_hears 48 = .ok (.ireturn, 1) := by decide +kernel
set_option maxRecDepth 20000 in
theorem ggX5_votesFor_X5_word : GoodIn wsX5_votesFor wsX5_word := goodIn_r _ [6, 7, 8, 9, 5, 10, 11, 12, 13, 14, 15, 16, 17] (by decide +kernel) (by decide +kernel)
set_option maxRecDepth 20000 in
theorem gX5_votesFor_X5_word : GoodIn wsX5_votesFor (wsV RX5 61 RX5 yX5_word wsX5_word) := goodIn_app (goodIn_of _ (by decide +kernel)) ggX5_votesFor_X5_word
theorem dX5_votesFor_0 : decode cX5_votesFor 0 = .ok (.iconst 0, 1) := by decide +kernel
theorem dX5_votesFor_1 : decode cX5_votesFor 1 = .ok (.istore_n 2, 1) := by decide +kernel
theorem dX5_votesFor_2 : decode cX5_votesFor 2 = .ok (.iconst 0, 1) := by decide +kernel
theorem dX5_votesFor_3 : decode cX5_votesFor 3 = .ok (.istore_n 3, 1) := by decide +kernel
theorem dX5_votesFor_4 : decode cX5_votesFor 4 = .ok (.iload_n 3, 1) := by decide +kernel
theorem dX5_votesFor_5 : decode cX5_votesFor 5 = .ok (.aload_n 0, 1) := by decide +kernel
theorem dX5_votesFor_6 : decode cX5_votesFor 6 = .ok (.getfield 26, 3) := by decide +kernel
theorem dX5_votesFor_9 : decode cX5_votesFor 9 = .ok (.if_icmp .ge 26, 3) := by decide +kernel
theorem dX5_votesFor_12 : decode cX5_votesFor 12 = .ok (.iload_n 2, 1) := by decide +kernel
theorem dX5_votesFor_13 : decode cX5_votesFor 13 = .ok (.aload_n 0, 1) := by decide +kernel
theorem dX5_votesFor_14 : decode cX5_votesFor 14 = .ok (.iload_n 3, 1) := by decide +kernel
theorem dX5_votesFor_15 : decode cX5_votesFor 15 = .ok (.invokevirtual 61, 3) := by decide +kernel
theorem dX5_votesFor_18 : decode cX5_votesFor 18 = .ok (.iload_n 1, 1) := by decide +kernel
theorem dX5_votesFor_19 : decode cX5_votesFor 19 = .ok (.if_icmp .ne 7, 3) := by decide +kernel
theorem dX5_votesFor_22 : decode cX5_votesFor 22 = .ok (.iconst 1, 1) := by decide +kernel
theorem dX5_votesFor_23 : decode cX5_votesFor 23 = .ok (.goto 4, 3) := by decide +kernel
theorem dX5_votesFor_26 : decode cX5_votesFor 26 = .ok (.iconst 0, 1) := by decide +kernel
theorem dX5_votesFor_27 : decode cX5_votesFor 27 = .ok (.iadd, 1) := by decide +kernel
theorem dX5_votesFor_28 : decode cX5_votesFor 28 = .ok (.istore_n 2, 1) := by decide +kernel
theorem dX5_votesFor_29 : decode cX5_votesFor 29 = .ok (.iinc 3 1, 3) := by decide +kernel
theorem dX5_votesFor_32 : decode cX5_votesFor 32 = .ok (.goto (-28), 3) := by decide +kernel
theorem dX5_votesFor_35 : decode cX5_votesFor 35 = .ok (.iload_n 2, 1) := by decide +kernel
theorem dX5_votesFor_36 : decode cX5_votesFor 36 = .ok (.ireturn, 1) := by decide +kernel
set_option maxRecDepth 20000 in
theorem ggX5_votes_X5_isWord : GoodIn wsX5_votes wsX5_isWord := goodIn_r _ [5, 6, 7, 4, 8] (by decide +kernel) (by decide +kernel)
set_option maxRecDepth 20000 in
theorem gX5_votes_X5_isWord : GoodIn wsX5_votes (va_wsS RX5 58 yX5_isWord wsX5_isWord) := goodIn_app (goodIn_of _ (by decide +kernel)) ggX5_votes_X5_isWord
set_option maxRecDepth 20000 in
theorem ggX5_votes_X5_votesFor : GoodIn wsX5_votes wsX5_votesFor := goodIn_r _ [12, 13, 14, 15, 16, 4, 17, 18, 19, 20, 21, 22, 27, 28, 29, 30, 31, 32] (by decide +kernel) (by decide +kernel)
set_option maxRecDepth 20000 in
theorem gX5_votes_X5_votesFor : GoodIn wsX5_votes (wsV RX5 77 RX5 yX5_votesFor wsX5_votesFor) := goodIn_app (goodIn_of _ (by decide +kernel)) ggX5_votes_X5_votesFor
set_option maxRecDepth 20000 in
theorem ggX5_votes_X5_fail : GoodIn wsX5_votes wsX5_fail := goodIn_r _ [26, 1, 27, 28, 29, 30, 31, 32] (by decide +kernel) (by decide +kernel)
set_option maxRecDepth 20000 in
theorem gX5_votes_X5_fail : GoodIn wsX5_votes (wsV RX5 37 RX5 yX5_fail wsX5_fail) := goodIn_app (goodIn_of _ (by decide +kernel)) ggX5_votes_X5_fail
theorem dX5_votes_0 : decode cX5_votes 0 = .ok (.aload_n 0, 1) := by decide +kernel
theorem dX5_votes_1 : decode cX5_votes 1 = .ok (.iconst 0, 1) := by decide +kernel
theorem dX5_votes_2 : decode cX5_votes 2 = .ok (.putfield 22, 3) := by decide +kernel
theorem dX5_votes_5 : decode cX5_votes 5 = .ok (.iload_n 1, 1) := by decide +kernel
theorem dX5_votes_6 : decode cX5_votes 6 = .ok (.invokestatic 58, 3) := by decide +kernel
theorem dX5_votes_9 : decode cX5_votes 9 = .ok (.ifCond .eq 11, 3) := by decide +kernel
theorem dX5_votes_12 : decode cX5_votes 12 = .ok (.aload_n 0, 1) := by decide +kernel
theorem dX5_votes_13 : decode cX5_votes 13 = .ok (.iload_n 1, 1) := by decide +kernel
theorem dX5_votes_14 : decode cX5_votes 14 = .ok (.invokevirtual 77, 3) := by decide +kernel
theorem dX5_votes_17 : decode cX5_votes 17 = .ok (.goto 8, 3) := by decide +kernel
theorem dX5_votes_20 : decode cX5_votes 20 = .ok (.aload_n 0, 1) := by decide +kernel
theorem dX5_votes_21 : decode cX5_votes 21 = .ok (.iconst 1, 1) := by decide +kernel
theorem dX5_votes_22 : decode cX5_votes 22 = .ok (.invokevirtual 37, 3) := by decide +kernel
theorem dX5_votes_25 : decode cX5_votes 25 = .ok (.ireturn, 1) := by decide +kernel
set_option maxRecDepth 20000 in
theorem ggX5_verdict_X5_word : GoodIn wsX5_verdict wsX5_word := goodIn_r _ [7, 8, 9, 10, 6, 11, 12, 17, 18, 19, 20, 21, 22] (by decide +kernel) (by decide +kernel)
set_option maxRecDepth 20000 in
theorem gX5_verdict_X5_word : GoodIn wsX5_verdict (wsV RX5 61 RX5 yX5_word wsX5_word) := goodIn_app (goodIn_of _ (by decide +kernel)) ggX5_verdict_X5_word
set_option maxRecDepth 20000 in
theorem ggX5_verdict_X5_votesFor : GoodIn wsX5_verdict wsX5_votesFor := goodIn_r _ [16, 2, 3, 4, 5, 6, 7, 8, 9, 10, 11, 12, 17, 18, 19, 20, 21, 22] (by decide +kernel) (by decide +kernel)
set_option maxRecDepth 20000 in
theorem gX5_verdict_X5_votesFor : GoodIn wsX5_verdict (wsV RX5 77 RX5 yX5_votesFor wsX5_votesFor) := goodIn_app (goodIn_of _ (by decide +kernel)) ggX5_verdict_X5_votesFor
theorem dX5_verdict_0 : decode cX5_verdict 0 = .ok (.aload_n 0, 1) := by decide +kernel
theorem dX5_verdict_1 : decode cX5_verdict 1 = .ok (.iconst 0, 1) := by decide +kernel
theorem dX5_verdict_2 : decode cX5_verdict 2 = .ok (.putfield 22, 3) := by decide +kernel
theorem dX5_verdict_5 : decode cX5_verdict 5 = .ok (.iconst (-1), 1) := by decide +kernel
theorem dX5_verdict_6 : decode cX5_verdict 6 = .ok (.istore_n 1, 1) := by decide +kernel
theorem dX5_verdict_7 : decode cX5_verdict 7 = .ok (.iconst 0, 1) := by decide +kernel
theorem dX5_verdict_8 : decode cX5_verdict 8 = .ok (.istore_n 2, 1) := by decide +kernel
theorem dX5_verdict_9 : decode cX5_verdict 9 = .ok (.iload_n 2, 1) := by decide +kernel
theorem dX5_verdict_10 : decode cX5_verdict 10 = .ok (.aload_n 0, 1) := by decide +kernel
theorem dX5_verdict_11 : decode cX5_verdict 11 = .ok (.getfield 26, 3) := by decide +kernel
theorem dX5_verdict_14 : decode cX5_verdict 14 = .ok (.if_icmp .ge 37, 3) := by decide +kernel
theorem dX5_verdict_17 : decode cX5_verdict 17 = .ok (.iload_n 1, 1) := by decide +kernel
theorem dX5_verdict_18 : decode cX5_verdict 18 = .ok (.iconst (-1), 1) := by decide +kernel
theorem dX5_verdict_19 : decode cX5_verdict 19 = .ok (.if_icmp .eq 20, 3) := by decide +kernel
theorem dX5_verdict_22 : decode cX5_verdict 22 = .ok (.aload_n 0, 1) := by decide +kernel
theorem dX5_verdict_23 : decode cX5_verdict 23 = .ok (.aload_n 0, 1) := by decide +kernel
theorem dX5_verdict_24 : decode cX5_verdict 24 = .ok (.iload_n 2, 1) := by decide +kernel
theorem dX5_verdict_25 : decode cX5_verdict 25 = .ok (.invokevirtual 61, 3) := by decide +kernel
theorem dX5_verdict_28 : decode cX5_verdict 28 = .ok (.invokevirtual 77, 3) := by decide +kernel
theorem dX5_verdict_31 : decode cX5_verdict 31 = .ok (.aload_n 0, 1) := by decide +kernel
theorem dX5_verdict_32 : decode cX5_verdict 32 = .ok (.iload_n 1, 1) := by decide +kernel
theorem dX5_verdict_33 : decode cX5_verdict 33 = .ok (.invokevirtual 77, 3) := by decide +kernel
theorem dX5_verdict_36 : decode cX5_verdict 36 = .ok (.if_icmp .le 9, 3) := by decide +kernel
theorem dX5_verdict_39 : decode cX5_verdict 39 = .ok (.aload_n 0, 1) := by decide +kernel
theorem dX5_verdict_40 : decode cX5_verdict 40 = .ok (.iload_n 2, 1) := by decide +kernel
theorem dX5_verdict_41 : decode cX5_verdict 41 = .ok (.invokevirtual 61, 3) := by decide +kernel
theorem dX5_verdict_44 : decode cX5_verdict 44 = .ok (.istore_n 1, 1) := by decide +kernel
theorem dX5_verdict_45 : decode cX5_verdict 45 = .ok (.iinc 2 1, 3) := by decide +kernel
theorem dX5_verdict_48 : decode cX5_verdict 48 = .ok (.goto (-39), 3) := by decide +kernel
theorem dX5_verdict_51 : decode cX5_verdict 51 = .ok (.iload_n 1, 1) := by decide +kernel
theorem dX5_verdict_52 : decode cX5_verdict 52 = .ok (.ireturn, 1) := by decide +kernel
set_option maxRecDepth 20000 in
theorem ggX5_left_X5_isWord : GoodIn wsX5_left wsX5_isWord := goodIn_r _ [6, 7, 8, 5, 9] (by decide +kernel) (by decide +kernel)
set_option maxRecDepth 20000 in
theorem gX5_left_X5_isWord : GoodIn wsX5_left (va_wsS RX5 58 yX5_isWord wsX5_isWord) := goodIn_app (goodIn_of _ (by decide +kernel)) ggX5_left_X5_isWord
set_option maxRecDepth 20000 in
theorem ggX5_left_X5_fail : GoodIn wsX5_left wsX5_fail := goodIn_r _ [13, 1, 19, 20, 21, 22, 23, 24] (by decide +kernel) (by decide +kernel)
set_option maxRecDepth 20000 in
theorem gX5_left_X5_fail : GoodIn wsX5_left (wsV RX5 37 RX5 yX5_fail wsX5_fail) := goodIn_app (goodIn_of _ (by decide +kernel)) ggX5_left_X5_fail
set_option maxRecDepth 20000 in
theorem ggX5_left_X5_ju : GoodIn wsX5_left wsX5_ju := goodIn_r _ [17, 18, 19, 20, 21, 22, 23, 24] (by decide +kernel) (by decide +kernel)
set_option maxRecDepth 20000 in
theorem gX5_left_X5_ju : GoodIn wsX5_left (wsV RX5 33 RX5 yX5_ju wsX5_ju) := goodIn_app (goodIn_of _ (by decide +kernel)) ggX5_left_X5_ju
theorem dX5_left_0 : decode cX5_left 0 = .ok (.aload_n 0, 1) := by decide +kernel
theorem dX5_left_1 : decode cX5_left 1 = .ok (.iconst 0, 1) := by decide +kernel
theorem dX5_left_2 : decode cX5_left 2 = .ok (.putfield 22, 3) := by decide +kernel
theorem dX5_left_5 : decode cX5_left 5 = .ok (.iload_n 1, 1) := by decide +kernel
theorem dX5_left_6 : decode cX5_left 6 = .ok (.invokestatic 58, 3) := by decide +kernel
theorem dX5_left_9 : decode cX5_left 9 = .ok (.ifCond .ne 9, 3) := by decide +kernel
theorem dX5_left_12 : decode cX5_left 12 = .ok (.aload_n 0, 1) := by decide +kernel
theorem dX5_left_13 : decode cX5_left 13 = .ok (.iconst 1, 1) := by decide +kernel
theorem dX5_left_14 : decode cX5_left 14 = .ok (.invokevirtual 37, 3) := by decide +kernel
theorem dX5_left_17 : decode cX5_left 17 = .ok (.ireturn, 1) := by decide +kernel
theorem dX5_left_18 : decode cX5_left 18 = .ok (.iconst 0, 1) := by decide +kernel
theorem dX5_left_19 : decode cX5_left 19 = .ok (.istore_n 2, 1) := by decide +kernel
theorem dX5_left_20 : decode cX5_left 20 = .ok (.iconst 0, 1) := by decide +kernel
theorem dX5_left_21 : decode cX5_left 21 = .ok (.istore_n 3, 1) := by decide +kernel
theorem dX5_left_22 : decode cX5_left 22 = .ok (.iload_n 3, 1) := by decide +kernel
theorem dX5_left_23 : decode cX5_left 23 = .ok (.aload_n 0, 1) := by decide +kernel
theorem dX5_left_24 : decode cX5_left 24 = .ok (.getfield 26, 3) := by decide +kernel
theorem dX5_left_27 : decode cX5_left 27 = .ok (.if_icmp .ge 49, 3) := by decide +kernel
theorem dX5_left_30 : decode cX5_left 30 = .ok (.iload_n 2, 1) := by decide +kernel
theorem dX5_left_31 : decode cX5_left 31 = .ok (.aload_n 0, 1) := by decide +kernel
theorem dX5_left_32 : decode cX5_left 32 = .ok (.iload_n 3, 1) := by decide +kernel
theorem dX5_left_33 : decode cX5_left 33 = .ok (.iconst 0, 1) := by decide +kernel
theorem dX5_left_34 : decode cX5_left 34 = .ok (.invokevirtual 33, 3) := by decide +kernel
theorem dX5_left_37 : decode cX5_left 37 = .ok (.iload_n 1, 1) := by decide +kernel
theorem dX5_left_38 : decode cX5_left 38 = .ok (.bipush 100, 2) := by decide +kernel
theorem dX5_left_40 : decode cX5_left 40 = .ok (.idiv, 1) := by decide +kernel
theorem dX5_left_41 : decode cX5_left 41 = .ok (.if_icmp .ne 7, 3) := by decide +kernel
theorem dX5_left_44 : decode cX5_left 44 = .ok (.iconst 1, 1) := by decide +kernel
theorem dX5_left_45 : decode cX5_left 45 = .ok (.goto 4, 3) := by decide +kernel
theorem dX5_left_48 : decode cX5_left 48 = .ok (.iconst 0, 1) := by decide +kernel
theorem dX5_left_49 : decode cX5_left 49 = .ok (.aload_n 0, 1) := by decide +kernel
theorem dX5_left_50 : decode cX5_left 50 = .ok (.iload_n 3, 1) := by decide +kernel
theorem dX5_left_51 : decode cX5_left 51 = .ok (.iconst 1, 1) := by decide +kernel
theorem dX5_left_52 : decode cX5_left 52 = .ok (.invokevirtual 33, 3) := by decide +kernel
theorem dX5_left_55 : decode cX5_left 55 = .ok (.iload_n 1, 1) := by decide +kernel
theorem dX5_left_56 : decode cX5_left 56 = .ok (.bipush 100, 2) := by decide +kernel
theorem dX5_left_58 : decode cX5_left 58 = .ok (.irem, 1) := by decide +kernel
theorem dX5_left_59 : decode cX5_left 59 = .ok (.if_icmp .ne 7, 3) := by decide +kernel
theorem dX5_left_62 : decode cX5_left 62 = .ok (.iconst 1, 1) := by decide +kernel
theorem dX5_left_63 : decode cX5_left 63 = .ok (.goto 4, 3) := by decide +kernel
theorem dX5_left_66 : decode cX5_left 66 = .ok (.iconst 0, 1) := by decide +kernel
theorem dX5_left_67 : decode cX5_left 67 = .ok (.iadd, 1) := by decide +kernel
theorem dX5_left_68 : decode cX5_left 68 = .ok (.iadd, 1) := by decide +kernel
theorem dX5_left_69 : decode cX5_left 69 = .ok (.istore_n 2, 1) := by decide +kernel
theorem dX5_left_70 : decode cX5_left 70 = .ok (.iinc 3 1, 3) := by decide +kernel
theorem dX5_left_73 : decode cX5_left 73 = .ok (.goto (-51), 3) := by decide +kernel
theorem dX5_left_76 : decode cX5_left 76 = .ok (.iload_n 2, 1) := by decide +kernel
theorem dX5_left_77 : decode cX5_left 77 = .ok (.ireturn, 1) := by decide +kernel
set_option maxRecDepth 20000 in
theorem ggX5_counted_X5_word : GoodIn wsX5_counted wsX5_word := goodIn_r _ [7, 8, 9, 10, 6, 11, 12, 13, 14, 15, 16, 17, 18] (by decide +kernel) (by decide +kernel)
set_option maxRecDepth 20000 in
theorem gX5_counted_X5_word : GoodIn wsX5_counted (wsV RX5 61 RX5 yX5_word wsX5_word) := goodIn_app (goodIn_of _ (by decide +kernel)) ggX5_counted_X5_word
set_option maxRecDepth 20000 in
theorem ggX5_counted_X5_ju : GoodIn wsX5_counted wsX5_ju := goodIn_r _ [11, 12, 13, 14, 15, 16, 17, 18] (by decide +kernel) (by decide +kernel)
set_option maxRecDepth 20000 in
theorem gX5_counted_X5_ju : GoodIn wsX5_counted (wsV RX5 33 RX5 yX5_ju wsX5_ju) := goodIn_app (goodIn_of _ (by decide +kernel)) ggX5_counted_X5_ju
theorem dX5_counted_0 : decode cX5_counted 0 = .ok (.iconst 0, 1) := by decide +kernel
theorem dX5_counted_1 : decode cX5_counted 1 = .ok (.istore_n 2, 1) := by decide +kernel
theorem dX5_counted_2 : decode cX5_counted 2 = .ok (.iload_n 1, 1) := by decide +kernel
theorem dX5_counted_3 : decode cX5_counted 3 = .ok (.tableswitch 200 0 4 #[33, 40, 45, 120, 172], 33) := by decide +kernel
theorem dX5_counted_36 : decode cX5_counted 36 = .ok (.aload_n 0, 1) := by decide +kernel
theorem dX5_counted_37 : decode cX5_counted 37 = .ok (.getfield 19, 3) := by decide +kernel
theorem dX5_counted_40 : decode cX5_counted 40 = .ok (.iconst 0, 1) := by decide +kernel
theorem dX5_counted_41 : decode cX5_counted 41 = .ok (.iaload, 1) := by decide +kernel
theorem dX5_counted_42 : decode cX5_counted 42 = .ok (.ireturn, 1) := by decide +kernel
theorem dX5_counted_43 : decode cX5_counted 43 = .ok (.aload_n 0, 1) := by decide +kernel
theorem dX5_counted_44 : decode cX5_counted 44 = .ok (.getfield 26, 3) := by decide +kernel
theorem dX5_counted_47 : decode cX5_counted 47 = .ok (.ireturn, 1) := by decide +kernel
theorem dX5_counted_48 : decode cX5_counted 48 = .ok (.iconst 0, 1) := by decide +kernel
theorem dX5_counted_49 : decode cX5_counted 49 = .ok (.istore_n 3, 1) := by decide +kernel
theorem dX5_counted_50 : decode cX5_counted 50 = .ok (.iload_n 3, 1) := by decide +kernel
theorem dX5_counted_51 : decode cX5_counted 51 = .ok (.aload_n 0, 1) := by decide +kernel
theorem dX5_counted_52 : decode cX5_counted 52 = .ok (.getfield 26, 3) := by decide +kernel
theorem dX5_counted_55 : decode cX5_counted 55 = .ok (.if_icmp .ge 66, 3) := by decide +kernel
theorem dX5_counted_58 : decode cX5_counted 58 = .ok (.iconst 1, 1) := by decide +kernel
theorem dX5_counted_59 : decode cX5_counted 59 = .ok (.istore 4, 2) := by decide +kernel
theorem dX5_counted_61 : decode cX5_counted 61 = .ok (.iconst 0, 1) := by decide +kernel
theorem dX5_counted_62 : decode cX5_counted 62 = .ok (.istore 5, 2) := by decide +kernel
theorem dX5_counted_64 : decode cX5_counted 64 = .ok (.iload 5, 2) := by decide +kernel
theorem dX5_counted_66 : decode cX5_counted 66 = .ok (.iload_n 3, 1) := by decide +kernel
theorem dX5_counted_67 : decode cX5_counted 67 = .ok (.if_icmp .ge 35, 3) := by decide +kernel
theorem dX5_counted_70 : decode cX5_counted 70 = .ok (.iload 4, 2) := by decide +kernel
theorem dX5_counted_72 : decode cX5_counted 72 = .ok (.ifCond .eq 21, 3) := by decide +kernel
theorem dX5_counted_75 : decode cX5_counted 75 = .ok (.aload_n 0, 1) := by decide +kernel
theorem dX5_counted_76 : decode cX5_counted 76 = .ok (.iload 5, 2) := by decide +kernel
theorem dX5_counted_78 : decode cX5_counted 78 = .ok (.invokevirtual 61, 3) := by decide +kernel
theorem dX5_counted_81 : decode cX5_counted 81 = .ok (.aload_n 0, 1) := by decide +kernel
theorem dX5_counted_82 : decode cX5_counted 82 = .ok (.iload_n 3, 1) := by decide +kernel
theorem dX5_counted_83 : decode cX5_counted 83 = .ok (.invokevirtual 61, 3) := by decide +kernel
theorem dX5_counted_86 : decode cX5_counted 86 = .ok (.if_icmp .eq 7, 3) := by decide +kernel
theorem dX5_counted_89 : decode cX5_counted 89 = .ok (.iconst 1, 1) := by decide +kernel
theorem dX5_counted_90 : decode cX5_counted 90 = .ok (.goto 4, 3) := by decide +kernel
theorem dX5_counted_93 : decode cX5_counted 93 = .ok (.iconst 0, 1) := by decide +kernel
theorem dX5_counted_94 : decode cX5_counted 94 = .ok (.istore 4, 2) := by decide +kernel
theorem dX5_counted_96 : decode cX5_counted 96 = .ok (.iinc 5 1, 3) := by decide +kernel
theorem dX5_counted_99 : decode cX5_counted 99 = .ok (.goto (-35), 3) := by decide +kernel
theorem dX5_counted_102 : decode cX5_counted 102 = .ok (.iload_n 2, 1) := by decide +kernel
theorem dX5_counted_103 : decode cX5_counted 103 = .ok (.iload 4, 2) := by decide +kernel
theorem dX5_counted_105 : decode cX5_counted 105 = .ok (.ifCond .eq 7, 3) := by decide +kernel
theorem dX5_counted_108 : decode cX5_counted 108 = .ok (.iconst 1, 1) := by decide +kernel
theorem dX5_counted_109 : decode cX5_counted 109 = .ok (.goto 4, 3) := by decide +kernel
theorem dX5_counted_112 : decode cX5_counted 112 = .ok (.iconst 0, 1) := by decide +kernel
theorem dX5_counted_113 : decode cX5_counted 113 = .ok (.iadd, 1) := by decide +kernel
theorem dX5_counted_114 : decode cX5_counted 114 = .ok (.istore_n 2, 1) := by decide +kernel
theorem dX5_counted_115 : decode cX5_counted 115 = .ok (.iinc 3 1, 3) := by decide +kernel
theorem dX5_counted_118 : decode cX5_counted 118 = .ok (.goto (-68), 3) := by decide +kernel
theorem dX5_counted_121 : decode cX5_counted 121 = .ok (.iload_n 2, 1) := by decide +kernel
theorem dX5_counted_122 : decode cX5_counted 122 = .ok (.ireturn, 1) := by decide +kernel
theorem dX5_counted_123 : decode cX5_counted 123 = .ok (.iconst 0, 1) := by decide +kernel
theorem dX5_counted_124 : decode cX5_counted 124 = .ok (.istore_n 3, 1) := by decide +kernel
theorem dX5_counted_125 : decode cX5_counted 125 = .ok (.iload_n 3, 1) := by decide +kernel
theorem dX5_counted_126 : decode cX5_counted 126 = .ok (.aload_n 0, 1) := by decide +kernel
theorem dX5_counted_127 : decode cX5_counted 127 = .ok (.getfield 26, 3) := by decide +kernel
theorem dX5_counted_130 : decode cX5_counted 130 = .ok (.if_icmp .ge 43, 3) := by decide +kernel
theorem dX5_counted_133 : decode cX5_counted 133 = .ok (.iload_n 2, 1) := by decide +kernel
theorem dX5_counted_134 : decode cX5_counted 134 = .ok (.aload_n 0, 1) := by decide +kernel
theorem dX5_counted_135 : decode cX5_counted 135 = .ok (.iload_n 3, 1) := by decide +kernel
theorem dX5_counted_136 : decode cX5_counted 136 = .ok (.iconst 2, 1) := by decide +kernel
theorem dX5_counted_137 : decode cX5_counted 137 = .ok (.invokevirtual 33, 3) := by decide +kernel
theorem dX5_counted_140 : decode cX5_counted 140 = .ok (.iconst (-1), 1) := by decide +kernel
theorem dX5_counted_141 : decode cX5_counted 141 = .ok (.if_icmp .ne 7, 3) := by decide +kernel
theorem dX5_counted_144 : decode cX5_counted 144 = .ok (.iconst 1, 1) := by decide +kernel
theorem dX5_counted_145 : decode cX5_counted 145 = .ok (.goto 4, 3) := by decide +kernel
theorem dX5_counted_148 : decode cX5_counted 148 = .ok (.iconst 0, 1) := by decide +kernel
theorem dX5_counted_149 : decode cX5_counted 149 = .ok (.aload_n 0, 1) := by decide +kernel
theorem dX5_counted_150 : decode cX5_counted 150 = .ok (.iload_n 3, 1) := by decide +kernel
theorem dX5_counted_151 : decode cX5_counted 151 = .ok (.iconst 3, 1) := by decide +kernel
theorem dX5_counted_152 : decode cX5_counted 152 = .ok (.invokevirtual 33, 3) := by decide +kernel
theorem dX5_counted_155 : decode cX5_counted 155 = .ok (.iconst (-1), 1) := by decide +kernel
theorem dX5_counted_156 : decode cX5_counted 156 = .ok (.if_icmp .ne 7, 3) := by decide +kernel
theorem dX5_counted_159 : decode cX5_counted 159 = .ok (.iconst 1, 1) := by decide +kernel
theorem dX5_counted_160 : decode cX5_counted 160 = .ok (.goto 4, 3) := by decide +kernel
theorem dX5_counted_163 : decode cX5_counted 163 = .ok (.iconst 0, 1) := by decide +kernel
theorem dX5_counted_164 : decode cX5_counted 164 = .ok (.iadd, 1) := by decide +kernel
theorem dX5_counted_165 : decode cX5_counted 165 = .ok (.iadd, 1) := by decide +kernel
theorem dX5_counted_166 : decode cX5_counted 166 = .ok (.istore_n 2, 1) := by decide +kernel
theorem dX5_counted_167 : decode cX5_counted 167 = .ok (.iinc 3 1, 3) := by decide +kernel
theorem dX5_counted_170 : decode cX5_counted 170 = .ok (.goto (-45), 3) := by decide +kernel
theorem dX5_counted_173 : decode cX5_counted 173 = .ok (.iload_n 2, 1) := by decide +kernel
theorem dX5_counted_174 : decode cX5_counted 174 = .ok (.ireturn, 1) := by decide +kernel
theorem dX5_counted_175 : decode cX5_counted 175 = .ok (.iconst 0, 1) := by decide +kernel
theorem dX5_counted_176 : decode cX5_counted 176 = .ok (.istore_n 3, 1) := by decide +kernel
theorem dX5_counted_177 : decode cX5_counted 177 = .ok (.iload_n 3, 1) := by decide +kernel
theorem dX5_counted_178 : decode cX5_counted 178 = .ok (.aload_n 0, 1) := by decide +kernel
theorem dX5_counted_179 : decode cX5_counted 179 = .ok (.getfield 26, 3) := by decide +kernel
theorem dX5_counted_182 : decode cX5_counted 182 = .ok (.if_icmp .ge 19, 3) := by decide +kernel
theorem dX5_counted_185 : decode cX5_counted 185 = .ok (.iload_n 2, 1) := by decide +kernel
theorem dX5_counted_186 : decode cX5_counted 186 = .ok (.aload_n 0, 1) := by decide +kernel
theorem dX5_counted_187 : decode cX5_counted 187 = .ok (.iload_n 3, 1) := by decide +kernel
theorem dX5_counted_188 : decode cX5_counted 188 = .ok (.bipush 6, 2) := by decide +kernel
theorem dX5_counted_190 : decode cX5_counted 190 = .ok (.invokevirtual 33, 3) := by decide +kernel
theorem dX5_counted_193 : decode cX5_counted 193 = .ok (.iadd, 1) := by decide +kernel
theorem dX5_counted_194 : decode cX5_counted 194 = .ok (.istore_n 2, 1) := by decide +kernel
theorem dX5_counted_195 : decode cX5_counted 195 = .ok (.iinc 3 1, 3) := by decide +kernel
theorem dX5_counted_198 : decode cX5_counted 198 = .ok (.goto (-21), 3) := by decide +kernel
theorem dX5_counted_201 : decode cX5_counted 201 = .ok (.iload_n 2, 1) := by decide +kernel
theorem dX5_counted_202 : decode cX5_counted 202 = .ok (.ireturn, 1) := by decide +kernel
theorem dX5_counted_203 : decode cX5_counted 203 = .ok (.aload_n 0, 1) := by decide +kernel
theorem dX5_counted_204 : decode cX5_counted 204 = .ok (.getfield 19, 3) := by decide +kernel
theorem dX5_counted_207 : decode cX5_counted 207 = .ok (.iconst 1, 1) := by decide +kernel
theorem dX5_counted_208 : decode cX5_counted 208 = .ok (.iaload, 1) := by decide +kernel
theorem dX5_counted_209 : decode cX5_counted 209 = .ok (.ireturn, 1) := by decide +kernel
set_option maxRecDepth 20000 in
theorem ggX5_count_X5_isIn : GoodIn wsX5_count wsX5_isIn := goodIn_r _ [5] (by decide +kernel) (by decide +kernel)
set_option maxRecDepth 20000 in
theorem gX5_count_X5_isIn : GoodIn wsX5_count (va_wsS RX5 29 yX5_isIn wsX5_isIn) := goodIn_app (goodIn_of _ (by decide +kernel)) ggX5_count_X5_isIn
set_option maxRecDepth 20000 in
theorem ggX5_count_X5_counted : GoodIn wsX5_count wsX5_counted := goodIn_r _ [9, 10, 11, 12, 13, 14, 4, 15, 16, 17, 18, 19, 20, 25, 26, 27, 28, 29, 30] (by decide +kernel) (by decide +kernel)
set_option maxRecDepth 20000 in
theorem gX5_count_X5_counted : GoodIn wsX5_count (wsV RX5 80 RX5 yX5_counted wsX5_counted) := goodIn_app (goodIn_of _ (by decide +kernel)) ggX5_count_X5_counted
set_option maxRecDepth 20000 in
theorem ggX5_count_X5_fail : GoodIn wsX5_count wsX5_fail := goodIn_r _ [24, 1, 25, 26, 27, 28, 29, 30] (by decide +kernel) (by decide +kernel)
set_option maxRecDepth 20000 in
theorem gX5_count_X5_fail : GoodIn wsX5_count (wsV RX5 37 RX5 yX5_fail wsX5_fail) := goodIn_app (goodIn_of _ (by decide +kernel)) ggX5_count_X5_fail
theorem dX5_count_0 : decode cX5_count 0 = .ok (.aload_n 0, 1) := by decide +kernel
theorem dX5_count_1 : decode cX5_count 1 = .ok (.iconst 0, 1) := by decide +kernel
theorem dX5_count_2 : decode cX5_count 2 = .ok (.putfield 22, 3) := by decide +kernel
theorem dX5_count_5 : decode cX5_count 5 = .ok (.iload_n 1, 1) := by decide +kernel
theorem dX5_count_6 : decode cX5_count 6 = .ok (.iconst 0, 1) := by decide +kernel
theorem dX5_count_7 : decode cX5_count 7 = .ok (.iconst 5, 1) := by decide +kernel
theorem dX5_count_8 : decode cX5_count 8 = .ok (.invokestatic 29, 3) := by decide +kernel
theorem dX5_count_11 : decode cX5_count 11 = .ok (.ifCond .eq 11, 3) := by decide +kernel
theorem dX5_count_14 : decode cX5_count 14 = .ok (.aload_n 0, 1) := by decide +kernel
theorem dX5_count_15 : decode cX5_count 15 = .ok (.iload_n 1, 1) := by decide +kernel
theorem dX5_count_16 : decode cX5_count 16 = .ok (.invokevirtual 80, 3) := by decide +kernel
theorem dX5_count_19 : decode cX5_count 19 = .ok (.goto 8, 3) := by decide +kernel
theorem dX5_count_22 : decode cX5_count 22 = .ok (.aload_n 0, 1) := by decide +kernel
theorem dX5_count_23 : decode cX5_count 23 = .ok (.iconst 1, 1) := by decide +kernel
theorem dX5_count_24 : decode cX5_count 24 = .ok (.invokevirtual 37, 3) := by decide +kernel
theorem dX5_count_27 : decode cX5_count 27 = .ok (.ireturn, 1) := by decide +kernel
theorem dX5_be_0 : decode cX5_be 0 = .ok (.aload_n 0, 1) := by decide +kernel
theorem dX5_be_1 : decode cX5_be 1 = .ok (.getfield 13, 3) := by decide +kernel
theorem dX5_be_4 : decode cX5_be 4 = .ok (.bipush 10, 2) := by decide +kernel
theorem dX5_be_6 : decode cX5_be 6 = .ok (.iload_n 1, 1) := by decide +kernel
theorem dX5_be_7 : decode cX5_be 7 = .ok (.imul, 1) := by decide +kernel
theorem dX5_be_8 : decode cX5_be 8 = .ok (.iload_n 2, 1) := by decide +kernel
theorem dX5_be_9 : decode cX5_be 9 = .ok (.iadd, 1) := by decide +kernel
theorem dX5_be_10 : decode cX5_be 10 = .ok (.iaload, 1) := by decide +kernel
theorem dX5_be_11 : decode cX5_be 11 = .ok (.ireturn, 1) := by decide +kernel
set_option maxRecDepth 20000 in
theorem ggX5_takes_X5_heard : GoodIn wsX5_takes wsX5_heard := goodIn_r _ [9, 10, 11, 12, 13, 8, 14, 15, 25, 26, 27, 28, 29, 30] (by decide +kernel) (by decide +kernel)
set_option maxRecDepth 20000 in
theorem gX5_takes_X5_heard : GoodIn wsX5_takes (wsV RX5 67 RX5 yX5_heard wsX5_heard) := goodIn_app (goodIn_of _ (by decide +kernel)) ggX5_takes_X5_heard
set_option maxRecDepth 20000 in
theorem ggX5_takes_X5_be : GoodIn wsX5_takes wsX5_be := goodIn_r _ [19, 20, 25, 26, 27, 28, 29, 30] (by decide +kernel) (by decide +kernel)
set_option maxRecDepth 20000 in
theorem gX5_takes_X5_be : GoodIn wsX5_takes (wsV RX5 83 RX5 yX5_be wsX5_be) := goodIn_app (goodIn_of _ (by decide +kernel)) ggX5_takes_X5_be
set_option maxRecDepth 20000 in
theorem ggX5_takes_X5_put : GoodIn wsX5_takes wsX5_put := goodIn_r _ [24, 15, 25, 26, 27, 28, 29, 30] (by decide +kernel) (by decide +kernel)
set_option maxRecDepth 20000 in
theorem gX5_takes_X5_put : GoodIn wsX5_takes (wsV RX5 54 RX5 yX5_put wsX5_put) := goodIn_app (goodIn_of _ (by decide +kernel)) ggX5_takes_X5_put
theorem dX5_takes_0 : decode cX5_takes 0 = .ok (.aload_n 0, 1) := by decide +kernel
theorem dX5_takes_1 : decode cX5_takes 1 = .ok (.iload_n 1, 1) := by decide +kernel
theorem dX5_takes_2 : decode cX5_takes 2 = .ok (.invokevirtual 67, 3) := by decide +kernel
theorem dX5_takes_5 : decode cX5_takes 5 = .ok (.istore_n 2, 1) := by decide +kernel
theorem dX5_takes_6 : decode cX5_takes 6 = .ok (.iload_n 2, 1) := by decide +kernel
theorem dX5_takes_7 : decode cX5_takes 7 = .ok (.iconst (-1), 1) := by decide +kernel
theorem dX5_takes_8 : decode cX5_takes 8 = .ok (.if_icmp .ne 5, 3) := by decide +kernel
theorem dX5_takes_11 : decode cX5_takes 11 = .ok (.iconst 0, 1) := by decide +kernel
theorem dX5_takes_12 : decode cX5_takes 12 = .ok (.ireturn, 1) := by decide +kernel
theorem dX5_takes_13 : decode cX5_takes 13 = .ok (.aload_n 0, 1) := by decide +kernel
theorem dX5_takes_14 : decode cX5_takes 14 = .ok (.iload_n 1, 1) := by decide +kernel
theorem dX5_takes_15 : decode cX5_takes 15 = .ok (.iconst 0, 1) := by decide +kernel
theorem dX5_takes_16 : decode cX5_takes 16 = .ok (.invokevirtual 83, 3) := by decide +kernel
theorem dX5_takes_19 : decode cX5_takes 19 = .ok (.aload_n 0, 1) := by decide +kernel
theorem dX5_takes_20 : decode cX5_takes 20 = .ok (.iload_n 2, 1) := by decide +kernel
theorem dX5_takes_21 : decode cX5_takes 21 = .ok (.iconst 0, 1) := by decide +kernel
theorem dX5_takes_22 : decode cX5_takes 22 = .ok (.invokevirtual 83, 3) := by decide +kernel
theorem dX5_takes_25 : decode cX5_takes 25 = .ok (.if_icmp .ne 41, 3) := by decide +kernel
theorem dX5_takes_28 : decode cX5_takes 28 = .ok (.aload_n 0, 1) := by decide +kernel
theorem dX5_takes_29 : decode cX5_takes 29 = .ok (.iload_n 1, 1) := by decide +kernel
theorem dX5_takes_30 : decode cX5_takes 30 = .ok (.iconst 1, 1) := by decide +kernel
theorem dX5_takes_31 : decode cX5_takes 31 = .ok (.invokevirtual 83, 3) := by decide +kernel
theorem dX5_takes_34 : decode cX5_takes 34 = .ok (.aload_n 0, 1) := by decide +kernel
theorem dX5_takes_35 : decode cX5_takes 35 = .ok (.iload_n 2, 1) := by decide +kernel
theorem dX5_takes_36 : decode cX5_takes 36 = .ok (.iconst 1, 1) := by decide +kernel
theorem dX5_takes_37 : decode cX5_takes 37 = .ok (.invokevirtual 83, 3) := by decide +kernel
theorem dX5_takes_40 : decode cX5_takes 40 = .ok (.if_icmp .ne 26, 3) := by decide +kernel
theorem dX5_takes_43 : decode cX5_takes 43 = .ok (.aload_n 0, 1) := by decide +kernel
theorem dX5_takes_44 : decode cX5_takes 44 = .ok (.iload_n 1, 1) := by decide +kernel
theorem dX5_takes_45 : decode cX5_takes 45 = .ok (.bipush 6, 2) := by decide +kernel
theorem dX5_takes_47 : decode cX5_takes 47 = .ok (.bipush 9, 2) := by decide +kernel
theorem dX5_takes_49 : decode cX5_takes 49 = .ok (.aload_n 0, 1) := by decide +kernel
theorem dX5_takes_50 : decode cX5_takes 50 = .ok (.iload_n 1, 1) := by decide +kernel
theorem dX5_takes_51 : decode cX5_takes 51 = .ok (.bipush 6, 2) := by decide +kernel
theorem dX5_takes_53 : decode cX5_takes 53 = .ok (.invokevirtual 83, 3) := by decide +kernel
theorem dX5_takes_56 : decode cX5_takes 56 = .ok (.iconst 1, 1) := by decide +kernel
theorem dX5_takes_57 : decode cX5_takes 57 = .ok (.iadd, 1) := by decide +kernel
theorem dX5_takes_58 : decode cX5_takes 58 = .ok (.invokestatic 86, 3) := by decide +kernel
theorem dX5_takes_61 : decode cX5_takes 61 = .ok (.invokevirtual 54, 3) := by decide +kernel
theorem dX5_takes_64 : decode cX5_takes 64 = .ok (.iconst 0, 1) := by decide +kernel
theorem dX5_takes_65 : decode cX5_takes 65 = .ok (.ireturn, 1) := by decide +kernel
theorem dX5_takes_66 : decode cX5_takes 66 = .ok (.aload_n 0, 1) := by decide +kernel
theorem dX5_takes_67 : decode cX5_takes 67 = .ok (.iload_n 1, 1) := by decide +kernel
theorem dX5_takes_68 : decode cX5_takes 68 = .ok (.bipush 6, 2) := by decide +kernel
theorem dX5_takes_70 : decode cX5_takes 70 = .ok (.invokevirtual 83, 3) := by decide +kernel
theorem dX5_takes_73 : decode cX5_takes 73 = .ok (.aload_n 0, 1) := by decide +kernel
theorem dX5_takes_74 : decode cX5_takes 74 = .ok (.iload_n 2, 1) := by decide +kernel
theorem dX5_takes_75 : decode cX5_takes 75 = .ok (.bipush 6, 2) := by decide +kernel
end
section
theorem dX5_takes_77 : decode cX5_takes 77 = .ok (.invokevirtual 83, 3) := by decide +kernel
theorem dX5_takes_80 : decode cX5_takes 80 = .ok (.if_icmp .le 21, 3) := by decide +kernel
theorem dX5_takes_83 : decode cX5_takes 83 = .ok (.aload_n 0, 1) := by decide +kernel
theorem dX5_takes_84 : decode cX5_takes 84 = .ok (.iload_n 1, 1) := by decide +kernel
theorem dX5_takes_85 : decode cX5_takes 85 = .ok (.bipush 6, 2) := by decide +kernel
theorem dX5_takes_87 : decode cX5_takes 87 = .ok (.aload_n 0, 1) := by decide +kernel
theorem dX5_takes_88 : decode cX5_takes 88 = .ok (.iload_n 1, 1) := by decide +kernel
theorem dX5_takes_89 : decode cX5_takes 89 = .ok (.bipush 6, 2) := by decide +kernel
theorem dX5_takes_91 : decode cX5_takes 91 = .ok (.invokevirtual 83, 3) := by decide +kernel
theorem dX5_takes_94 : decode cX5_takes 94 = .ok (.iconst 1, 1) := by decide +kernel
theorem dX5_takes_95 : decode cX5_takes 95 = .ok (.isub, 1) := by decide +kernel
theorem dX5_takes_96 : decode cX5_takes 96 = .ok (.invokevirtual 54, 3) := by decide +kernel
theorem dX5_takes_99 : decode cX5_takes 99 = .ok (.iconst 0, 1) := by decide +kernel
theorem dX5_takes_100 : decode cX5_takes 100 = .ok (.ireturn, 1) := by decide +kernel
theorem dX5_takes_101 : decode cX5_takes 101 = .ok (.iload_n 1, 1) := by decide +kernel
theorem dX5_takes_102 : decode cX5_takes 102 = .ok (.iconst 2, 1) := by decide +kernel
theorem dX5_takes_103 : decode cX5_takes 103 = .ok (.irem, 1) := by decide +kernel
theorem dX5_takes_104 : decode cX5_takes 104 = .ok (.istore_n 3, 1) := by decide +kernel
theorem dX5_takes_105 : decode cX5_takes 105 = .ok (.aload_n 0, 1) := by decide +kernel
theorem dX5_takes_106 : decode cX5_takes 106 = .ok (.iload_n 1, 1) := by decide +kernel
theorem dX5_takes_107 : decode cX5_takes 107 = .ok (.iload_n 3, 1) := by decide +kernel
theorem dX5_takes_108 : decode cX5_takes 108 = .ok (.aload_n 0, 1) := by decide +kernel
theorem dX5_takes_109 : decode cX5_takes 109 = .ok (.iload_n 2, 1) := by decide +kernel
theorem dX5_takes_110 : decode cX5_takes 110 = .ok (.iload_n 3, 1) := by decide +kernel
theorem dX5_takes_111 : decode cX5_takes 111 = .ok (.invokevirtual 83, 3) := by decide +kernel
theorem dX5_takes_114 : decode cX5_takes 114 = .ok (.invokevirtual 54, 3) := by decide +kernel
theorem dX5_takes_117 : decode cX5_takes 117 = .ok (.aload_n 0, 1) := by decide +kernel
theorem dX5_takes_118 : decode cX5_takes 118 = .ok (.iload_n 1, 1) := by decide +kernel
theorem dX5_takes_119 : decode cX5_takes 119 = .ok (.iconst 2, 1) := by decide +kernel
theorem dX5_takes_120 : decode cX5_takes 120 = .ok (.iload_n 3, 1) := by decide +kernel
theorem dX5_takes_121 : decode cX5_takes 121 = .ok (.iadd, 1) := by decide +kernel
theorem dX5_takes_122 : decode cX5_takes 122 = .ok (.iload_n 2, 1) := by decide +kernel
theorem dX5_takes_123 : decode cX5_takes 123 = .ok (.invokevirtual 54, 3) := by decide +kernel
theorem dX5_takes_126 : decode cX5_takes 126 = .ok (.aload_n 0, 1) := by decide +kernel
theorem dX5_takes_127 : decode cX5_takes 127 = .ok (.iload_n 1, 1) := by decide +kernel
theorem dX5_takes_128 : decode cX5_takes 128 = .ok (.iconst 4, 1) := by decide +kernel
theorem dX5_takes_129 : decode cX5_takes 129 = .ok (.iload_n 3, 1) := by decide +kernel
theorem dX5_takes_130 : decode cX5_takes 130 = .ok (.iadd, 1) := by decide +kernel
theorem dX5_takes_131 : decode cX5_takes 131 = .ok (.bipush 99, 2) := by decide +kernel
theorem dX5_takes_133 : decode cX5_takes 133 = .ok (.aload_n 0, 1) := by decide +kernel
theorem dX5_takes_134 : decode cX5_takes 134 = .ok (.iload_n 2, 1) := by decide +kernel
theorem dX5_takes_135 : decode cX5_takes 135 = .ok (.iconst 4, 1) := by decide +kernel
theorem dX5_takes_136 : decode cX5_takes 136 = .ok (.iload_n 3, 1) := by decide +kernel
theorem dX5_takes_137 : decode cX5_takes 137 = .ok (.iadd, 1) := by decide +kernel
theorem dX5_takes_138 : decode cX5_takes 138 = .ok (.invokevirtual 83, 3) := by decide +kernel
theorem dX5_takes_141 : decode cX5_takes 141 = .ok (.iconst 1, 1) := by decide +kernel
theorem dX5_takes_142 : decode cX5_takes 142 = .ok (.iadd, 1) := by decide +kernel
theorem dX5_takes_143 : decode cX5_takes 143 = .ok (.invokestatic 86, 3) := by decide +kernel
theorem dX5_takes_146 : decode cX5_takes 146 = .ok (.invokevirtual 54, 3) := by decide +kernel
theorem dX5_takes_149 : decode cX5_takes 149 = .ok (.aload_n 0, 1) := by decide +kernel
theorem dX5_takes_150 : decode cX5_takes 150 = .ok (.iload_n 1, 1) := by decide +kernel
theorem dX5_takes_151 : decode cX5_takes 151 = .ok (.bipush 6, 2) := by decide +kernel
theorem dX5_takes_153 : decode cX5_takes 153 = .ok (.iconst 1, 1) := by decide +kernel
theorem dX5_takes_154 : decode cX5_takes 154 = .ok (.invokevirtual 54, 3) := by decide +kernel
theorem dX5_takes_157 : decode cX5_takes 157 = .ok (.iconst 1, 1) := by decide +kernel
theorem dX5_takes_158 : decode cX5_takes 158 = .ok (.ireturn, 1) := by decide +kernel
set_option maxRecDepth 20000 in
theorem ggX5_roundOn_X5_takes : GoodIn wsX5_roundOn wsX5_takes := goodIn_r _ [17, 18, 19, 11, 20, 21, 22, 23, 16, 24, 25, 26, 27, 28, 29, 1, 30, 31, 32, 33, 2, 34, 35, 36, 37, 38, 39, 40, 41, 42, 43] (by decide +kernel) (by decide +kernel)
set_option maxRecDepth 20000 in
theorem gX5_roundOn_X5_takes : GoodIn wsX5_roundOn (wsV RX5 91 RX5 yX5_takes wsX5_takes) := goodIn_app (goodIn_of _ (by decide +kernel)) ggX5_roundOn_X5_takes
set_option maxRecDepth 20000 in
theorem ggX5_roundOn_X5_ju : GoodIn wsX5_roundOn wsX5_ju := goodIn_r _ [29, 1, 38, 39, 40, 41, 42, 43] (by decide +kernel) (by decide +kernel)
set_option maxRecDepth 20000 in
theorem gX5_roundOn_X5_ju : GoodIn wsX5_roundOn (wsV RX5 33 RX5 yX5_ju wsX5_ju) := goodIn_app (goodIn_of _ (by decide +kernel)) ggX5_roundOn_X5_ju
set_option maxRecDepth 20000 in
theorem ggX5_roundOn_X5_put : GoodIn wsX5_roundOn wsX5_put := goodIn_r _ [37, 1, 38, 39, 40, 41, 42, 43] (by decide +kernel) (by decide +kernel)
set_option maxRecDepth 20000 in
theorem gX5_roundOn_X5_put : GoodIn wsX5_roundOn (wsV RX5 54 RX5 yX5_put wsX5_put) := goodIn_app (goodIn_of _ (by decide +kernel)) ggX5_roundOn_X5_put
theorem dX5_roundOn_0 : decode cX5_roundOn 0 = .ok (.aload_n 0, 1) := by decide +kernel
theorem dX5_roundOn_1 : decode cX5_roundOn 1 = .ok (.getfield 9, 3) := by decide +kernel
theorem dX5_roundOn_4 : decode cX5_roundOn 4 = .ok (.iconst 0, 1) := by decide +kernel
theorem dX5_roundOn_5 : decode cX5_roundOn 5 = .ok (.aload_n 0, 1) := by decide +kernel
theorem dX5_roundOn_6 : decode cX5_roundOn 6 = .ok (.getfield 13, 3) := by decide +kernel
theorem dX5_roundOn_9 : decode cX5_roundOn 9 = .ok (.iconst 0, 1) := by decide +kernel
theorem dX5_roundOn_10 : decode cX5_roundOn 10 = .ok (.aload_n 0, 1) := by decide +kernel
theorem dX5_roundOn_11 : decode cX5_roundOn 11 = .ok (.getfield 9, 3) := by decide +kernel
theorem dX5_roundOn_14 : decode cX5_roundOn 14 = .ok (.arraylength, 1) := by decide +kernel
theorem dX5_roundOn_15 : decode cX5_roundOn 15 = .ok (.invokestatic 41, 3) := by decide +kernel
theorem dX5_roundOn_18 : decode cX5_roundOn 18 = .ok (.iconst 0, 1) := by decide +kernel
theorem dX5_roundOn_19 : decode cX5_roundOn 19 = .ok (.istore_n 1, 1) := by decide +kernel
theorem dX5_roundOn_20 : decode cX5_roundOn 20 = .ok (.iload_n 1, 1) := by decide +kernel
theorem dX5_roundOn_21 : decode cX5_roundOn 21 = .ok (.aload_n 0, 1) := by decide +kernel
theorem dX5_roundOn_22 : decode cX5_roundOn 22 = .ok (.getfield 26, 3) := by decide +kernel
theorem dX5_roundOn_25 : decode cX5_roundOn 25 = .ok (.if_icmp .ge 31, 3) := by decide +kernel
theorem dX5_roundOn_28 : decode cX5_roundOn 28 = .ok (.aload_n 0, 1) := by decide +kernel
theorem dX5_roundOn_29 : decode cX5_roundOn 29 = .ok (.getfield 19, 3) := by decide +kernel
theorem dX5_roundOn_32 : decode cX5_roundOn 32 = .ok (.iconst 1, 1) := by decide +kernel
theorem dX5_roundOn_33 : decode cX5_roundOn 33 = .ok (.dup2, 1) := by decide +kernel
theorem dX5_roundOn_34 : decode cX5_roundOn 34 = .ok (.iaload, 1) := by decide +kernel
theorem dX5_roundOn_35 : decode cX5_roundOn 35 = .ok (.aload_n 0, 1) := by decide +kernel
theorem dX5_roundOn_36 : decode cX5_roundOn 36 = .ok (.iload_n 1, 1) := by decide +kernel
theorem dX5_roundOn_37 : decode cX5_roundOn 37 = .ok (.invokevirtual 91, 3) := by decide +kernel
theorem dX5_roundOn_40 : decode cX5_roundOn 40 = .ok (.ifCond .eq 7, 3) := by decide +kernel
theorem dX5_roundOn_43 : decode cX5_roundOn 43 = .ok (.iconst 1, 1) := by decide +kernel
theorem dX5_roundOn_44 : decode cX5_roundOn 44 = .ok (.goto 4, 3) := by decide +kernel
theorem dX5_roundOn_47 : decode cX5_roundOn 47 = .ok (.iconst 0, 1) := by decide +kernel
theorem dX5_roundOn_48 : decode cX5_roundOn 48 = .ok (.iadd, 1) := by decide +kernel
theorem dX5_roundOn_49 : decode cX5_roundOn 49 = .ok (.iastore, 1) := by decide +kernel
theorem dX5_roundOn_50 : decode cX5_roundOn 50 = .ok (.iinc 1 1, 3) := by decide +kernel
theorem dX5_roundOn_53 : decode cX5_roundOn 53 = .ok (.goto (-33), 3) := by decide +kernel
theorem dX5_roundOn_56 : decode cX5_roundOn 56 = .ok (.iconst 0, 1) := by decide +kernel
theorem dX5_roundOn_57 : decode cX5_roundOn 57 = .ok (.istore_n 1, 1) := by decide +kernel
theorem dX5_roundOn_58 : decode cX5_roundOn 58 = .ok (.iload_n 1, 1) := by decide +kernel
theorem dX5_roundOn_59 : decode cX5_roundOn 59 = .ok (.aload_n 0, 1) := by decide +kernel
theorem dX5_roundOn_60 : decode cX5_roundOn 60 = .ok (.getfield 26, 3) := by decide +kernel
theorem dX5_roundOn_63 : decode cX5_roundOn 63 = .ok (.if_icmp .ge 48, 3) := by decide +kernel
theorem dX5_roundOn_66 : decode cX5_roundOn 66 = .ok (.aload_n 0, 1) := by decide +kernel
theorem dX5_roundOn_67 : decode cX5_roundOn 67 = .ok (.getfield 19, 3) := by decide +kernel
theorem dX5_roundOn_70 : decode cX5_roundOn 70 = .ok (.iconst 0, 1) := by decide +kernel
theorem dX5_roundOn_71 : decode cX5_roundOn 71 = .ok (.iaload, 1) := by decide +kernel
theorem dX5_roundOn_72 : decode cX5_roundOn 72 = .ok (.aload_n 0, 1) := by decide +kernel
theorem dX5_roundOn_73 : decode cX5_roundOn 73 = .ok (.iload_n 1, 1) := by decide +kernel
theorem dX5_roundOn_74 : decode cX5_roundOn 74 = .ok (.bipush 7, 2) := by decide +kernel
theorem dX5_roundOn_76 : decode cX5_roundOn 76 = .ok (.invokevirtual 33, 3) := by decide +kernel
theorem dX5_roundOn_79 : decode cX5_roundOn 79 = .ok (.iconst 1, 1) := by decide +kernel
theorem dX5_roundOn_80 : decode cX5_roundOn 80 = .ok (.iadd, 1) := by decide +kernel
theorem dX5_roundOn_81 : decode cX5_roundOn 81 = .ok (.irem, 1) := by decide +kernel
theorem dX5_roundOn_82 : decode cX5_roundOn 82 = .ok (.ifCond .ne 23, 3) := by decide +kernel
theorem dX5_roundOn_85 : decode cX5_roundOn 85 = .ok (.aload_n 0, 1) := by decide +kernel
theorem dX5_roundOn_86 : decode cX5_roundOn 86 = .ok (.iload_n 1, 1) := by decide +kernel
theorem dX5_roundOn_87 : decode cX5_roundOn 87 = .ok (.bipush 6, 2) := by decide +kernel
theorem dX5_roundOn_89 : decode cX5_roundOn 89 = .ok (.iconst 0, 1) := by decide +kernel
theorem dX5_roundOn_90 : decode cX5_roundOn 90 = .ok (.aload_n 0, 1) := by decide +kernel
theorem dX5_roundOn_91 : decode cX5_roundOn 91 = .ok (.iload_n 1, 1) := by decide +kernel
theorem dX5_roundOn_92 : decode cX5_roundOn 92 = .ok (.bipush 6, 2) := by decide +kernel
theorem dX5_roundOn_94 : decode cX5_roundOn 94 = .ok (.invokevirtual 33, 3) := by decide +kernel
theorem dX5_roundOn_97 : decode cX5_roundOn 97 = .ok (.iconst 1, 1) := by decide +kernel
theorem dX5_roundOn_98 : decode cX5_roundOn 98 = .ok (.isub, 1) := by decide +kernel
theorem dX5_roundOn_99 : decode cX5_roundOn 99 = .ok (.invokestatic 94, 3) := by decide +kernel
theorem dX5_roundOn_102 : decode cX5_roundOn 102 = .ok (.invokevirtual 54, 3) := by decide +kernel
theorem dX5_roundOn_105 : decode cX5_roundOn 105 = .ok (.iinc 1 1, 3) := by decide +kernel
theorem dX5_roundOn_108 : decode cX5_roundOn 108 = .ok (.goto (-50), 3) := by decide +kernel
theorem dX5_roundOn_111 : decode cX5_roundOn 111 = .ok (.aload_n 0, 1) := by decide +kernel
theorem dX5_roundOn_112 : decode cX5_roundOn 112 = .ok (.getfield 19, 3) := by decide +kernel
theorem dX5_roundOn_115 : decode cX5_roundOn 115 = .ok (.iconst 0, 1) := by decide +kernel
theorem dX5_roundOn_116 : decode cX5_roundOn 116 = .ok (.dup2, 1) := by decide +kernel
theorem dX5_roundOn_117 : decode cX5_roundOn 117 = .ok (.iaload, 1) := by decide +kernel
theorem dX5_roundOn_118 : decode cX5_roundOn 118 = .ok (.iconst 1, 1) := by decide +kernel
theorem dX5_roundOn_119 : decode cX5_roundOn 119 = .ok (.iadd, 1) := by decide +kernel
theorem dX5_roundOn_120 : decode cX5_roundOn 120 = .ok (.iastore, 1) := by decide +kernel
theorem dX5_roundOn_121 : decode cX5_roundOn 121 = .ok (.return_, 1) := by decide +kernel
set_option maxRecDepth 20000 in
theorem ggX5_roundsOn_X5_roundOn : GoodIn wsX5_roundsOn wsX5_roundOn := goodIn_r _ [5, 6, 7, 8, 9, 10, 11, 12, 13, 14, 15, 16, 17, 18, 19, 20, 4, 21, 22, 23, 24, 25, 26, 27, 28, 29, 30, 31, 32, 33, 34, 35, 36, 37, 38, 39, 40, 41, 42, 43, 44, 45, 46, 47] (by decide +kernel) (by decide +kernel)
set_option maxRecDepth 20000 in
theorem gX5_roundsOn_X5_roundOn : GoodIn wsX5_roundsOn (wsV RX5 97 RX5 yX5_roundOn wsX5_roundOn) := goodIn_app (goodIn_of _ (by decide +kernel)) ggX5_roundsOn_X5_roundOn
theorem dX5_roundsOn_0 : decode cX5_roundsOn 0 = .ok (.iconst 0, 1) := by decide +kernel
theorem dX5_roundsOn_1 : decode cX5_roundsOn 1 = .ok (.istore_n 2, 1) := by decide +kernel
theorem dX5_roundsOn_2 : decode cX5_roundsOn 2 = .ok (.iload_n 2, 1) := by decide +kernel
theorem dX5_roundsOn_3 : decode cX5_roundsOn 3 = .ok (.iload_n 1, 1) := by decide +kernel
theorem dX5_roundsOn_4 : decode cX5_roundsOn 4 = .ok (.if_icmp .ge 13, 3) := by decide +kernel
theorem dX5_roundsOn_7 : decode cX5_roundsOn 7 = .ok (.aload_n 0, 1) := by decide +kernel
theorem dX5_roundsOn_8 : decode cX5_roundsOn 8 = .ok (.invokevirtual 97, 3) := by decide +kernel
theorem dX5_roundsOn_11 : decode cX5_roundsOn 11 = .ok (.iinc 2 1, 3) := by decide +kernel
theorem dX5_roundsOn_14 : decode cX5_roundsOn 14 = .ok (.goto (-12), 3) := by decide +kernel
theorem dX5_roundsOn_17 : decode cX5_roundsOn 17 = .ok (.return_, 1) := by decide +kernel
set_option maxRecDepth 20000 in
theorem ggX5_pass_X5_isIn : GoodIn wsX5_pass wsX5_isIn := goodIn_r _ [6] (by decide +kernel) (by decide +kernel)
set_option maxRecDepth 20000 in
theorem gX5_pass_X5_isIn : GoodIn wsX5_pass (va_wsS RX5 29 yX5_isIn wsX5_isIn) := goodIn_app (goodIn_of _ (by decide +kernel)) ggX5_pass_X5_isIn
set_option maxRecDepth 20000 in
theorem ggX5_pass_X5_fail : GoodIn wsX5_pass wsX5_fail := goodIn_r _ [10, 1, 54, 55, 56, 57, 58, 59] (by decide +kernel) (by decide +kernel)
set_option maxRecDepth 20000 in
theorem gX5_pass_X5_fail : GoodIn wsX5_pass (wsV RX5 37 RX5 yX5_fail wsX5_fail) := goodIn_app (goodIn_of _ (by decide +kernel)) ggX5_pass_X5_fail
set_option maxRecDepth 20000 in
theorem ggX5_pass_X5_roundsOn : GoodIn wsX5_pass wsX5_roundsOn := goodIn_r _ [14, 15, 16, 17, 5, 18, 19, 20, 21, 22, 23, 24, 25, 2, 26, 27, 28, 29, 30, 31, 32, 33, 34, 35, 36, 37, 38, 39, 40, 41, 42, 43, 44, 45, 46, 47, 48, 49, 50, 51, 52, 53, 54, 55, 56, 57, 58, 59] (by decide +kernel) (by decide +kernel)
set_option maxRecDepth 20000 in
theorem gX5_pass_X5_roundsOn : GoodIn wsX5_pass (wsV RX5 100 RX5 yX5_roundsOn wsX5_roundsOn) := goodIn_app (goodIn_of _ (by decide +kernel)) ggX5_pass_X5_roundsOn
theorem dX5_pass_0 : decode cX5_pass 0 = .ok (.aload_n 0, 1) := by decide +kernel
theorem dX5_pass_1 : decode cX5_pass 1 = .ok (.iconst 0, 1) := by decide +kernel
theorem dX5_pass_2 : decode cX5_pass 2 = .ok (.putfield 22, 3) := by decide +kernel
theorem dX5_pass_5 : decode cX5_pass 5 = .ok (.iload_n 1, 1) := by decide +kernel
theorem dX5_pass_6 : decode cX5_pass 6 = .ok (.iconst 1, 1) := by decide +kernel
theorem dX5_pass_7 : decode cX5_pass 7 = .ok (.sipush 200, 3) := by decide +kernel
theorem dX5_pass_10 : decode cX5_pass 10 = .ok (.invokestatic 29, 3) := by decide +kernel
theorem dX5_pass_13 : decode cX5_pass 13 = .ok (.ifCond .ne 9, 3) := by decide +kernel
theorem dX5_pass_16 : decode cX5_pass 16 = .ok (.aload_n 0, 1) := by decide +kernel
theorem dX5_pass_17 : decode cX5_pass 17 = .ok (.iconst 1, 1) := by decide +kernel
theorem dX5_pass_18 : decode cX5_pass 18 = .ok (.invokevirtual 37, 3) := by decide +kernel
theorem dX5_pass_21 : decode cX5_pass 21 = .ok (.ireturn, 1) := by decide +kernel
theorem dX5_pass_22 : decode cX5_pass 22 = .ok (.aload_n 0, 1) := by decide +kernel
theorem dX5_pass_23 : decode cX5_pass 23 = .ok (.getfield 19, 3) := by decide +kernel
theorem dX5_pass_26 : decode cX5_pass 26 = .ok (.iconst 1, 1) := by decide +kernel
theorem dX5_pass_27 : decode cX5_pass 27 = .ok (.iaload, 1) := by decide +kernel
theorem dX5_pass_28 : decode cX5_pass 28 = .ok (.istore_n 2, 1) := by decide +kernel
theorem dX5_pass_29 : decode cX5_pass 29 = .ok (.aload_n 0, 1) := by decide +kernel
theorem dX5_pass_30 : decode cX5_pass 30 = .ok (.iload_n 1, 1) := by decide +kernel
theorem dX5_pass_31 : decode cX5_pass 31 = .ok (.invokevirtual 100, 3) := by decide +kernel
theorem dX5_pass_34 : decode cX5_pass 34 = .ok (.aload_n 0, 1) := by decide +kernel
theorem dX5_pass_35 : decode cX5_pass 35 = .ok (.getfield 19, 3) := by decide +kernel
theorem dX5_pass_38 : decode cX5_pass 38 = .ok (.iconst 1, 1) := by decide +kernel
theorem dX5_pass_39 : decode cX5_pass 39 = .ok (.iaload, 1) := by decide +kernel
theorem dX5_pass_40 : decode cX5_pass 40 = .ok (.iload_n 2, 1) := by decide +kernel
theorem dX5_pass_41 : decode cX5_pass 41 = .ok (.isub, 1) := by decide +kernel
theorem dX5_pass_42 : decode cX5_pass 42 = .ok (.ireturn, 1) := by decide +kernel
theorem dX5_kept_0 : decode cX5_kept 0 = .ok (.iconst 2, 1) := by decide +kernel
theorem dX5_kept_1 : decode cX5_kept 1 = .ok (.anewarray 104, 3) := by decide +kernel
theorem dX5_kept_4 : decode cX5_kept 4 = .ok (.dup, 1) := by decide +kernel
theorem dX5_kept_5 : decode cX5_kept 5 = .ok (.iconst 0, 1) := by decide +kernel
theorem dX5_kept_6 : decode cX5_kept 6 = .ok (.aload_n 0, 1) := by decide +kernel
theorem dX5_kept_7 : decode cX5_kept 7 = .ok (.getfield 9, 3) := by decide +kernel
theorem dX5_kept_10 : decode cX5_kept 10 = .ok (.invokevirtual 105, 3) := by decide +kernel
theorem dX5_kept_13 : decode cX5_kept 13 = .ok (.checkcast 104, 3) := by decide +kernel
theorem dX5_kept_16 : decode cX5_kept 16 = .ok (.aastore, 1) := by decide +kernel
theorem dX5_kept_17 : decode cX5_kept 17 = .ok (.dup, 1) := by decide +kernel
theorem dX5_kept_18 : decode cX5_kept 18 = .ok (.iconst 1, 1) := by decide +kernel
theorem dX5_kept_19 : decode cX5_kept 19 = .ok (.aload_n 0, 1) := by decide +kernel
theorem dX5_kept_20 : decode cX5_kept 20 = .ok (.getfield 19, 3) := by decide +kernel
theorem dX5_kept_23 : decode cX5_kept 23 = .ok (.invokevirtual 105, 3) := by decide +kernel
theorem dX5_kept_26 : decode cX5_kept 26 = .ok (.checkcast 104, 3) := by decide +kernel
theorem dX5_kept_29 : decode cX5_kept 29 = .ok (.aastore, 1) := by decide +kernel
theorem dX5_kept_30 : decode cX5_kept 30 = .ok (.areturn, 1) := by decide +kernel
theorem dX5_bringBack_0 : decode cX5_bringBack 0 = .ok (.aload_n 1, 1) := by decide +kernel
theorem dX5_bringBack_1 : decode cX5_bringBack 1 = .ok (.iconst 0, 1) := by decide +kernel
theorem dX5_bringBack_2 : decode cX5_bringBack 2 = .ok (.aaload, 1) := by decide +kernel
theorem dX5_bringBack_3 : decode cX5_bringBack 3 = .ok (.iconst 0, 1) := by decide +kernel
theorem dX5_bringBack_4 : decode cX5_bringBack 4 = .ok (.aload_n 0, 1) := by decide +kernel
theorem dX5_bringBack_5 : decode cX5_bringBack 5 = .ok (.getfield 9, 3) := by decide +kernel
theorem dX5_bringBack_8 : decode cX5_bringBack 8 = .ok (.iconst 0, 1) := by decide +kernel
theorem dX5_bringBack_9 : decode cX5_bringBack 9 = .ok (.aload_n 0, 1) := by decide +kernel
theorem dX5_bringBack_10 : decode cX5_bringBack 10 = .ok (.getfield 9, 3) := by decide +kernel
theorem dX5_bringBack_13 : decode cX5_bringBack 13 = .ok (.arraylength, 1) := by decide +kernel
theorem dX5_bringBack_14 : decode cX5_bringBack 14 = .ok (.invokestatic 41, 3) := by decide +kernel
theorem dX5_bringBack_17 : decode cX5_bringBack 17 = .ok (.aload_n 1, 1) := by decide +kernel
theorem dX5_bringBack_18 : decode cX5_bringBack 18 = .ok (.iconst 1, 1) := by decide +kernel
theorem dX5_bringBack_19 : decode cX5_bringBack 19 = .ok (.aaload, 1) := by decide +kernel
theorem dX5_bringBack_20 : decode cX5_bringBack 20 = .ok (.iconst 0, 1) := by decide +kernel
theorem dX5_bringBack_21 : decode cX5_bringBack 21 = .ok (.aload_n 0, 1) := by decide +kernel
theorem dX5_bringBack_22 : decode cX5_bringBack 22 = .ok (.getfield 19, 3) := by decide +kernel
theorem dX5_bringBack_25 : decode cX5_bringBack 25 = .ok (.iconst 0, 1) := by decide +kernel
theorem dX5_bringBack_26 : decode cX5_bringBack 26 = .ok (.aload_n 0, 1) := by decide +kernel
theorem dX5_bringBack_27 : decode cX5_bringBack 27 = .ok (.getfield 19, 3) := by decide +kernel
theorem dX5_bringBack_30 : decode cX5_bringBack 30 = .ok (.arraylength, 1) := by decide +kernel
theorem dX5_bringBack_31 : decode cX5_bringBack 31 = .ok (.invokestatic 41, 3) := by decide +kernel
theorem dX5_bringBack_34 : decode cX5_bringBack 34 = .ok (.return_, 1) := by decide +kernel
set_option maxRecDepth 20000 in
theorem ggX5_agrees_X5_kept : GoodIn wsX5_agrees wsX5_kept := goodIn_r _ [6, 7, 8, 9, 10, 11, 12, 13, 14, 65, 66, 67, 68, 69, 70] (by decide +kernel) (by decide +kernel)
set_option maxRecDepth 20000 in
theorem gX5_agrees_X5_kept : GoodIn wsX5_agrees (wsV RX5 109 RX5 yX5_kept wsX5_kept) := goodIn_app (goodIn_of _ (by decide +kernel)) ggX5_agrees_X5_kept
set_option maxRecDepth 20000 in
theorem ggX5_agrees_X5_counted : GoodIn wsX5_agrees wsX5_counted := goodIn_r _ [18, 14, 19, 20, 21, 22, 5, 23, 24, 25, 26, 27, 8, 65, 66, 67, 68, 69, 70] (by decide +kernel) (by decide +kernel)
set_option maxRecDepth 20000 in
theorem gX5_agrees_X5_counted : GoodIn wsX5_agrees (wsV RX5 80 RX5 yX5_counted wsX5_counted) := goodIn_app (goodIn_of _ (by decide +kernel)) ggX5_agrees_X5_counted
set_option maxRecDepth 20000 in
theorem ggX5_agrees_X5_roundOn : GoodIn wsX5_agrees wsX5_roundOn := goodIn_r _ [31, 8, 32, 33, 34, 35, 36, 19, 14, 37, 38, 39, 40, 41, 42, 43, 5, 44, 45, 46, 47, 48, 49, 50, 51, 52, 24, 25, 26, 27, 53, 54, 55, 56, 57, 58, 59, 60, 65, 66, 67, 68, 69, 70] (by decide +kernel) (by decide +kernel)
set_option maxRecDepth 20000 in
theorem gX5_agrees_X5_roundOn : GoodIn wsX5_agrees (wsV RX5 97 RX5 yX5_roundOn wsX5_roundOn) := goodIn_app (goodIn_of _ (by decide +kernel)) ggX5_agrees_X5_roundOn
set_option maxRecDepth 20000 in
theorem ggX5_agrees_X5_bringBack : GoodIn wsX5_agrees wsX5_bringBack := goodIn_r _ [64, 8, 33, 34, 35, 36, 14, 65, 66, 67, 68, 69, 70] (by decide +kernel) (by decide +kernel)
set_option maxRecDepth 20000 in
theorem gX5_agrees_X5_bringBack : GoodIn wsX5_agrees (wsV RX5 113 RX5 yX5_bringBack wsX5_bringBack) := goodIn_app (goodIn_of _ (by decide +kernel)) ggX5_agrees_X5_bringBack
theorem dX5_agrees_0 : decode cX5_agrees 0 = .ok (.aload_n 0, 1) := by decide +kernel
theorem dX5_agrees_1 : decode cX5_agrees 1 = .ok (.iconst 0, 1) := by decide +kernel
theorem dX5_agrees_2 : decode cX5_agrees 2 = .ok (.putfield 22, 3) := by decide +kernel
theorem dX5_agrees_5 : decode cX5_agrees 5 = .ok (.aload_n 0, 1) := by decide +kernel
theorem dX5_agrees_6 : decode cX5_agrees 6 = .ok (.invokevirtual 109, 3) := by decide +kernel
theorem dX5_agrees_9 : decode cX5_agrees 9 = .ok (.astore_n 1, 1) := by decide +kernel
theorem dX5_agrees_10 : decode cX5_agrees 10 = .ok (.iconst 0, 1) := by decide +kernel
theorem dX5_agrees_11 : decode cX5_agrees 11 = .ok (.istore_n 2, 1) := by decide +kernel
theorem dX5_agrees_12 : decode cX5_agrees 12 = .ok (.iload_n 2, 1) := by decide +kernel
theorem dX5_agrees_13 : decode cX5_agrees 13 = .ok (.sipush 200, 3) := by decide +kernel
theorem dX5_agrees_16 : decode cX5_agrees 16 = .ok (.if_icmp .ge 22, 3) := by decide +kernel
theorem dX5_agrees_19 : decode cX5_agrees 19 = .ok (.aload_n 0, 1) := by decide +kernel
theorem dX5_agrees_20 : decode cX5_agrees 20 = .ok (.iconst 2, 1) := by decide +kernel
theorem dX5_agrees_21 : decode cX5_agrees 21 = .ok (.invokevirtual 80, 3) := by decide +kernel
theorem dX5_agrees_24 : decode cX5_agrees 24 = .ok (.iconst 1, 1) := by decide +kernel
theorem dX5_agrees_25 : decode cX5_agrees 25 = .ok (.if_icmp .le 13, 3) := by decide +kernel
theorem dX5_agrees_28 : decode cX5_agrees 28 = .ok (.aload_n 0, 1) := by decide +kernel
theorem dX5_agrees_29 : decode cX5_agrees 29 = .ok (.invokevirtual 97, 3) := by decide +kernel
theorem dX5_agrees_32 : decode cX5_agrees 32 = .ok (.iinc 2 1, 3) := by decide +kernel
theorem dX5_agrees_35 : decode cX5_agrees 35 = .ok (.goto (-23), 3) := by decide +kernel
theorem dX5_agrees_38 : decode cX5_agrees 38 = .ok (.aload_n 0, 1) := by decide +kernel
theorem dX5_agrees_39 : decode cX5_agrees 39 = .ok (.iconst 2, 1) := by decide +kernel
theorem dX5_agrees_40 : decode cX5_agrees 40 = .ok (.invokevirtual 80, 3) := by decide +kernel
theorem dX5_agrees_43 : decode cX5_agrees 43 = .ok (.iconst 1, 1) := by decide +kernel
theorem dX5_agrees_44 : decode cX5_agrees 44 = .ok (.if_icmp .le 5, 3) := by decide +kernel
theorem dX5_agrees_47 : decode cX5_agrees 47 = .ok (.iconst (-1), 1) := by decide +kernel
theorem dX5_agrees_48 : decode cX5_agrees 48 = .ok (.istore_n 2, 1) := by decide +kernel
theorem dX5_agrees_49 : decode cX5_agrees 49 = .ok (.aload_n 0, 1) := by decide +kernel
theorem dX5_agrees_50 : decode cX5_agrees 50 = .ok (.aload_n 1, 1) := by decide +kernel
theorem dX5_agrees_51 : decode cX5_agrees 51 = .ok (.invokevirtual 113, 3) := by decide +kernel
theorem dX5_agrees_54 : decode cX5_agrees 54 = .ok (.iload_n 2, 1) := by decide +kernel
theorem dX5_agrees_55 : decode cX5_agrees 55 = .ok (.ireturn, 1) := by decide +kernel
set_option maxRecDepth 20000 in
theorem ggX5_foresee_X5_isIn : GoodIn wsX5_foresee wsX5_isIn := goodIn_r _ [5] (by decide +kernel) (by decide +kernel)
set_option maxRecDepth 20000 in
theorem gX5_foresee_X5_isIn : GoodIn wsX5_foresee (va_wsS RX5 29 yX5_isIn wsX5_isIn) := goodIn_app (goodIn_of _ (by decide +kernel)) ggX5_foresee_X5_isIn
set_option maxRecDepth 20000 in
theorem ggX5_foresee_X5_fail : GoodIn wsX5_foresee wsX5_fail := goodIn_r _ [9, 1, 76, 77, 78, 79, 80, 81] (by decide +kernel) (by decide +kernel)
set_option maxRecDepth 20000 in
theorem gX5_foresee_X5_fail : GoodIn wsX5_foresee (wsV RX5 37 RX5 yX5_fail wsX5_fail) := goodIn_app (goodIn_of _ (by decide +kernel)) ggX5_foresee_X5_fail
set_option maxRecDepth 20000 in
theorem ggX5_foresee_X5_isParrot : GoodIn wsX5_foresee wsX5_isParrot := goodIn_r _ [13, 14, 2, 3, 4, 5, 76, 77, 78, 79, 80, 81] (by decide +kernel) (by decide +kernel)
set_option maxRecDepth 20000 in
theorem gX5_foresee_X5_isParrot : GoodIn wsX5_foresee (wsV RX5 47 RX5 yX5_isParrot wsX5_isParrot) := goodIn_app (goodIn_of _ (by decide +kernel)) ggX5_foresee_X5_isParrot
set_option maxRecDepth 20000 in
theorem ggX5_foresee_X5_kept : GoodIn wsX5_foresee wsX5_kept := goodIn_r _ [18, 19, 20, 21, 22, 23, 24, 25, 26, 76, 77, 78, 79, 80, 81] (by decide +kernel) (by decide +kernel)
set_option maxRecDepth 20000 in
theorem gX5_foresee_X5_kept : GoodIn wsX5_foresee (wsV RX5 109 RX5 yX5_kept wsX5_kept) := goodIn_app (goodIn_of _ (by decide +kernel)) ggX5_foresee_X5_kept
set_option maxRecDepth 20000 in
theorem ggX5_foresee_X5_roundsOn : GoodIn wsX5_foresee wsX5_roundsOn := goodIn_r _ [30, 31, 32, 33, 4, 34, 20, 35, 36, 37, 38, 39, 14, 26, 40, 41, 42, 43, 44, 45, 46, 47, 48, 49, 50, 51, 52, 53, 54, 55, 56, 57, 58, 59, 60, 61, 62, 63, 64, 65, 66, 67, 76, 77, 78, 79, 80, 81] (by decide +kernel) (by decide +kernel)
set_option maxRecDepth 20000 in
theorem gX5_foresee_X5_roundsOn : GoodIn wsX5_foresee (wsV RX5 100 RX5 yX5_roundsOn wsX5_roundsOn) := goodIn_app (goodIn_of _ (by decide +kernel)) ggX5_foresee_X5_roundsOn
set_option maxRecDepth 20000 in
theorem ggX5_foresee_X5_word : GoodIn wsX5_foresee wsX5_word := goodIn_r _ [71, 56, 57, 58, 4, 59, 20, 76, 77, 78, 79, 80, 81] (by decide +kernel) (by decide +kernel)
set_option maxRecDepth 20000 in
theorem gX5_foresee_X5_word : GoodIn wsX5_foresee (wsV RX5 61 RX5 yX5_word wsX5_word) := goodIn_app (goodIn_of _ (by decide +kernel)) ggX5_foresee_X5_word
set_option maxRecDepth 20000 in
theorem ggX5_foresee_X5_bringBack : GoodIn wsX5_foresee wsX5_bringBack := goodIn_r _ [75, 20, 36, 37, 38, 39, 26, 76, 77, 78, 79, 80, 81] (by decide +kernel) (by decide +kernel)
set_option maxRecDepth 20000 in
theorem gX5_foresee_X5_bringBack : GoodIn wsX5_foresee (wsV RX5 113 RX5 yX5_bringBack wsX5_bringBack) := goodIn_app (goodIn_of _ (by decide +kernel)) ggX5_foresee_X5_bringBack
theorem dX5_foresee_0 : decode cX5_foresee 0 = .ok (.aload_n 0, 1) := by decide +kernel
theorem dX5_foresee_1 : decode cX5_foresee 1 = .ok (.iconst 0, 1) := by decide +kernel
theorem dX5_foresee_2 : decode cX5_foresee 2 = .ok (.putfield 22, 3) := by decide +kernel
theorem dX5_foresee_5 : decode cX5_foresee 5 = .ok (.iload_n 1, 1) := by decide +kernel
theorem dX5_foresee_6 : decode cX5_foresee 6 = .ok (.iconst 1, 1) := by decide +kernel
theorem dX5_foresee_7 : decode cX5_foresee 7 = .ok (.sipush 200, 3) := by decide +kernel
theorem dX5_foresee_10 : decode cX5_foresee 10 = .ok (.invokestatic 29, 3) := by decide +kernel
theorem dX5_foresee_13 : decode cX5_foresee 13 = .ok (.ifCond .ne 9, 3) := by decide +kernel
theorem dX5_foresee_16 : decode cX5_foresee 16 = .ok (.aload_n 0, 1) := by decide +kernel
theorem dX5_foresee_17 : decode cX5_foresee 17 = .ok (.iconst 1, 1) := by decide +kernel
theorem dX5_foresee_18 : decode cX5_foresee 18 = .ok (.invokevirtual 37, 3) := by decide +kernel
theorem dX5_foresee_21 : decode cX5_foresee 21 = .ok (.ireturn, 1) := by decide +kernel
theorem dX5_foresee_22 : decode cX5_foresee 22 = .ok (.aload_n 0, 1) := by decide +kernel
theorem dX5_foresee_23 : decode cX5_foresee 23 = .ok (.iload_n 2, 1) := by decide +kernel
theorem dX5_foresee_24 : decode cX5_foresee 24 = .ok (.invokevirtual 47, 3) := by decide +kernel
theorem dX5_foresee_27 : decode cX5_foresee 27 = .ok (.ifCond .ne 9, 3) := by decide +kernel
theorem dX5_foresee_30 : decode cX5_foresee 30 = .ok (.aload_n 0, 1) := by decide +kernel
theorem dX5_foresee_31 : decode cX5_foresee 31 = .ok (.iconst 2, 1) := by decide +kernel
theorem dX5_foresee_32 : decode cX5_foresee 32 = .ok (.invokevirtual 37, 3) := by decide +kernel
theorem dX5_foresee_35 : decode cX5_foresee 35 = .ok (.ireturn, 1) := by decide +kernel
theorem dX5_foresee_36 : decode cX5_foresee 36 = .ok (.aload_n 0, 1) := by decide +kernel
theorem dX5_foresee_37 : decode cX5_foresee 37 = .ok (.invokevirtual 109, 3) := by decide +kernel
theorem dX5_foresee_40 : decode cX5_foresee 40 = .ok (.astore_n 3, 1) := by decide +kernel
theorem dX5_foresee_41 : decode cX5_foresee 41 = .ok (.aload_n 0, 1) := by decide +kernel
theorem dX5_foresee_42 : decode cX5_foresee 42 = .ok (.iload_n 1, 1) := by decide +kernel
theorem dX5_foresee_43 : decode cX5_foresee 43 = .ok (.invokevirtual 100, 3) := by decide +kernel
theorem dX5_foresee_46 : decode cX5_foresee 46 = .ok (.aload_n 0, 1) := by decide +kernel
theorem dX5_foresee_47 : decode cX5_foresee 47 = .ok (.iload_n 2, 1) := by decide +kernel
theorem dX5_foresee_48 : decode cX5_foresee 48 = .ok (.invokevirtual 61, 3) := by decide +kernel
theorem dX5_foresee_51 : decode cX5_foresee 51 = .ok (.istore 4, 2) := by decide +kernel
theorem dX5_foresee_53 : decode cX5_foresee 53 = .ok (.aload_n 0, 1) := by decide +kernel
theorem dX5_foresee_54 : decode cX5_foresee 54 = .ok (.aload_n 3, 1) := by decide +kernel
theorem dX5_foresee_55 : decode cX5_foresee 55 = .ok (.invokevirtual 113, 3) := by decide +kernel
theorem dX5_foresee_58 : decode cX5_foresee 58 = .ok (.iload 4, 2) := by decide +kernel
theorem dX5_foresee_60 : decode cX5_foresee 60 = .ok (.ireturn, 1) := by decide +kernel
set_option maxRecDepth 20000 in
theorem ggX5_advise_X5_isWord : GoodIn wsX5_advise wsX5_isWord := goodIn_r _ [6, 7, 8, 5, 9] (by decide +kernel) (by decide +kernel)
set_option maxRecDepth 20000 in
theorem gX5_advise_X5_isWord : GoodIn wsX5_advise (va_wsS RX5 58 yX5_isWord wsX5_isWord) := goodIn_app (goodIn_of _ (by decide +kernel)) ggX5_advise_X5_isWord
set_option maxRecDepth 20000 in
theorem ggX5_advise_X5_isIn : GoodIn wsX5_advise wsX5_isIn := goodIn_r _ [9] (by decide +kernel) (by decide +kernel)
set_option maxRecDepth 20000 in
theorem gX5_advise_X5_isIn : GoodIn wsX5_advise (va_wsS RX5 29 yX5_isIn wsX5_isIn) := goodIn_app (goodIn_of _ (by decide +kernel)) ggX5_advise_X5_isIn
set_option maxRecDepth 20000 in
theorem ggX5_advise_X5_fail : GoodIn wsX5_advise wsX5_fail := goodIn_r _ [13, 1, 84, 85, 86, 87, 88, 89] (by decide +kernel) (by decide +kernel)
set_option maxRecDepth 20000 in
theorem gX5_advise_X5_fail : GoodIn wsX5_advise (wsV RX5 37 RX5 yX5_fail wsX5_fail) := goodIn_app (goodIn_of _ (by decide +kernel)) ggX5_advise_X5_fail
set_option maxRecDepth 20000 in
theorem ggX5_advise_X5_kept : GoodIn wsX5_advise wsX5_kept := goodIn_r _ [17, 18, 19, 20, 21, 22, 23, 24, 25, 84, 85, 86, 87, 88, 89] (by decide +kernel) (by decide +kernel)
set_option maxRecDepth 20000 in
theorem gX5_advise_X5_kept : GoodIn wsX5_advise (wsV RX5 109 RX5 yX5_kept wsX5_kept) := goodIn_app (goodIn_of _ (by decide +kernel)) ggX5_advise_X5_kept
set_option maxRecDepth 20000 in
theorem ggX5_advise_X5_say : GoodIn wsX5_advise wsX5_say := goodIn_r _ [29, 30, 19, 31, 32, 33, 34, 84, 85, 86, 87, 88, 89] (by decide +kernel) (by decide +kernel)
set_option maxRecDepth 20000 in
theorem gX5_advise_X5_say : GoodIn wsX5_advise (wsV RX5 64 RX5 yX5_say wsX5_say) := goodIn_app (goodIn_of _ (by decide +kernel)) ggX5_advise_X5_say
set_option maxRecDepth 20000 in
theorem ggX5_advise_X5_roundsOn : GoodIn wsX5_advise wsX5_roundsOn := goodIn_r _ [38, 39, 40, 41, 5, 42, 19, 43, 31, 32, 33, 34, 2, 25, 44, 45, 46, 47, 48, 49, 50, 51, 52, 53, 54, 55, 56, 57, 58, 59, 60, 61, 62, 63, 64, 65, 66, 67, 68, 69, 70, 71, 84, 85, 86, 87, 88, 89] (by decide +kernel) (by decide +kernel)
set_option maxRecDepth 20000 in
theorem gX5_advise_X5_roundsOn : GoodIn wsX5_advise (wsV RX5 100 RX5 yX5_roundsOn wsX5_roundsOn) := goodIn_app (goodIn_of _ (by decide +kernel)) ggX5_advise_X5_roundsOn
set_option maxRecDepth 20000 in
theorem ggX5_advise_X5_votesFor : GoodIn wsX5_advise wsX5_votesFor := goodIn_r _ [75, 2, 76, 77, 78, 5, 79, 60, 61, 62, 63, 19, 84, 85, 86, 87, 88, 89] (by decide +kernel) (by decide +kernel)
set_option maxRecDepth 20000 in
theorem gX5_advise_X5_votesFor : GoodIn wsX5_advise (wsV RX5 77 RX5 yX5_votesFor wsX5_votesFor) := goodIn_app (goodIn_of _ (by decide +kernel)) ggX5_advise_X5_votesFor
set_option maxRecDepth 20000 in
theorem ggX5_advise_X5_bringBack : GoodIn wsX5_advise wsX5_bringBack := goodIn_r _ [83, 19, 31, 32, 33, 34, 25, 84, 85, 86, 87, 88, 89] (by decide +kernel) (by decide +kernel)
set_option maxRecDepth 20000 in
theorem gX5_advise_X5_bringBack : GoodIn wsX5_advise (wsV RX5 113 RX5 yX5_bringBack wsX5_bringBack) := goodIn_app (goodIn_of _ (by decide +kernel)) ggX5_advise_X5_bringBack
theorem dX5_advise_0 : decode cX5_advise 0 = .ok (.aload_n 0, 1) := by decide +kernel
theorem dX5_advise_1 : decode cX5_advise 1 = .ok (.iconst 0, 1) := by decide +kernel
theorem dX5_advise_2 : decode cX5_advise 2 = .ok (.putfield 22, 3) := by decide +kernel
theorem dX5_advise_5 : decode cX5_advise 5 = .ok (.iload_n 1, 1) := by decide +kernel
theorem dX5_advise_6 : decode cX5_advise 6 = .ok (.invokestatic 58, 3) := by decide +kernel
theorem dX5_advise_9 : decode cX5_advise 9 = .ok (.ifCond .eq 13, 3) := by decide +kernel
theorem dX5_advise_12 : decode cX5_advise 12 = .ok (.iload_n 2, 1) := by decide +kernel
theorem dX5_advise_13 : decode cX5_advise 13 = .ok (.iconst 1, 1) := by decide +kernel
theorem dX5_advise_14 : decode cX5_advise 14 = .ok (.bipush 40, 2) := by decide +kernel
theorem dX5_advise_16 : decode cX5_advise 16 = .ok (.invokestatic 29, 3) := by decide +kernel
theorem dX5_advise_19 : decode cX5_advise 19 = .ok (.ifCond .ne 9, 3) := by decide +kernel
theorem dX5_advise_22 : decode cX5_advise 22 = .ok (.aload_n 0, 1) := by decide +kernel
theorem dX5_advise_23 : decode cX5_advise 23 = .ok (.iconst 1, 1) := by decide +kernel
theorem dX5_advise_24 : decode cX5_advise 24 = .ok (.invokevirtual 37, 3) := by decide +kernel
theorem dX5_advise_27 : decode cX5_advise 27 = .ok (.ireturn, 1) := by decide +kernel
theorem dX5_advise_28 : decode cX5_advise 28 = .ok (.aload_n 0, 1) := by decide +kernel
theorem dX5_advise_29 : decode cX5_advise 29 = .ok (.invokevirtual 109, 3) := by decide +kernel
theorem dX5_advise_32 : decode cX5_advise 32 = .ok (.astore_n 3, 1) := by decide +kernel
theorem dX5_advise_33 : decode cX5_advise 33 = .ok (.iconst (-1), 1) := by decide +kernel
theorem dX5_advise_34 : decode cX5_advise 34 = .ok (.istore 4, 2) := by decide +kernel
theorem dX5_advise_36 : decode cX5_advise 36 = .ok (.iconst (-1), 1) := by decide +kernel
theorem dX5_advise_37 : decode cX5_advise 37 = .ok (.istore 5, 2) := by decide +kernel
theorem dX5_advise_39 : decode cX5_advise 39 = .ok (.iconst 0, 1) := by decide +kernel
theorem dX5_advise_40 : decode cX5_advise 40 = .ok (.istore 6, 2) := by decide +kernel
theorem dX5_advise_42 : decode cX5_advise 42 = .ok (.iload 6, 2) := by decide +kernel
theorem dX5_advise_44 : decode cX5_advise 44 = .ok (.aload_n 0, 1) := by decide +kernel
theorem dX5_advise_45 : decode cX5_advise 45 = .ok (.getfield 26, 3) := by decide +kernel
theorem dX5_advise_48 : decode cX5_advise 48 = .ok (.if_icmp .ge 53, 3) := by decide +kernel
theorem dX5_advise_51 : decode cX5_advise 51 = .ok (.aload_n 0, 1) := by decide +kernel
theorem dX5_advise_52 : decode cX5_advise 52 = .ok (.iload 6, 2) := by decide +kernel
theorem dX5_advise_54 : decode cX5_advise 54 = .ok (.iload_n 1, 1) := by decide +kernel
theorem dX5_advise_55 : decode cX5_advise 55 = .ok (.bipush 9, 2) := by decide +kernel
theorem dX5_advise_57 : decode cX5_advise 57 = .ok (.invokevirtual 64, 3) := by decide +kernel
theorem dX5_advise_60 : decode cX5_advise 60 = .ok (.aload_n 0, 1) := by decide +kernel
theorem dX5_advise_61 : decode cX5_advise 61 = .ok (.iload_n 2, 1) := by decide +kernel
theorem dX5_advise_62 : decode cX5_advise 62 = .ok (.invokevirtual 100, 3) := by decide +kernel
theorem dX5_advise_65 : decode cX5_advise 65 = .ok (.aload_n 0, 1) := by decide +kernel
theorem dX5_advise_66 : decode cX5_advise 66 = .ok (.iload_n 1, 1) := by decide +kernel
theorem dX5_advise_67 : decode cX5_advise 67 = .ok (.invokevirtual 77, 3) := by decide +kernel
theorem dX5_advise_70 : decode cX5_advise 70 = .ok (.istore 7, 2) := by decide +kernel
theorem dX5_advise_72 : decode cX5_advise 72 = .ok (.aload_n 0, 1) := by decide +kernel
theorem dX5_advise_73 : decode cX5_advise 73 = .ok (.aload_n 3, 1) := by decide +kernel
theorem dX5_advise_74 : decode cX5_advise 74 = .ok (.invokevirtual 113, 3) := by decide +kernel
theorem dX5_advise_77 : decode cX5_advise 77 = .ok (.iload 7, 2) := by decide +kernel
theorem dX5_advise_79 : decode cX5_advise 79 = .ok (.iload 5, 2) := by decide +kernel
theorem dX5_advise_81 : decode cX5_advise 81 = .ok (.if_icmp .gt 6, 3) := by decide +kernel
theorem dX5_advise_84 : decode cX5_advise 84 = .ok (.goto 11, 3) := by decide +kernel
theorem dX5_advise_87 : decode cX5_advise 87 = .ok (.iload 6, 2) := by decide +kernel
theorem dX5_advise_89 : decode cX5_advise 89 = .ok (.istore 4, 2) := by decide +kernel
theorem dX5_advise_91 : decode cX5_advise 91 = .ok (.iload 7, 2) := by decide +kernel
theorem dX5_advise_93 : decode cX5_advise 93 = .ok (.istore 5, 2) := by decide +kernel
theorem dX5_advise_95 : decode cX5_advise 95 = .ok (.iinc 6 1, 3) := by decide +kernel
theorem dX5_advise_98 : decode cX5_advise 98 = .ok (.goto (-56), 3) := by decide +kernel
theorem dX5_advise_101 : decode cX5_advise 101 = .ok (.iload 4, 2) := by decide +kernel
theorem dX5_advise_103 : decode cX5_advise 103 = .ok (.ireturn, 1) := by decide +kernel
set_option maxRecDepth 20000 in
theorem ggX5_source_X5_isParrot : GoodIn wsX5_source wsX5_isParrot := goodIn_r _ [8, 3, 9, 10, 7, 11, 21, 22, 23, 24, 25, 26] (by decide +kernel) (by decide +kernel)
set_option maxRecDepth 20000 in
theorem gX5_source_X5_isParrot : GoodIn wsX5_source (wsV RX5 47 RX5 yX5_isParrot wsX5_isParrot) := goodIn_app (goodIn_of _ (by decide +kernel)) ggX5_source_X5_isParrot
set_option maxRecDepth 20000 in
theorem ggX5_source_X5_fail : GoodIn wsX5_source wsX5_fail := goodIn_r _ [15, 1, 21, 22, 23, 24, 25, 26] (by decide +kernel) (by decide +kernel)
set_option maxRecDepth 20000 in
theorem gX5_source_X5_fail : GoodIn wsX5_source (wsV RX5 37 RX5 yX5_fail wsX5_fail) := goodIn_app (goodIn_of _ (by decide +kernel)) ggX5_source_X5_fail
set_option maxRecDepth 20000 in
theorem ggX5_source_X5_ju : GoodIn wsX5_source wsX5_ju := goodIn_r _ [19, 20, 21, 22, 23, 24, 25, 26] (by decide +kernel) (by decide +kernel)
set_option maxRecDepth 20000 in
theorem gX5_source_X5_ju : GoodIn wsX5_source (wsV RX5 33 RX5 yX5_ju wsX5_ju) := goodIn_app (goodIn_of _ (by decide +kernel)) ggX5_source_X5_ju
theorem dX5_source_0 : decode cX5_source 0 = .ok (.aload_n 0, 1) := by decide +kernel
theorem dX5_source_1 : decode cX5_source 1 = .ok (.iconst 0, 1) := by decide +kernel
theorem dX5_source_2 : decode cX5_source 2 = .ok (.putfield 22, 3) := by decide +kernel
theorem dX5_source_5 : decode cX5_source 5 = .ok (.aload_n 0, 1) := by decide +kernel
theorem dX5_source_6 : decode cX5_source 6 = .ok (.iload_n 1, 1) := by decide +kernel
theorem dX5_source_7 : decode cX5_source 7 = .ok (.invokevirtual 47, 3) := by decide +kernel
theorem dX5_source_10 : decode cX5_source 10 = .ok (.ifCond .ne 9, 3) := by decide +kernel
theorem dX5_source_13 : decode cX5_source 13 = .ok (.aload_n 0, 1) := by decide +kernel
theorem dX5_source_14 : decode cX5_source 14 = .ok (.iconst 1, 1) := by decide +kernel
theorem dX5_source_15 : decode cX5_source 15 = .ok (.invokevirtual 37, 3) := by decide +kernel
theorem dX5_source_18 : decode cX5_source 18 = .ok (.ireturn, 1) := by decide +kernel
theorem dX5_source_19 : decode cX5_source 19 = .ok (.iconst 0, 1) := by decide +kernel
theorem dX5_source_20 : decode cX5_source 20 = .ok (.istore_n 2, 1) := by decide +kernel
theorem dX5_source_21 : decode cX5_source 21 = .ok (.iconst 0, 1) := by decide +kernel
theorem dX5_source_22 : decode cX5_source 22 = .ok (.istore_n 3, 1) := by decide +kernel
theorem dX5_source_23 : decode cX5_source 23 = .ok (.iload_n 3, 1) := by decide +kernel
theorem dX5_source_24 : decode cX5_source 24 = .ok (.aload_n 0, 1) := by decide +kernel
theorem dX5_source_25 : decode cX5_source 25 = .ok (.iload_n 1, 1) := by decide +kernel
theorem dX5_source_26 : decode cX5_source 26 = .ok (.bipush 9, 2) := by decide +kernel
theorem dX5_source_28 : decode cX5_source 28 = .ok (.invokevirtual 33, 3) := by decide +kernel
theorem dX5_source_31 : decode cX5_source 31 = .ok (.if_icmp .ge 24, 3) := by decide +kernel
theorem dX5_source_34 : decode cX5_source 34 = .ok (.iload_n 2, 1) := by decide +kernel
theorem dX5_source_35 : decode cX5_source 35 = .ok (.iconst 1, 1) := by decide +kernel
theorem dX5_source_36 : decode cX5_source 36 = .ok (.aload_n 0, 1) := by decide +kernel
theorem dX5_source_37 : decode cX5_source 37 = .ok (.getfield 16, 3) := by decide +kernel
theorem dX5_source_40 : decode cX5_source 40 = .ok (.iconst 4, 1) := by decide +kernel
theorem dX5_source_41 : decode cX5_source 41 = .ok (.iload_n 1, 1) := by decide +kernel
theorem dX5_source_42 : decode cX5_source 42 = .ok (.imul, 1) := by decide +kernel
theorem dX5_source_43 : decode cX5_source 43 = .ok (.iload_n 3, 1) := by decide +kernel
theorem dX5_source_44 : decode cX5_source 44 = .ok (.iadd, 1) := by decide +kernel
theorem dX5_source_45 : decode cX5_source 45 = .ok (.iaload, 1) := by decide +kernel
theorem dX5_source_46 : decode cX5_source 46 = .ok (.ishl, 1) := by decide +kernel
theorem dX5_source_47 : decode cX5_source 47 = .ok (.ior, 1) := by decide +kernel
theorem dX5_source_48 : decode cX5_source 48 = .ok (.istore_n 2, 1) := by decide +kernel
theorem dX5_source_49 : decode cX5_source 49 = .ok (.iinc 3 1, 3) := by decide +kernel
theorem dX5_source_52 : decode cX5_source 52 = .ok (.goto (-29), 3) := by decide +kernel
theorem dX5_source_55 : decode cX5_source 55 = .ok (.iconst 0, 1) := by decide +kernel
theorem dX5_source_56 : decode cX5_source 56 = .ok (.istore_n 3, 1) := by decide +kernel
theorem dX5_source_57 : decode cX5_source 57 = .ok (.iload_n 3, 1) := by decide +kernel
theorem dX5_source_58 : decode cX5_source 58 = .ok (.aload_n 0, 1) := by decide +kernel
theorem dX5_source_59 : decode cX5_source 59 = .ok (.getfield 26, 3) := by decide +kernel
theorem dX5_source_62 : decode cX5_source 62 = .ok (.if_icmp .ge 76, 3) := by decide +kernel
theorem dX5_source_65 : decode cX5_source 65 = .ok (.iconst 0, 1) := by decide +kernel
theorem dX5_source_66 : decode cX5_source 66 = .ok (.istore 4, 2) := by decide +kernel
theorem dX5_source_68 : decode cX5_source 68 = .ok (.iload 4, 2) := by decide +kernel
theorem dX5_source_70 : decode cX5_source 70 = .ok (.aload_n 0, 1) := by decide +kernel
theorem dX5_source_71 : decode cX5_source 71 = .ok (.getfield 26, 3) := by decide +kernel
theorem dX5_source_74 : decode cX5_source 74 = .ok (.if_icmp .ge 58, 3) := by decide +kernel
theorem dX5_source_77 : decode cX5_source 77 = .ok (.iconst 0, 1) := by decide +kernel
theorem dX5_source_78 : decode cX5_source 78 = .ok (.istore 5, 2) := by decide +kernel
theorem dX5_source_80 : decode cX5_source 80 = .ok (.iload 5, 2) := by decide +kernel
theorem dX5_source_82 : decode cX5_source 82 = .ok (.aload_n 0, 1) := by decide +kernel
theorem dX5_source_83 : decode cX5_source 83 = .ok (.iload 4, 2) := by decide +kernel
theorem dX5_source_85 : decode cX5_source 85 = .ok (.bipush 9, 2) := by decide +kernel
theorem dX5_source_87 : decode cX5_source 87 = .ok (.invokevirtual 33, 3) := by decide +kernel
theorem dX5_source_90 : decode cX5_source 90 = .ok (.if_icmp .ge 36, 3) := by decide +kernel
theorem dX5_source_93 : decode cX5_source 93 = .ok (.iload_n 2, 1) := by decide +kernel
theorem dX5_source_94 : decode cX5_source 94 = .ok (.iload 4, 2) := by decide +kernel
theorem dX5_source_96 : decode cX5_source 96 = .ok (.ishr, 1) := by decide +kernel
theorem dX5_source_97 : decode cX5_source 97 = .ok (.iconst 1, 1) := by decide +kernel
theorem dX5_source_98 : decode cX5_source 98 = .ok (.iand, 1) := by decide +kernel
theorem dX5_source_99 : decode cX5_source 99 = .ok (.iconst 1, 1) := by decide +kernel
theorem dX5_source_100 : decode cX5_source 100 = .ok (.if_icmp .ne 26, 3) := by decide +kernel
theorem dX5_source_103 : decode cX5_source 103 = .ok (.iload_n 2, 1) := by decide +kernel
theorem dX5_source_104 : decode cX5_source 104 = .ok (.iconst 1, 1) := by decide +kernel
theorem dX5_source_105 : decode cX5_source 105 = .ok (.aload_n 0, 1) := by decide +kernel
theorem dX5_source_106 : decode cX5_source 106 = .ok (.getfield 16, 3) := by decide +kernel
theorem dX5_source_109 : decode cX5_source 109 = .ok (.iconst 4, 1) := by decide +kernel
theorem dX5_source_110 : decode cX5_source 110 = .ok (.iload 4, 2) := by decide +kernel
theorem dX5_source_112 : decode cX5_source 112 = .ok (.imul, 1) := by decide +kernel
theorem dX5_source_113 : decode cX5_source 113 = .ok (.iload 5, 2) := by decide +kernel
theorem dX5_source_115 : decode cX5_source 115 = .ok (.iadd, 1) := by decide +kernel
theorem dX5_source_116 : decode cX5_source 116 = .ok (.iaload, 1) := by decide +kernel
theorem dX5_source_117 : decode cX5_source 117 = .ok (.ishl, 1) := by decide +kernel
theorem dX5_source_118 : decode cX5_source 118 = .ok (.ior, 1) := by decide +kernel
theorem dX5_source_119 : decode cX5_source 119 = .ok (.istore_n 2, 1) := by decide +kernel
theorem dX5_source_120 : decode cX5_source 120 = .ok (.iinc 5 1, 3) := by decide +kernel
theorem dX5_source_123 : decode cX5_source 123 = .ok (.goto (-43), 3) := by decide +kernel
theorem dX5_source_126 : decode cX5_source 126 = .ok (.iinc 4 1, 3) := by decide +kernel
theorem dX5_source_129 : decode cX5_source 129 = .ok (.goto (-61), 3) := by decide +kernel
theorem dX5_source_132 : decode cX5_source 132 = .ok (.iinc 3 1, 3) := by decide +kernel
theorem dX5_source_135 : decode cX5_source 135 = .ok (.goto (-78), 3) := by decide +kernel
theorem dX5_source_138 : decode cX5_source 138 = .ok (.iload_n 2, 1) := by decide +kernel
theorem dX5_source_139 : decode cX5_source 139 = .ok (.ireturn, 1) := by decide +kernel
set_option maxRecDepth 20000 in
theorem ggX5_mean_X5_counted : GoodIn wsX5_mean wsX5_counted := goodIn_r _ [7, 8, 2, 9, 10, 11, 6, 12, 13, 14, 15, 16, 17, 18, 19, 20, 21, 22, 23] (by decide +kernel) (by decide +kernel)
set_option maxRecDepth 20000 in
theorem gX5_mean_X5_counted : GoodIn wsX5_mean (wsV RX5 80 RX5 yX5_counted wsX5_counted) := goodIn_app (goodIn_of _ (by decide +kernel)) ggX5_mean_X5_counted
theorem dX5_mean_0 : decode cX5_mean 0 = .ok (.aload_n 0, 1) := by decide +kernel
theorem dX5_mean_1 : decode cX5_mean 1 = .ok (.iconst 0, 1) := by decide +kernel
theorem dX5_mean_2 : decode cX5_mean 2 = .ok (.putfield 22, 3) := by decide +kernel
theorem dX5_mean_5 : decode cX5_mean 5 = .ok (.aload_n 0, 1) := by decide +kernel
theorem dX5_mean_6 : decode cX5_mean 6 = .ok (.getfield 26, 3) := by decide +kernel
theorem dX5_mean_9 : decode cX5_mean 9 = .ok (.ifCond .ne 7, 3) := by decide +kernel
theorem dX5_mean_12 : decode cX5_mean 12 = .ok (.dconst 0, 1) := by decide +kernel
theorem dX5_mean_13 : decode cX5_mean 13 = .ok (.goto 15, 3) := by decide +kernel
theorem dX5_mean_16 : decode cX5_mean 16 = .ok (.aload_n 0, 1) := by decide +kernel
theorem dX5_mean_17 : decode cX5_mean 17 = .ok (.iconst 4, 1) := by decide +kernel
theorem dX5_mean_18 : decode cX5_mean 18 = .ok (.invokevirtual 80, 3) := by decide +kernel
theorem dX5_mean_21 : decode cX5_mean 21 = .ok (.i2d, 1) := by decide +kernel
theorem dX5_mean_22 : decode cX5_mean 22 = .ok (.aload_n 0, 1) := by decide +kernel
theorem dX5_mean_23 : decode cX5_mean 23 = .ok (.getfield 26, 3) := by decide +kernel
theorem dX5_mean_26 : decode cX5_mean 26 = .ok (.i2d, 1) := by decide +kernel
theorem dX5_mean_27 : decode cX5_mean 27 = .ok (.ddiv, 1) := by decide +kernel
theorem dX5_mean_28 : decode cX5_mean 28 = .ok (.dreturn, 1) := by decide +kernel
set_option maxRecDepth 20000 in
theorem ggX5_digest_X5_counted : GoodIn wsX5_digest wsX5_counted := goodIn_r _ [10, 11, 4, 12, 13, 14, 9, 15, 16, 17, 18, 19, 20, 37, 38, 39, 40, 41, 42] (by decide +kernel) (by decide +kernel)
set_option maxRecDepth 20000 in
theorem gX5_digest_X5_counted : GoodIn wsX5_digest (wsV RX5 80 RX5 yX5_counted wsX5_counted) := goodIn_app (goodIn_of _ (by decide +kernel)) ggX5_digest_X5_counted
set_option maxRecDepth 20000 in
theorem ggX5_digest_X5_parrotTold : GoodIn wsX5_digest wsX5_parrotTold := goodIn_r _ [24, 4, 12, 13, 14, 9, 15, 16, 17, 18, 19, 20, 25, 26, 27, 28, 5, 29, 30, 31, 32, 37, 38, 39, 40, 41, 42] (by decide +kernel) (by decide +kernel)
set_option maxRecDepth 20000 in
theorem gX5_digest_X5_parrotTold : GoodIn wsX5_digest (wsV RX5 70 RX5 yX5_parrotTold wsX5_parrotTold) := goodIn_app (goodIn_of _ (by decide +kernel)) ggX5_digest_X5_parrotTold
set_option maxRecDepth 20000 in
theorem ggX5_digest_X5_halfTold : GoodIn wsX5_digest wsX5_halfTold := goodIn_r _ [36, 16, 17, 18, 9, 19, 20, 37, 38, 39, 40, 41, 42] (by decide +kernel) (by decide +kernel)
set_option maxRecDepth 20000 in
theorem gX5_digest_X5_halfTold : GoodIn wsX5_digest (wsV RX5 73 RX5 yX5_halfTold wsX5_halfTold) := goodIn_app (goodIn_of _ (by decide +kernel)) ggX5_digest_X5_halfTold
set_option maxRecDepth 20000 in
theorem ggX5_digest_X5_ju : GoodIn wsX5_digest wsX5_ju := goodIn_r _ [19, 20, 37, 38, 39, 40, 41, 42] (by decide +kernel) (by decide +kernel)
set_option maxRecDepth 20000 in
theorem gX5_digest_X5_ju : GoodIn wsX5_digest (wsV RX5 33 RX5 yX5_ju wsX5_ju) := goodIn_app (goodIn_of _ (by decide +kernel)) ggX5_digest_X5_ju
theorem dX5_digest_0 : decode cX5_digest 0 = .ok (.aload_n 0, 1) := by decide +kernel
theorem dX5_digest_1 : decode cX5_digest 1 = .ok (.iconst 0, 1) := by decide +kernel
theorem dX5_digest_2 : decode cX5_digest 2 = .ok (.putfield 22, 3) := by decide +kernel
theorem dX5_digest_5 : decode cX5_digest 5 = .ok (.ldc2_w 117, 3) := by decide +kernel
theorem dX5_digest_8 : decode cX5_digest 8 = .ok (.lstore_n 1, 1) := by decide +kernel
theorem dX5_digest_9 : decode cX5_digest 9 = .ok (.iconst 0, 1) := by decide +kernel
theorem dX5_digest_10 : decode cX5_digest 10 = .ok (.istore_n 3, 1) := by decide +kernel
theorem dX5_digest_11 : decode cX5_digest 11 = .ok (.iload_n 3, 1) := by decide +kernel
theorem dX5_digest_12 : decode cX5_digest 12 = .ok (.bipush 6, 2) := by decide +kernel
theorem dX5_digest_14 : decode cX5_digest 14 = .ok (.if_icmp .ge 22, 3) := by decide +kernel
theorem dX5_digest_17 : decode cX5_digest 17 = .ok (.lload_n 1, 1) := by decide +kernel
theorem dX5_digest_18 : decode cX5_digest 18 = .ok (.ldc2_w 119, 3) := by decide +kernel
theorem dX5_digest_21 : decode cX5_digest 21 = .ok (.lmul, 1) := by decide +kernel
theorem dX5_digest_22 : decode cX5_digest 22 = .ok (.aload_n 0, 1) := by decide +kernel
theorem dX5_digest_23 : decode cX5_digest 23 = .ok (.iload_n 3, 1) := by decide +kernel
theorem dX5_digest_24 : decode cX5_digest 24 = .ok (.invokevirtual 80, 3) := by decide +kernel
theorem dX5_digest_27 : decode cX5_digest 27 = .ok (.i2l, 1) := by decide +kernel
theorem dX5_digest_28 : decode cX5_digest 28 = .ok (.ladd, 1) := by decide +kernel
theorem dX5_digest_29 : decode cX5_digest 29 = .ok (.lstore_n 1, 1) := by decide +kernel
theorem dX5_digest_30 : decode cX5_digest 30 = .ok (.iinc 3 1, 3) := by decide +kernel
theorem dX5_digest_33 : decode cX5_digest 33 = .ok (.goto (-22), 3) := by decide +kernel
theorem dX5_digest_36 : decode cX5_digest 36 = .ok (.iconst 0, 1) := by decide +kernel
theorem dX5_digest_37 : decode cX5_digest 37 = .ok (.istore_n 3, 1) := by decide +kernel
theorem dX5_digest_38 : decode cX5_digest 38 = .ok (.iload_n 3, 1) := by decide +kernel
theorem dX5_digest_39 : decode cX5_digest 39 = .ok (.aload_n 0, 1) := by decide +kernel
theorem dX5_digest_40 : decode cX5_digest 40 = .ok (.getfield 26, 3) := by decide +kernel
theorem dX5_digest_43 : decode cX5_digest 43 = .ok (.if_icmp .ge 127, 3) := by decide +kernel
theorem dX5_digest_46 : decode cX5_digest 46 = .ok (.iconst 0, 1) := by decide +kernel
theorem dX5_digest_47 : decode cX5_digest 47 = .ok (.istore 4, 2) := by decide +kernel
theorem dX5_digest_49 : decode cX5_digest 49 = .ok (.iload 4, 2) := by decide +kernel
theorem dX5_digest_51 : decode cX5_digest 51 = .ok (.bipush 7, 2) := by decide +kernel
theorem dX5_digest_53 : decode cX5_digest 53 = .ok (.if_icmp .ge 24, 3) := by decide +kernel
theorem dX5_digest_56 : decode cX5_digest 56 = .ok (.lload_n 1, 1) := by decide +kernel
theorem dX5_digest_57 : decode cX5_digest 57 = .ok (.ldc2_w 119, 3) := by decide +kernel
theorem dX5_digest_60 : decode cX5_digest 60 = .ok (.lmul, 1) := by decide +kernel
theorem dX5_digest_61 : decode cX5_digest 61 = .ok (.aload_n 0, 1) := by decide +kernel
theorem dX5_digest_62 : decode cX5_digest 62 = .ok (.iload_n 3, 1) := by decide +kernel
theorem dX5_digest_63 : decode cX5_digest 63 = .ok (.iload 4, 2) := by decide +kernel
theorem dX5_digest_65 : decode cX5_digest 65 = .ok (.invokevirtual 70, 3) := by decide +kernel
theorem dX5_digest_68 : decode cX5_digest 68 = .ok (.i2l, 1) := by decide +kernel
theorem dX5_digest_69 : decode cX5_digest 69 = .ok (.ladd, 1) := by decide +kernel
theorem dX5_digest_70 : decode cX5_digest 70 = .ok (.lstore_n 1, 1) := by decide +kernel
theorem dX5_digest_71 : decode cX5_digest 71 = .ok (.iinc 4 1, 3) := by decide +kernel
theorem dX5_digest_74 : decode cX5_digest 74 = .ok (.goto (-25), 3) := by decide +kernel
theorem dX5_digest_77 : decode cX5_digest 77 = .ok (.iconst 0, 1) := by decide +kernel
theorem dX5_digest_78 : decode cX5_digest 78 = .ok (.istore 4, 2) := by decide +kernel
theorem dX5_digest_80 : decode cX5_digest 80 = .ok (.iload 4, 2) := by decide +kernel
theorem dX5_digest_82 : decode cX5_digest 82 = .ok (.iconst 1, 1) := by decide +kernel
theorem dX5_digest_83 : decode cX5_digest 83 = .ok (.if_icmp .gt 41, 3) := by decide +kernel
theorem dX5_digest_86 : decode cX5_digest 86 = .ok (.iconst 0, 1) := by decide +kernel
theorem dX5_digest_87 : decode cX5_digest 87 = .ok (.istore 5, 2) := by decide +kernel
theorem dX5_digest_89 : decode cX5_digest 89 = .ok (.iload 5, 2) := by decide +kernel
theorem dX5_digest_91 : decode cX5_digest 91 = .ok (.iconst 3, 1) := by decide +kernel
theorem dX5_digest_92 : decode cX5_digest 92 = .ok (.if_icmp .ge 26, 3) := by decide +kernel
theorem dX5_digest_95 : decode cX5_digest 95 = .ok (.lload_n 1, 1) := by decide +kernel
theorem dX5_digest_96 : decode cX5_digest 96 = .ok (.ldc2_w 119, 3) := by decide +kernel
theorem dX5_digest_99 : decode cX5_digest 99 = .ok (.lmul, 1) := by decide +kernel
theorem dX5_digest_100 : decode cX5_digest 100 = .ok (.aload_n 0, 1) := by decide +kernel
theorem dX5_digest_101 : decode cX5_digest 101 = .ok (.iload_n 3, 1) := by decide +kernel
theorem dX5_digest_102 : decode cX5_digest 102 = .ok (.iload 4, 2) := by decide +kernel
theorem dX5_digest_104 : decode cX5_digest 104 = .ok (.iload 5, 2) := by decide +kernel
theorem dX5_digest_106 : decode cX5_digest 106 = .ok (.invokevirtual 73, 3) := by decide +kernel
theorem dX5_digest_109 : decode cX5_digest 109 = .ok (.i2l, 1) := by decide +kernel
theorem dX5_digest_110 : decode cX5_digest 110 = .ok (.ladd, 1) := by decide +kernel
theorem dX5_digest_111 : decode cX5_digest 111 = .ok (.lstore_n 1, 1) := by decide +kernel
theorem dX5_digest_112 : decode cX5_digest 112 = .ok (.iinc 5 1, 3) := by decide +kernel
theorem dX5_digest_115 : decode cX5_digest 115 = .ok (.goto (-26), 3) := by decide +kernel
theorem dX5_digest_118 : decode cX5_digest 118 = .ok (.iinc 4 1, 3) := by decide +kernel
theorem dX5_digest_121 : decode cX5_digest 121 = .ok (.goto (-41), 3) := by decide +kernel
theorem dX5_digest_124 : decode cX5_digest 124 = .ok (.iconst 0, 1) := by decide +kernel
theorem dX5_digest_125 : decode cX5_digest 125 = .ok (.istore 4, 2) := by decide +kernel
theorem dX5_digest_127 : decode cX5_digest 127 = .ok (.iload 4, 2) := by decide +kernel
theorem dX5_digest_129 : decode cX5_digest 129 = .ok (.aload_n 0, 1) := by decide +kernel
theorem dX5_digest_130 : decode cX5_digest 130 = .ok (.iload_n 3, 1) := by decide +kernel
theorem dX5_digest_131 : decode cX5_digest 131 = .ok (.bipush 9, 2) := by decide +kernel
theorem dX5_digest_133 : decode cX5_digest 133 = .ok (.invokevirtual 33, 3) := by decide +kernel
theorem dX5_digest_136 : decode cX5_digest 136 = .ok (.if_icmp .ge 28, 3) := by decide +kernel
theorem dX5_digest_139 : decode cX5_digest 139 = .ok (.lload_n 1, 1) := by decide +kernel
theorem dX5_digest_140 : decode cX5_digest 140 = .ok (.ldc2_w 119, 3) := by decide +kernel
theorem dX5_digest_143 : decode cX5_digest 143 = .ok (.lmul, 1) := by decide +kernel
theorem dX5_digest_144 : decode cX5_digest 144 = .ok (.aload_n 0, 1) := by decide +kernel
theorem dX5_digest_145 : decode cX5_digest 145 = .ok (.getfield 16, 3) := by decide +kernel
theorem dX5_digest_148 : decode cX5_digest 148 = .ok (.iconst 4, 1) := by decide +kernel
theorem dX5_digest_149 : decode cX5_digest 149 = .ok (.iload_n 3, 1) := by decide +kernel
theorem dX5_digest_150 : decode cX5_digest 150 = .ok (.imul, 1) := by decide +kernel
theorem dX5_digest_151 : decode cX5_digest 151 = .ok (.iload 4, 2) := by decide +kernel
theorem dX5_digest_153 : decode cX5_digest 153 = .ok (.iadd, 1) := by decide +kernel
theorem dX5_digest_154 : decode cX5_digest 154 = .ok (.iaload, 1) := by decide +kernel
theorem dX5_digest_155 : decode cX5_digest 155 = .ok (.i2l, 1) := by decide +kernel
theorem dX5_digest_156 : decode cX5_digest 156 = .ok (.ladd, 1) := by decide +kernel
theorem dX5_digest_157 : decode cX5_digest 157 = .ok (.lstore_n 1, 1) := by decide +kernel
theorem dX5_digest_158 : decode cX5_digest 158 = .ok (.iinc 4 1, 3) := by decide +kernel
theorem dX5_digest_161 : decode cX5_digest 161 = .ok (.goto (-34), 3) := by decide +kernel
theorem dX5_digest_164 : decode cX5_digest 164 = .ok (.iinc 3 1, 3) := by decide +kernel
theorem dX5_digest_167 : decode cX5_digest 167 = .ok (.goto (-129), 3) := by decide +kernel
theorem dX5_digest_170 : decode cX5_digest 170 = .ok (.lload_n 1, 1) := by decide +kernel
theorem dX5_digest_171 : decode cX5_digest 171 = .ok (.lreturn, 1) := by decide +kernel
theorem dJ9_max_7cf53_0 : decode cJ9_max_7cf53 0 = .ok (.iload_n 0, 1) := by decide +kernel
theorem dJ9_max_7cf53_1 : decode cJ9_max_7cf53 1 = .ok (.iload_n 1, 1) := by decide +kernel
theorem dJ9_max_7cf53_2 : decode cJ9_max_7cf53 2 = .ok (.if_icmp .lt 7, 3) := by decide +kernel
theorem dJ9_max_7cf53_5 : decode cJ9_max_7cf53 5 = .ok (.iload_n 0, 1) := by decide +kernel
theorem dJ9_max_7cf53_6 : decode cJ9_max_7cf53 6 = .ok (.goto 4, 3) := by decide +kernel
theorem dJ9_max_7cf53_9 : decode cJ9_max_7cf53 9 = .ok (.iload_n 1, 1) := by decide +kernel
theorem dJ9_max_7cf53_10 : decode cJ9_max_7cf53 10 = .ok (.ireturn, 1) := by decide +kernel
theorem dJ9_min_7cf53_0 : decode cJ9_min_7cf53 0 = .ok (.iload_n 0, 1) := by decide +kernel
theorem dJ9_min_7cf53_1 : decode cJ9_min_7cf53 1 = .ok (.iload_n 1, 1) := by decide +kernel
theorem dJ9_min_7cf53_2 : decode cJ9_min_7cf53 2 = .ok (.if_icmp .gt 7, 3) := by decide +kernel
theorem dJ9_min_7cf53_5 : decode cJ9_min_7cf53 5 = .ok (.iload_n 0, 1) := by decide +kernel
theorem dJ9_min_7cf53_6 : decode cJ9_min_7cf53 6 = .ok (.goto 4, 3) := by decide +kernel
theorem dJ9_min_7cf53_9 : decode cJ9_min_7cf53 9 = .ok (.iload_n 1, 1) := by decide +kernel
theorem dJ9_min_7cf53_10 : decode cJ9_min_7cf53 10 = .ok (.ireturn, 1) := by decide +kernel
set_option maxRecDepth 20000 in
theorem ggL_come_X4_come : GoodIn wsL_come wsX4_come := goodIn_ca (goodIn_ca (goodIn_r _ [7, 8, 9, 10, 11, 12, 13, 14, 15, 6, 16, 17, 18, 19, 20, 21, 22, 23, 24, 25, 26, 27, 28, 29, 30, 31, 32, 33, 34, 35, 36, 37, 38, 39, 40, 41, 42, 43, 44, 45, 46, 47, 48, 49, 50, 51, 52, 53, 54, 55, 56, 57, 58, 59, 60, 61, 62, 63, 64, 65, 66, 67, 68, 69, 70, 71, 72, 73] (by decide +kernel) (by decide +kernel)) (goodIn_sub (fun _ h => List.mem_cons_of_mem _ (List.mem_append_left _ (List.mem_append_right _ h))) (by decide +kernel))) (goodIn_sub (fun _ h => List.mem_cons_of_mem _ (List.mem_append_right _ h)) (by decide +kernel))
set_option maxRecDepth 20000 in
theorem gL_come_X4_come : GoodIn wsL_come (wsV RL 7 RX4 yX4_come wsX4_come) := goodIn_app (goodIn_of _ (by decide +kernel)) ggL_come_X4_come
theorem dL_come_0 : decode cL_come 0 = .ok (.aload_n 3, 1) := by decide +kernel
theorem dL_come_1 : decode cL_come 1 = .ok (.iconst 0, 1) := by decide +kernel
theorem dL_come_2 : decode cL_come 2 = .ok (.aload_n 0, 1) := by decide +kernel
theorem dL_come_3 : decode cL_come 3 = .ok (.iload_n 1, 1) := by decide +kernel
theorem dL_come_4 : decode cL_come 4 = .ok (.iload_n 2, 1) := by decide +kernel
theorem dL_come_5 : decode cL_come 5 = .ok (.invokevirtual 7, 3) := by decide +kernel
theorem dL_come_8 : decode cL_come 8 = .ok (.i2l, 1) := by decide +kernel
theorem dL_come_9 : decode cL_come 9 = .ok (.lastore, 1) := by decide +kernel
theorem dL_come_10 : decode cL_come 10 = .ok (.goto 11, 3) := by decide +kernel
theorem dL_come_13 : decode cL_come 13 = .ok (.astore 4, 2) := by decide +kernel
theorem dL_come_15 : decode cL_come 15 = .ok (.iconst 1, 1) := by decide +kernel
theorem dL_come_16 : decode cL_come 16 = .ok (.ireturn, 1) := by decide +kernel
theorem dL_come_17 : decode cL_come 17 = .ok (.astore 4, 2) := by decide +kernel
theorem dL_come_19 : decode cL_come 19 = .ok (.iconst 2, 1) := by decide +kernel
theorem dL_come_20 : decode cL_come 20 = .ok (.ireturn, 1) := by decide +kernel
theorem dL_come_21 : decode cL_come 21 = .ok (.iconst 0, 1) := by decide +kernel
theorem dL_come_22 : decode cL_come 22 = .ok (.ireturn, 1) := by decide +kernel
set_option maxRecDepth 20000 in
theorem ggL_listen_X4_listen : GoodIn wsL_listen wsX4_listen := goodIn_ca (goodIn_ca (goodIn_ca (goodIn_r _ [8, 9, 10, 11, 12, 13, 14, 15, 16, 7, 17, 18, 19, 20, 21, 22, 23, 24, 25, 26, 27, 28, 29, 30, 31, 32, 33, 34, 35, 36, 37, 38, 39, 40, 41, 42, 43, 44, 45, 46, 47, 48, 49, 50, 51, 52, 53, 54, 55, 56, 57, 58, 59, 60, 61, 62, 63, 64, 65, 66, 67] (by decide +kernel) (by decide +kernel)) (goodIn_sub (fun _ h => List.mem_cons_of_mem _ (List.mem_append_left _ (List.mem_append_left _ (List.mem_append_right _ h)))) (by decide +kernel))) (goodIn_sub (fun _ h => List.mem_cons_of_mem _ (List.mem_append_left _ (List.mem_append_right _ h))) (by decide +kernel))) (goodIn_sub (fun _ h => List.mem_cons_of_mem _ (List.mem_append_right _ h)) (by decide +kernel))
set_option maxRecDepth 20000 in
theorem gL_listen_X4_listen : GoodIn wsL_listen (wsV RL 17 RX4 yX4_listen wsX4_listen) := goodIn_app (goodIn_of _ (by decide +kernel)) ggL_listen_X4_listen
theorem dL_listen_0 : decode cL_listen 0 = .ok (.aload_n 3, 1) := by decide +kernel
theorem dL_listen_1 : decode cL_listen 1 = .ok (.iconst 0, 1) := by decide +kernel
theorem dL_listen_2 : decode cL_listen 2 = .ok (.aload_n 0, 1) := by decide +kernel
theorem dL_listen_3 : decode cL_listen 3 = .ok (.iload_n 1, 1) := by decide +kernel
theorem dL_listen_4 : decode cL_listen 4 = .ok (.iload_n 2, 1) := by decide +kernel
theorem dL_listen_5 : decode cL_listen 5 = .ok (.invokevirtual 17, 3) := by decide +kernel
theorem dL_listen_8 : decode cL_listen 8 = .ok (.i2l, 1) := by decide +kernel
theorem dL_listen_9 : decode cL_listen 9 = .ok (.lastore, 1) := by decide +kernel
theorem dL_listen_10 : decode cL_listen 10 = .ok (.goto 15, 3) := by decide +kernel
theorem dL_listen_13 : decode cL_listen 13 = .ok (.astore 4, 2) := by decide +kernel
theorem dL_listen_15 : decode cL_listen 15 = .ok (.iconst 1, 1) := by decide +kernel
theorem dL_listen_16 : decode cL_listen 16 = .ok (.ireturn, 1) := by decide +kernel
theorem dL_listen_17 : decode cL_listen 17 = .ok (.astore 4, 2) := by decide +kernel
theorem dL_listen_19 : decode cL_listen 19 = .ok (.iconst 2, 1) := by decide +kernel
theorem dL_listen_20 : decode cL_listen 20 = .ok (.ireturn, 1) := by decide +kernel
theorem dL_listen_21 : decode cL_listen 21 = .ok (.astore 4, 2) := by decide +kernel
theorem dL_listen_23 : decode cL_listen 23 = .ok (.iconst 3, 1) := by decide +kernel
theorem dL_listen_24 : decode cL_listen 24 = .ok (.ireturn, 1) := by decide +kernel
theorem dL_listen_25 : decode cL_listen 25 = .ok (.iconst 0, 1) := by decide +kernel
theorem dL_listen_26 : decode cL_listen 26 = .ok (.ireturn, 1) := by decide +kernel
set_option maxRecDepth 20000 in
theorem ggL_raise_X4_raise : GoodIn wsL_raise wsX4_raise := goodIn_ca (goodIn_ca (goodIn_r _ [7, 8, 9, 10, 11, 6, 12, 13, 14, 15, 16, 17, 18, 19, 20, 21, 22, 23, 24, 25, 26, 27, 28, 29, 30, 31, 32, 33, 34, 35, 36, 37, 38, 39, 40, 41, 42, 43, 44, 45, 46, 47, 48, 49, 50, 51, 52, 53, 54, 55, 56, 57] (by decide +kernel) (by decide +kernel)) (goodIn_sub (fun _ h => List.mem_cons_of_mem _ (List.mem_append_left _ (List.mem_append_right _ h))) (by decide +kernel))) (goodIn_sub (fun _ h => List.mem_cons_of_mem _ (List.mem_append_right _ h)) (by decide +kernel))
set_option maxRecDepth 20000 in
theorem gL_raise_X4_raise : GoodIn wsL_raise (wsV RL 22 RX4 yX4_raise wsX4_raise) := goodIn_app (goodIn_of _ (by decide +kernel)) ggL_raise_X4_raise
theorem dL_raise_0 : decode cL_raise 0 = .ok (.aload_n 3, 1) := by decide +kernel
theorem dL_raise_1 : decode cL_raise 1 = .ok (.iconst 0, 1) := by decide +kernel
theorem dL_raise_2 : decode cL_raise 2 = .ok (.aload_n 0, 1) := by decide +kernel
theorem dL_raise_3 : decode cL_raise 3 = .ok (.iload_n 1, 1) := by decide +kernel
theorem dL_raise_4 : decode cL_raise 4 = .ok (.iload_n 2, 1) := by decide +kernel
theorem dL_raise_5 : decode cL_raise 5 = .ok (.invokevirtual 22, 3) := by decide +kernel
theorem dL_raise_8 : decode cL_raise 8 = .ok (.i2l, 1) := by decide +kernel
theorem dL_raise_9 : decode cL_raise 9 = .ok (.lastore, 1) := by decide +kernel
theorem dL_raise_10 : decode cL_raise 10 = .ok (.goto 11, 3) := by decide +kernel
theorem dL_raise_13 : decode cL_raise 13 = .ok (.astore 4, 2) := by decide +kernel
theorem dL_raise_15 : decode cL_raise 15 = .ok (.iconst 1, 1) := by decide +kernel
theorem dL_raise_16 : decode cL_raise 16 = .ok (.ireturn, 1) := by decide +kernel
theorem dL_raise_17 : decode cL_raise 17 = .ok (.astore 4, 2) := by decide +kernel
theorem dL_raise_19 : decode cL_raise 19 = .ok (.iconst 2, 1) := by decide +kernel
theorem dL_raise_20 : decode cL_raise 20 = .ok (.ireturn, 1) := by decide +kernel
theorem dL_raise_21 : decode cL_raise 21 = .ok (.iconst 0, 1) := by decide +kernel
theorem dL_raise_22 : decode cL_raise 22 = .ok (.ireturn, 1) := by decide +kernel
set_option maxRecDepth 20000 in
theorem ggL_whisper_X4_whisper : GoodIn wsL_whisper wsX4_whisper := goodIn_ca (goodIn_ca (goodIn_r _ [7, 8, 9, 10, 11, 12, 13, 6, 14, 15, 16, 17, 18, 19, 20, 21, 22, 23, 24, 25, 26, 27, 28, 29, 30, 31, 32, 33, 34, 35, 36, 37, 38, 39, 40, 41, 42, 43, 44, 45, 46, 47, 48, 49, 50, 51, 52, 53, 54, 55, 56, 57, 58, 59, 60, 61, 62, 63, 64, 65, 66, 67, 68, 69, 70, 71, 72, 73, 74, 75, 76, 77, 78, 79, 80, 81, 82] (by decide +kernel) (by decide +kernel)) (goodIn_sub (fun _ h => List.mem_cons_of_mem _ (List.mem_append_left _ (List.mem_append_right _ h))) (by decide +kernel))) (goodIn_sub (fun _ h => List.mem_cons_of_mem _ (List.mem_append_right _ h)) (by decide +kernel))
set_option maxRecDepth 20000 in
theorem gL_whisper_X4_whisper : GoodIn wsL_whisper (wsV RL 25 RX4 yX4_whisper wsX4_whisper) := goodIn_app (goodIn_of _ (by decide +kernel)) ggL_whisper_X4_whisper
theorem dL_whisper_0 : decode cL_whisper 0 = .ok (.aload 4, 2) := by decide +kernel
theorem dL_whisper_2 : decode cL_whisper 2 = .ok (.iconst 0, 1) := by decide +kernel
theorem dL_whisper_3 : decode cL_whisper 3 = .ok (.aload_n 0, 1) := by decide +kernel
theorem dL_whisper_4 : decode cL_whisper 4 = .ok (.iload_n 1, 1) := by decide +kernel
theorem dL_whisper_5 : decode cL_whisper 5 = .ok (.iload_n 2, 1) := by decide +kernel
theorem dL_whisper_6 : decode cL_whisper 6 = .ok (.iload_n 3, 1) := by decide +kernel
theorem dL_whisper_7 : decode cL_whisper 7 = .ok (.invokevirtual 25, 3) := by decide +kernel
theorem dL_whisper_10 : decode cL_whisper 10 = .ok (.i2l, 1) := by decide +kernel
theorem dL_whisper_11 : decode cL_whisper 11 = .ok (.lastore, 1) := by decide +kernel
theorem dL_whisper_12 : decode cL_whisper 12 = .ok (.goto 11, 3) := by decide +kernel
theorem dL_whisper_15 : decode cL_whisper 15 = .ok (.astore 5, 2) := by decide +kernel
theorem dL_whisper_17 : decode cL_whisper 17 = .ok (.iconst 1, 1) := by decide +kernel
theorem dL_whisper_18 : decode cL_whisper 18 = .ok (.ireturn, 1) := by decide +kernel
theorem dL_whisper_19 : decode cL_whisper 19 = .ok (.astore 5, 2) := by decide +kernel
theorem dL_whisper_21 : decode cL_whisper 21 = .ok (.iconst 2, 1) := by decide +kernel
theorem dL_whisper_22 : decode cL_whisper 22 = .ok (.ireturn, 1) := by decide +kernel
theorem dL_whisper_23 : decode cL_whisper 23 = .ok (.iconst 0, 1) := by decide +kernel
theorem dL_whisper_24 : decode cL_whisper 24 = .ok (.ireturn, 1) := by decide +kernel
set_option maxRecDepth 20000 in
theorem ggL_parrot_X4_parrot : GoodIn wsL_parrot wsX4_parrot := goodIn_ca (goodIn_r _ [6, 7, 8, 9, 5, 10, 11, 12, 13, 14, 15, 16, 17, 18, 19, 20, 21, 22, 23, 24, 25, 26, 27, 28, 29, 30, 31, 32, 33, 34, 35, 36, 37, 38, 39, 40, 41, 42, 43, 44, 45, 46, 47, 48, 49, 50, 51, 52, 53, 54, 55, 56, 57, 58, 59, 60, 61, 62, 63, 64, 65, 66, 67, 68, 69, 70, 71, 72, 73, 74, 75, 76, 77, 78, 79, 80, 81, 82, 83, 84, 85, 86, 87, 88, 89, 90, 91, 92, 93, 94, 95, 96, 97, 98, 99, 100, 101, 102, 103, 104, 105, 106] (by decide +kernel) (by decide +kernel)) (goodIn_sub (fun _ h => List.mem_cons_of_mem _ (List.mem_append_right _ h)) (by decide +kernel))
set_option maxRecDepth 20000 in
theorem gL_parrot_X4_parrot : GoodIn wsL_parrot (wsV RL 29 RX4 yX4_parrot wsX4_parrot) := goodIn_app (goodIn_of _ (by decide +kernel)) ggL_parrot_X4_parrot
theorem dL_parrot_0 : decode cL_parrot 0 = .ok (.aload_n 3, 1) := by decide +kernel
theorem dL_parrot_1 : decode cL_parrot 1 = .ok (.iconst 0, 1) := by decide +kernel
theorem dL_parrot_2 : decode cL_parrot 2 = .ok (.aload_n 0, 1) := by decide +kernel
theorem dL_parrot_3 : decode cL_parrot 3 = .ok (.iload_n 1, 1) := by decide +kernel
theorem dL_parrot_4 : decode cL_parrot 4 = .ok (.iload_n 2, 1) := by decide +kernel
theorem dL_parrot_5 : decode cL_parrot 5 = .ok (.invokevirtual 29, 3) := by decide +kernel
theorem dL_parrot_8 : decode cL_parrot 8 = .ok (.i2l, 1) := by decide +kernel
theorem dL_parrot_9 : decode cL_parrot 9 = .ok (.lastore, 1) := by decide +kernel
theorem dL_parrot_10 : decode cL_parrot 10 = .ok (.goto 7, 3) := by decide +kernel
theorem dL_parrot_13 : decode cL_parrot 13 = .ok (.astore 4, 2) := by decide +kernel
theorem dL_parrot_15 : decode cL_parrot 15 = .ok (.iconst 1, 1) := by decide +kernel
theorem dL_parrot_16 : decode cL_parrot 16 = .ok (.ireturn, 1) := by decide +kernel
theorem dL_parrot_17 : decode cL_parrot 17 = .ok (.iconst 0, 1) := by decide +kernel
theorem dL_parrot_18 : decode cL_parrot 18 = .ok (.ireturn, 1) := by decide +kernel
set_option maxRecDepth 20000 in
theorem ggL_half_X4_half : GoodIn wsL_half wsX4_half := goodIn_ca (goodIn_r _ [6, 7, 8, 9, 5, 10, 11, 12, 13, 14, 15, 16, 17, 18, 19, 20, 21, 22, 23, 24, 25, 26, 27, 28, 29, 30, 31, 32, 33, 34, 35, 36, 37, 38, 39, 40, 41, 42, 43, 44, 45, 46, 47, 48, 49, 50, 51, 52, 53, 54, 55, 56, 57, 58, 59, 60, 61, 62, 63, 64, 65, 66, 67, 68, 69, 70, 71, 72, 73, 74, 75, 76, 77] (by decide +kernel) (by decide +kernel)) (goodIn_sub (fun _ h => List.mem_cons_of_mem _ (List.mem_append_right _ h)) (by decide +kernel))
set_option maxRecDepth 20000 in
theorem gL_half_X4_half : GoodIn wsL_half (wsV RL 32 RX4 yX4_half wsX4_half) := goodIn_app (goodIn_of _ (by decide +kernel)) ggL_half_X4_half
theorem dL_half_0 : decode cL_half 0 = .ok (.aload 4, 2) := by decide +kernel
theorem dL_half_2 : decode cL_half 2 = .ok (.iconst 0, 1) := by decide +kernel
theorem dL_half_3 : decode cL_half 3 = .ok (.aload_n 0, 1) := by decide +kernel
theorem dL_half_4 : decode cL_half 4 = .ok (.iload_n 1, 1) := by decide +kernel
theorem dL_half_5 : decode cL_half 5 = .ok (.iload_n 2, 1) := by decide +kernel
theorem dL_half_6 : decode cL_half 6 = .ok (.iload_n 3, 1) := by decide +kernel
theorem dL_half_7 : decode cL_half 7 = .ok (.invokevirtual 32, 3) := by decide +kernel
theorem dL_half_10 : decode cL_half 10 = .ok (.i2l, 1) := by decide +kernel
theorem dL_half_11 : decode cL_half 11 = .ok (.lastore, 1) := by decide +kernel
theorem dL_half_12 : decode cL_half 12 = .ok (.goto 7, 3) := by decide +kernel
theorem dL_half_15 : decode cL_half 15 = .ok (.astore 5, 2) := by decide +kernel
theorem dL_half_17 : decode cL_half 17 = .ok (.iconst 1, 1) := by decide +kernel
theorem dL_half_18 : decode cL_half 18 = .ok (.ireturn, 1) := by decide +kernel
theorem dL_half_19 : decode cL_half 19 = .ok (.iconst 0, 1) := by decide +kernel
theorem dL_half_20 : decode cL_half 20 = .ok (.ireturn, 1) := by decide +kernel
set_option maxRecDepth 20000 in
theorem ggL_hears_X4_hears : GoodIn wsL_hears wsX4_hears := goodIn_ca (goodIn_r _ [6, 7, 8, 9, 10, 11, 12, 5, 13, 14, 15, 16, 17, 18, 19, 20, 21, 22, 23, 24, 25, 26, 27, 28, 29, 30, 31, 32, 33, 34, 35, 36, 37, 38, 39, 40, 41, 42, 43, 44, 45] (by decide +kernel) (by decide +kernel)) (goodIn_sub (fun _ h => List.mem_cons_of_mem _ (List.mem_append_right _ h)) (by decide +kernel))
set_option maxRecDepth 20000 in
theorem gL_hears_X4_hears : GoodIn wsL_hears (wsV RL 36 RX4 yX4_hears wsX4_hears) := goodIn_app (goodIn_of _ (by decide +kernel)) ggL_hears_X4_hears
theorem dL_hears_0 : decode cL_hears 0 = .ok (.aload_n 3, 1) := by decide +kernel
theorem dL_hears_1 : decode cL_hears 1 = .ok (.iconst 0, 1) := by decide +kernel
theorem dL_hears_2 : decode cL_hears 2 = .ok (.aload_n 0, 1) := by decide +kernel
theorem dL_hears_3 : decode cL_hears 3 = .ok (.iload_n 1, 1) := by decide +kernel
theorem dL_hears_4 : decode cL_hears 4 = .ok (.iload_n 2, 1) := by decide +kernel
theorem dL_hears_5 : decode cL_hears 5 = .ok (.invokevirtual 36, 3) := by decide +kernel
theorem dL_hears_8 : decode cL_hears 8 = .ok (.i2l, 1) := by decide +kernel
theorem dL_hears_9 : decode cL_hears 9 = .ok (.lastore, 1) := by decide +kernel
theorem dL_hears_10 : decode cL_hears 10 = .ok (.goto 7, 3) := by decide +kernel
theorem dL_hears_13 : decode cL_hears 13 = .ok (.astore 4, 2) := by decide +kernel
theorem dL_hears_15 : decode cL_hears 15 = .ok (.iconst 1, 1) := by decide +kernel
theorem dL_hears_16 : decode cL_hears 16 = .ok (.ireturn, 1) := by decide +kernel
theorem dL_hears_17 : decode cL_hears 17 = .ok (.iconst 0, 1) := by decide +kernel
theorem dL_hears_18 : decode cL_hears 18 = .ok (.ireturn, 1) := by decide +kernel
set_option maxRecDepth 20000 in
theorem ggL_votes_X4_votes : GoodIn wsL_votes wsX4_votes := goodIn_ca (goodIn_r _ [6, 7, 8, 9, 5, 10, 11, 12, 13, 14, 15, 16, 17, 18, 19, 20, 21, 22, 23, 24, 25, 26, 27, 28, 29, 30, 31, 32, 33, 34, 35, 36, 37, 38, 39, 40, 41, 42, 43, 44, 45, 46, 47, 48, 49, 50, 51, 52, 53, 54, 55, 56, 57, 58, 59, 60, 61, 62, 63] (by decide +kernel) (by decide +kernel)) (goodIn_sub (fun _ h => List.mem_cons_of_mem _ (List.mem_append_right _ h)) (by decide +kernel))
set_option maxRecDepth 20000 in
theorem gL_votes_X4_votes : GoodIn wsL_votes (wsV RL 39 RX4 yX4_votes wsX4_votes) := goodIn_app (goodIn_of _ (by decide +kernel)) ggL_votes_X4_votes
theorem dL_votes_0 : decode cL_votes 0 = .ok (.aload_n 2, 1) := by decide +kernel
theorem dL_votes_1 : decode cL_votes 1 = .ok (.iconst 0, 1) := by decide +kernel
theorem dL_votes_2 : decode cL_votes 2 = .ok (.aload_n 0, 1) := by decide +kernel
theorem dL_votes_3 : decode cL_votes 3 = .ok (.iload_n 1, 1) := by decide +kernel
theorem dL_votes_4 : decode cL_votes 4 = .ok (.invokevirtual 39, 3) := by decide +kernel
theorem dL_votes_7 : decode cL_votes 7 = .ok (.i2l, 1) := by decide +kernel
theorem dL_votes_8 : decode cL_votes 8 = .ok (.lastore, 1) := by decide +kernel
theorem dL_votes_9 : decode cL_votes 9 = .ok (.goto 6, 3) := by decide +kernel
theorem dL_votes_12 : decode cL_votes 12 = .ok (.astore_n 3, 1) := by decide +kernel
theorem dL_votes_13 : decode cL_votes 13 = .ok (.iconst 1, 1) := by decide +kernel
theorem dL_votes_14 : decode cL_votes 14 = .ok (.ireturn, 1) := by decide +kernel
theorem dL_votes_15 : decode cL_votes 15 = .ok (.iconst 0, 1) := by decide +kernel
theorem dL_votes_16 : decode cL_votes 16 = .ok (.ireturn, 1) := by decide +kernel
set_option maxRecDepth 20000 in
theorem ggL_left_X4_left : GoodIn wsL_left wsX4_left := goodIn_ca (goodIn_r _ [6, 7, 8, 9, 10, 5, 11, 12, 13, 14, 15, 16, 17, 18, 19, 20, 21, 22, 23, 24, 25, 26, 27, 28, 29, 30, 31, 32, 33, 34, 35, 36, 37, 38, 39, 40, 41, 42, 43, 44, 45, 46, 47, 48, 49, 50, 51, 52, 53, 54, 55, 56, 57, 58, 59] (by decide +kernel) (by decide +kernel)) (goodIn_sub (fun _ h => List.mem_cons_of_mem _ (List.mem_append_right _ h)) (by decide +kernel))
set_option maxRecDepth 20000 in
theorem gL_left_X4_left : GoodIn wsL_left (wsV RL 43 RX4 yX4_left wsX4_left) := goodIn_app (goodIn_of _ (by decide +kernel)) ggL_left_X4_left
theorem dL_left_0 : decode cL_left 0 = .ok (.aload_n 2, 1) := by decide +kernel
theorem dL_left_1 : decode cL_left 1 = .ok (.iconst 0, 1) := by decide +kernel
theorem dL_left_2 : decode cL_left 2 = .ok (.aload_n 0, 1) := by decide +kernel
theorem dL_left_3 : decode cL_left 3 = .ok (.iload_n 1, 1) := by decide +kernel
theorem dL_left_4 : decode cL_left 4 = .ok (.invokevirtual 43, 3) := by decide +kernel
theorem dL_left_7 : decode cL_left 7 = .ok (.i2l, 1) := by decide +kernel
theorem dL_left_8 : decode cL_left 8 = .ok (.lastore, 1) := by decide +kernel
theorem dL_left_9 : decode cL_left 9 = .ok (.goto 6, 3) := by decide +kernel
theorem dL_left_12 : decode cL_left 12 = .ok (.astore_n 3, 1) := by decide +kernel
theorem dL_left_13 : decode cL_left 13 = .ok (.iconst 1, 1) := by decide +kernel
theorem dL_left_14 : decode cL_left 14 = .ok (.ireturn, 1) := by decide +kernel
theorem dL_left_15 : decode cL_left 15 = .ok (.iconst 0, 1) := by decide +kernel
theorem dL_left_16 : decode cL_left 16 = .ok (.ireturn, 1) := by decide +kernel
set_option maxRecDepth 20000 in
theorem ggL_count_X4_count : GoodIn wsL_count wsX4_count := goodIn_ca (goodIn_r _ [6, 7, 8, 5, 9, 10, 11, 12, 13, 14, 15, 16, 17, 18, 19, 20, 21, 22, 23, 24, 25, 26, 27, 28, 29, 30, 31, 32, 33, 34, 35, 36, 37, 38, 39, 40, 41, 42, 43, 44, 45, 46, 47, 48, 49, 50, 51, 52, 53, 54, 55, 56, 57, 58, 59, 60, 61, 62, 63, 64, 65, 66, 67, 68, 69, 70, 71, 72, 73, 74, 75, 76, 77, 78, 79, 80, 81, 82, 83, 84, 85, 86, 87, 88, 89, 90, 91, 92, 93, 94, 95, 96, 97, 98, 99, 100, 101, 102, 103, 104] (by decide +kernel) (by decide +kernel)) (goodIn_sub (fun _ h => List.mem_cons_of_mem _ (List.mem_append_right _ h)) (by decide +kernel))
set_option maxRecDepth 20000 in
theorem gL_count_X4_count : GoodIn wsL_count (wsV RL 46 RX4 yX4_count wsX4_count) := goodIn_app (goodIn_of _ (by decide +kernel)) ggL_count_X4_count
theorem dL_count_0 : decode cL_count 0 = .ok (.aload_n 2, 1) := by decide +kernel
theorem dL_count_1 : decode cL_count 1 = .ok (.iconst 0, 1) := by decide +kernel
theorem dL_count_2 : decode cL_count 2 = .ok (.aload_n 0, 1) := by decide +kernel
theorem dL_count_3 : decode cL_count 3 = .ok (.iload_n 1, 1) := by decide +kernel
theorem dL_count_4 : decode cL_count 4 = .ok (.invokevirtual 46, 3) := by decide +kernel
theorem dL_count_7 : decode cL_count 7 = .ok (.i2l, 1) := by decide +kernel
theorem dL_count_8 : decode cL_count 8 = .ok (.lastore, 1) := by decide +kernel
theorem dL_count_9 : decode cL_count 9 = .ok (.goto 6, 3) := by decide +kernel
theorem dL_count_12 : decode cL_count 12 = .ok (.astore_n 3, 1) := by decide +kernel
theorem dL_count_13 : decode cL_count 13 = .ok (.iconst 1, 1) := by decide +kernel
theorem dL_count_14 : decode cL_count 14 = .ok (.ireturn, 1) := by decide +kernel
theorem dL_count_15 : decode cL_count 15 = .ok (.iconst 0, 1) := by decide +kernel
theorem dL_count_16 : decode cL_count 16 = .ok (.ireturn, 1) := by decide +kernel
set_option maxRecDepth 20000 in
theorem ggL_pass_X4_pass : GoodIn wsL_pass wsX4_pass := goodIn_ca (goodIn_r _ [6, 7, 8, 9, 10, 11, 5, 12, 13, 14, 15, 16, 17, 18, 19, 20, 21, 22, 23, 24, 25, 26, 27, 28, 29, 30, 31, 32, 33, 34, 35, 36, 37, 38, 39, 40, 41, 42, 43, 44, 45, 46, 47, 48, 49, 50, 51, 52, 53, 54, 55, 56, 57, 58, 59, 60, 61, 62, 63, 64, 65, 66, 67, 68, 69, 70, 71, 72, 73, 74, 75, 76, 77, 78, 79, 80, 81, 82, 83, 84, 85, 86, 87, 88, 89, 90, 91, 92, 93, 94, 95, 96, 97, 98, 99, 100, 101, 102, 103, 104, 105, 106, 107, 108, 109, 110, 111, 112, 113, 114, 115, 116, 117, 118, 119, 120, 121, 122, 123, 124, 125, 126, 127, 128, 129, 130, 131, 132, 133, 134, 135, 136, 137, 138, 139, 140, 141, 142, 143, 144, 145, 146] (by decide +kernel) (by decide +kernel)) (goodIn_sub (fun _ h => List.mem_cons_of_mem _ (List.mem_append_right _ h)) (by decide +kernel))
set_option maxRecDepth 20000 in
theorem gL_pass_X4_pass : GoodIn wsL_pass (wsV RL 49 RX4 yX4_pass wsX4_pass) := goodIn_app (goodIn_of _ (by decide +kernel)) ggL_pass_X4_pass
theorem dL_pass_0 : decode cL_pass 0 = .ok (.aload_n 2, 1) := by decide +kernel
theorem dL_pass_1 : decode cL_pass 1 = .ok (.iconst 0, 1) := by decide +kernel
theorem dL_pass_2 : decode cL_pass 2 = .ok (.aload_n 0, 1) := by decide +kernel
theorem dL_pass_3 : decode cL_pass 3 = .ok (.iload_n 1, 1) := by decide +kernel
theorem dL_pass_4 : decode cL_pass 4 = .ok (.invokevirtual 49, 3) := by decide +kernel
theorem dL_pass_7 : decode cL_pass 7 = .ok (.i2l, 1) := by decide +kernel
theorem dL_pass_8 : decode cL_pass 8 = .ok (.lastore, 1) := by decide +kernel
theorem dL_pass_9 : decode cL_pass 9 = .ok (.goto 6, 3) := by decide +kernel
theorem dL_pass_12 : decode cL_pass 12 = .ok (.astore_n 3, 1) := by decide +kernel
theorem dL_pass_13 : decode cL_pass 13 = .ok (.iconst 1, 1) := by decide +kernel
theorem dL_pass_14 : decode cL_pass 14 = .ok (.ireturn, 1) := by decide +kernel
theorem dL_pass_15 : decode cL_pass 15 = .ok (.iconst 0, 1) := by decide +kernel
theorem dL_pass_16 : decode cL_pass 16 = .ok (.ireturn, 1) := by decide +kernel
set_option maxRecDepth 20000 in
theorem ggL_foresee_X4_foresee : GoodIn wsL_foresee wsX4_foresee := goodIn_ca (goodIn_ca (goodIn_r _ [7, 8, 9, 10, 11, 12, 13, 6, 14, 15, 16, 17, 18, 19, 20, 21, 22, 23, 24, 25, 26, 27, 28, 29, 30, 31, 32, 33, 34, 35, 36, 37, 38, 39, 40, 41, 42, 43, 44, 45, 46, 47, 48, 49, 50, 51, 52, 53, 54, 55, 56, 57, 58, 59, 60, 61, 62, 63, 64, 65, 66, 67, 68, 69, 70, 71, 72, 73, 74, 75, 76, 77, 78, 79, 80, 81, 82, 83, 84, 85, 86, 87, 88, 89, 90, 91, 92, 93, 94, 95, 96, 97, 98, 99, 100, 101, 102, 103, 104, 105, 106, 107, 108, 109, 110, 111, 112, 113, 114, 115, 116, 117, 118, 119, 120, 121, 122, 123, 124, 125, 126, 127, 128, 129, 130, 131, 132, 133, 134, 135, 136, 137, 138, 139, 140, 141, 142, 143, 144, 145, 146, 147, 148, 149, 150, 151, 152, 153] (by decide +kernel) (by decide +kernel)) (goodIn_sub (fun _ h => List.mem_cons_of_mem _ (List.mem_append_left _ (List.mem_append_right _ h))) (by decide +kernel))) (goodIn_sub (fun _ h => List.mem_cons_of_mem _ (List.mem_append_right _ h)) (by decide +kernel))
set_option maxRecDepth 20000 in
theorem gL_foresee_X4_foresee : GoodIn wsL_foresee (wsV RL 52 RX4 yX4_foresee wsX4_foresee) := goodIn_app (goodIn_of _ (by decide +kernel)) ggL_foresee_X4_foresee
theorem dL_foresee_0 : decode cL_foresee 0 = .ok (.aload_n 3, 1) := by decide +kernel
theorem dL_foresee_1 : decode cL_foresee 1 = .ok (.iconst 0, 1) := by decide +kernel
theorem dL_foresee_2 : decode cL_foresee 2 = .ok (.aload_n 0, 1) := by decide +kernel
theorem dL_foresee_3 : decode cL_foresee 3 = .ok (.iload_n 1, 1) := by decide +kernel
theorem dL_foresee_4 : decode cL_foresee 4 = .ok (.iload_n 2, 1) := by decide +kernel
theorem dL_foresee_5 : decode cL_foresee 5 = .ok (.invokevirtual 52, 3) := by decide +kernel
theorem dL_foresee_8 : decode cL_foresee 8 = .ok (.i2l, 1) := by decide +kernel
theorem dL_foresee_9 : decode cL_foresee 9 = .ok (.lastore, 1) := by decide +kernel
theorem dL_foresee_10 : decode cL_foresee 10 = .ok (.goto 11, 3) := by decide +kernel
theorem dL_foresee_13 : decode cL_foresee 13 = .ok (.astore 4, 2) := by decide +kernel
theorem dL_foresee_15 : decode cL_foresee 15 = .ok (.iconst 1, 1) := by decide +kernel
theorem dL_foresee_16 : decode cL_foresee 16 = .ok (.ireturn, 1) := by decide +kernel
theorem dL_foresee_17 : decode cL_foresee 17 = .ok (.astore 4, 2) := by decide +kernel
theorem dL_foresee_19 : decode cL_foresee 19 = .ok (.iconst 2, 1) := by decide +kernel
theorem dL_foresee_20 : decode cL_foresee 20 = .ok (.ireturn, 1) := by decide +kernel
theorem dL_foresee_21 : decode cL_foresee 21 = .ok (.iconst 0, 1) := by decide +kernel
theorem dL_foresee_22 : decode cL_foresee 22 = .ok (.ireturn, 1) := by decide +kernel
set_option maxRecDepth 20000 in
theorem ggL_advise_X4_advise : GoodIn wsL_advise wsX4_advise := goodIn_ca (goodIn_r _ [6, 7, 8, 9, 5, 10, 11, 12, 13, 14, 15, 16, 17, 18, 19, 20, 21, 22, 23, 24, 25, 26, 27, 28, 29, 30, 31, 32, 33, 34, 35, 36, 37, 38, 39, 40, 41, 42, 43, 44, 45, 46, 47, 48, 49, 50, 51, 52, 53, 54, 55, 56, 57, 58, 59, 60, 61, 62, 63, 64, 65, 66, 67, 68, 69, 70, 71, 72, 73, 74, 75, 76, 77, 78, 79, 80, 81, 82, 83, 84, 85, 86, 87, 88, 89, 90, 91, 92, 93, 94, 95, 96, 97, 98, 99, 100, 101, 102, 103, 104, 105, 106, 107, 108, 109, 110, 111, 112, 113, 114, 115, 116, 117, 118, 119, 120, 121, 122, 123, 124, 125, 126, 127, 128, 129, 130, 131, 132, 133, 134, 135, 136, 137, 138, 139, 140, 141, 142, 143, 144, 145, 146, 147, 148, 149, 150, 151, 152, 153, 154, 155, 156, 157, 158, 159, 160, 161, 162, 163, 164, 165] (by decide +kernel) (by decide +kernel)) (goodIn_sub (fun _ h => List.mem_cons_of_mem _ (List.mem_append_right _ h)) (by decide +kernel))
set_option maxRecDepth 20000 in
theorem gL_advise_X4_advise : GoodIn wsL_advise (wsV RL 55 RX4 yX4_advise wsX4_advise) := goodIn_app (goodIn_of _ (by decide +kernel)) ggL_advise_X4_advise
theorem dL_advise_0 : decode cL_advise 0 = .ok (.aload_n 3, 1) := by decide +kernel
theorem dL_advise_1 : decode cL_advise 1 = .ok (.iconst 0, 1) := by decide +kernel
theorem dL_advise_2 : decode cL_advise 2 = .ok (.aload_n 0, 1) := by decide +kernel
theorem dL_advise_3 : decode cL_advise 3 = .ok (.iload_n 1, 1) := by decide +kernel
theorem dL_advise_4 : decode cL_advise 4 = .ok (.iload_n 2, 1) := by decide +kernel
theorem dL_advise_5 : decode cL_advise 5 = .ok (.invokevirtual 55, 3) := by decide +kernel
theorem dL_advise_8 : decode cL_advise 8 = .ok (.i2l, 1) := by decide +kernel
theorem dL_advise_9 : decode cL_advise 9 = .ok (.lastore, 1) := by decide +kernel
theorem dL_advise_10 : decode cL_advise 10 = .ok (.goto 7, 3) := by decide +kernel
theorem dL_advise_13 : decode cL_advise 13 = .ok (.astore 4, 2) := by decide +kernel
theorem dL_advise_15 : decode cL_advise 15 = .ok (.iconst 1, 1) := by decide +kernel
theorem dL_advise_16 : decode cL_advise 16 = .ok (.ireturn, 1) := by decide +kernel
theorem dL_advise_17 : decode cL_advise 17 = .ok (.iconst 0, 1) := by decide +kernel
theorem dL_advise_18 : decode cL_advise 18 = .ok (.ireturn, 1) := by decide +kernel
set_option maxRecDepth 20000 in
theorem ggL_source_X4_source : GoodIn wsL_source wsX4_source := goodIn_ca (goodIn_r _ [6, 7, 8, 9, 10, 5, 11, 12, 13, 14, 15, 16, 17, 18, 19, 20, 21, 22, 23, 24, 25, 26, 27, 28, 29, 30, 31, 32, 33, 34, 35, 36, 37, 38, 39, 40, 41, 42, 43, 44, 45, 46, 47, 48, 49, 50] (by decide +kernel) (by decide +kernel)) (goodIn_sub (fun _ h => List.mem_cons_of_mem _ (List.mem_append_right _ h)) (by decide +kernel))
set_option maxRecDepth 20000 in
theorem gL_source_X4_source : GoodIn wsL_source (wsV RL 58 RX4 yX4_source wsX4_source) := goodIn_app (goodIn_of _ (by decide +kernel)) ggL_source_X4_source
theorem dL_source_0 : decode cL_source 0 = .ok (.aload_n 2, 1) := by decide +kernel
theorem dL_source_1 : decode cL_source 1 = .ok (.iconst 0, 1) := by decide +kernel
theorem dL_source_2 : decode cL_source 2 = .ok (.aload_n 0, 1) := by decide +kernel
theorem dL_source_3 : decode cL_source 3 = .ok (.iload_n 1, 1) := by decide +kernel
theorem dL_source_4 : decode cL_source 4 = .ok (.invokevirtual 58, 3) := by decide +kernel
theorem dL_source_7 : decode cL_source 7 = .ok (.i2l, 1) := by decide +kernel
theorem dL_source_8 : decode cL_source 8 = .ok (.lastore, 1) := by decide +kernel
theorem dL_source_9 : decode cL_source 9 = .ok (.goto 6, 3) := by decide +kernel
theorem dL_source_12 : decode cL_source 12 = .ok (.astore_n 3, 1) := by decide +kernel
theorem dL_source_13 : decode cL_source 13 = .ok (.iconst 1, 1) := by decide +kernel
theorem dL_source_14 : decode cL_source 14 = .ok (.ireturn, 1) := by decide +kernel
theorem dL_source_15 : decode cL_source 15 = .ok (.iconst 0, 1) := by decide +kernel
theorem dL_source_16 : decode cL_source 16 = .ok (.ireturn, 1) := by decide +kernel
set_option maxRecDepth 20000 in
theorem ggL_law_X4_init : GoodIn wsL_law wsX4_init := goodIn_r _ [9, 10, 11, 12, 13, 14, 15, 16, 17, 18, 19, 20, 21, 22, 23, 24, 25, 26, 27, 28, 29, 30, 31, 32, 33, 34, 35, 36, 37, 38, 39, 40, 41, 42, 43, 44, 45, 46, 47, 48, 49, 50, 51, 52, 53, 54, 55, 56, 57, 58, 59, 60, 61, 62, 63, 64, 65, 66, 67, 607, 608, 609, 610, 611, 597, 598, 599, 600, 612, 613, 614, 615, 616, 617, 618, 619, 620] (by decide +kernel) (by decide +kernel)
set_option maxRecDepth 20000 in
theorem gL_law_X4_init : GoodIn wsL_law (wsX4_init) := ggL_law_X4_init
set_option maxRecDepth 20000 in
theorem ggL_law_X5_init : GoodIn wsL_law wsX5_init := goodIn_r _ [70, 71, 11, 12, 43, 72, 73, 74, 75, 601, 602, 603, 604, 605, 606] (by decide +kernel) (by decide +kernel)
set_option maxRecDepth 20000 in
theorem gL_law_X5_init : GoodIn wsL_law (wsX5_init) := ggL_law_X5_init
set_option maxRecDepth 20000 in
theorem ggL_law_L_come : GoodIn wsL_law wsL_come := goodIn_ca (goodIn_ca (goodIn_r _ [79, 80, 81, 82, 83, 84, 2, 85, 86, 87, 88, 89, 16, 20, 90, 91, 92, 93, 94, 95, 96, 97, 98, 15, 99, 27, 100, 101, 102, 103, 31, 32, 104, 105, 106, 30, 107, 44, 108, 109, 110, 19, 111, 56, 57, 52, 112, 113, 114, 55, 115, 64, 65, 66, 116, 117, 597, 598, 599, 600, 607, 608, 609, 610, 611, 617, 612, 613, 614, 615, 616, 618, 619, 620] (by decide +kernel) (by decide +kernel)) (goodIn_sub (fun _ h => List.mem_append_left _ (List.mem_append_left _ (List.mem_append_right _ h))) (by decide +kernel))) (goodIn_sub (fun _ h => List.mem_append_left _ (List.mem_append_right _ h)) (by decide +kernel))
set_option maxRecDepth 20000 in
theorem gL_law_L_come : GoodIn wsL_law (va_wsS RL 65 yL_come wsL_come) := goodIn_app (goodIn_of _ (by decide +kernel)) ggL_law_L_come
set_option maxRecDepth 20000 in
theorem ggL_law_X5_come : GoodIn wsL_law wsX5_come := goodIn_r _ [121, 122, 123, 43, 72, 124, 125, 126, 127, 128, 129, 5, 130, 131, 132, 133, 134, 601, 602, 603, 604, 605, 606] (by decide +kernel) (by decide +kernel)
set_option maxRecDepth 20000 in
theorem gL_law_X5_come : GoodIn wsL_law (wsV RL 70 RX5 yX5_come wsX5_come) := goodIn_app (goodIn_of _ (by decide +kernel)) ggL_law_X5_come
set_option maxRecDepth 20000 in
theorem ggL_law_X5_thrown : GoodIn wsL_law wsX5_thrown := goodIn_r _ [138, 122, 601, 602, 603, 604, 605, 606] (by decide +kernel) (by decide +kernel)
set_option maxRecDepth 20000 in
theorem gL_law_X5_thrown : GoodIn wsL_law (wsV RL 71 RX5 yX5_thrown wsX5_thrown) := goodIn_app (goodIn_of _ (by decide +kernel)) ggL_law_X5_thrown
set_option maxRecDepth 20000 in
theorem ggL_law_L_listen : GoodIn wsL_law wsL_listen := goodIn_ca (goodIn_ca (goodIn_ca (goodIn_r _ [141, 142, 80, 81, 143, 144, 145, 2, 146, 86, 87, 88, 89, 16, 147, 148, 149, 150, 151, 152, 96, 97, 98, 15, 99, 27, 153, 154, 155, 156, 33, 157, 158, 159, 30, 160, 44, 161, 162, 163, 164, 34, 165, 166, 167, 168, 104, 105, 106, 107, 169, 170, 171, 172, 173, 174, 175, 176, 597, 598, 599, 600, 607, 608, 609, 610, 611, 617] (by decide +kernel) (by decide +kernel)) (goodIn_sub (fun _ h => List.mem_append_left _ (List.mem_append_left _ (List.mem_append_right _ h))) (by decide +kernel))) (goodIn_sub (fun _ h => List.mem_append_left _ (List.mem_append_right _ h)) (by decide +kernel))) (goodIn_sub (fun _ h => List.mem_append_right _ h) (by decide +kernel))
set_option maxRecDepth 20000 in
theorem gL_law_L_listen : GoodIn wsL_law (va_wsS RL 75 yL_listen wsL_listen) := goodIn_app (goodIn_of _ (by decide +kernel)) ggL_law_L_listen
set_option maxRecDepth 20000 in
theorem ggL_law_X5_listen : GoodIn wsL_law wsX5_listen := goodIn_r _ [180, 122, 74, 124, 125, 126, 127, 181, 182, 183, 5, 184, 123, 128, 129, 130, 131, 132, 133, 134, 185, 186, 187, 188, 189, 190, 191, 192, 72, 193, 194, 195, 196, 601, 602, 603, 604, 605, 606] (by decide +kernel) (by decide +kernel)
set_option maxRecDepth 20000 in
theorem gL_law_X5_listen : GoodIn wsL_law (wsV RL 77 RX5 yX5_listen wsX5_listen) := goodIn_app (goodIn_of _ (by decide +kernel)) ggL_law_X5_listen
set_option maxRecDepth 20000 in
theorem ggL_law_L_raise : GoodIn wsL_law wsL_raise := goodIn_ca (goodIn_ca (goodIn_r _ [199, 142, 80, 200, 201, 202, 2, 203, 16, 147, 148, 149, 150, 151, 152, 96, 97, 98, 15, 99, 27, 93, 94, 95, 86, 87, 90, 91, 92, 204, 205, 206, 207, 32, 157, 158, 159, 30, 160, 44, 208, 209, 210, 211, 104, 105, 106, 107, 597, 598, 599, 600, 607, 608, 609, 610, 611, 617] (by decide +kernel) (by decide +kernel)) (goodIn_sub (fun _ h => List.mem_append_right _ h) (by decide +kernel))) (goodIn_sub (fun _ h => List.mem_append_left _ (List.mem_append_left _ (List.mem_append_right _ h))) (by decide +kernel))
set_option maxRecDepth 20000 in
theorem gL_law_L_raise : GoodIn wsL_law (va_wsS RL 78 yL_raise wsL_raise) := goodIn_app (goodIn_of _ (by decide +kernel)) ggL_law_L_raise
set_option maxRecDepth 20000 in
theorem ggL_law_X5_raise : GoodIn wsL_law wsX5_raise := goodIn_r _ [215, 122, 181, 182, 183, 5, 184, 123, 128, 129, 130, 131, 132, 133, 134, 189, 190, 191, 192, 72, 193, 194, 195, 196, 601, 602, 603, 604, 605, 606] (by decide +kernel) (by decide +kernel)
set_option maxRecDepth 20000 in
theorem gL_law_X5_raise : GoodIn wsL_law (wsV RL 80 RX5 yX5_raise wsX5_raise) := goodIn_app (goodIn_of _ (by decide +kernel)) ggL_law_X5_raise
set_option maxRecDepth 20000 in
theorem ggL_law_L_whisper : GoodIn wsL_law wsL_whisper := goodIn_ca (goodIn_ca (goodIn_r _ [218, 142, 80, 219, 220, 221, 2, 222, 86, 87, 20, 147, 148, 149, 150, 151, 152, 16, 96, 97, 98, 15, 99, 27, 223, 224, 225, 90, 91, 92, 226, 227, 228, 19, 229, 56, 57, 230, 231, 232, 55, 233, 64, 234, 158, 159, 30, 160, 44, 108, 109, 110, 111, 52, 112, 113, 114, 115, 65, 66, 116, 105, 106, 107, 117, 597, 598, 599, 600, 607, 608, 609, 610, 611, 612, 613, 614, 615, 616, 618, 619, 620, 617] (by decide +kernel) (by decide +kernel)) (goodIn_sub (fun _ h => List.mem_append_left _ (List.mem_append_left _ (List.mem_append_right _ h))) (by decide +kernel))) (goodIn_sub (fun _ h => List.mem_append_right _ h) (by decide +kernel))
set_option maxRecDepth 20000 in
theorem gL_law_L_whisper : GoodIn wsL_law (va_wsS RL 81 yL_whisper wsL_whisper) := goodIn_app (goodIn_of _ (by decide +kernel)) ggL_law_L_whisper
set_option maxRecDepth 20000 in
theorem ggL_law_X5_whisper : GoodIn wsL_law wsX5_whisper := goodIn_r _ [238, 122, 181, 182, 183, 5, 184, 123, 128, 129, 130, 131, 132, 133, 134, 239, 240, 241, 242, 243, 244, 245, 189, 190, 191, 192, 72, 246, 247, 248, 249, 43, 124, 125, 126, 127, 601, 602, 603, 604, 605, 606] (by decide +kernel) (by decide +kernel)
set_option maxRecDepth 20000 in
theorem gL_law_X5_whisper : GoodIn wsL_law (wsV RL 84 RX5 yX5_whisper wsX5_whisper) := goodIn_app (goodIn_of _ (by decide +kernel)) ggL_law_X5_whisper
set_option maxRecDepth 20000 in
theorem ggL_law_L_parrot : GoodIn wsL_law wsL_parrot := goodIn_ca (goodIn_r _ [252, 142, 253, 254, 255, 2, 256, 147, 148, 149, 150, 151, 152, 16, 96, 97, 98, 15, 99, 27, 257, 258, 259, 90, 91, 92, 260, 261, 262, 263, 20, 226, 227, 228, 19, 229, 56, 57, 230, 231, 232, 55, 233, 64, 234, 158, 159, 30, 160, 44, 264, 265, 266, 267, 52, 268, 269, 270, 271, 272, 31, 157, 204, 205, 206, 207, 32, 169, 170, 171, 172, 33, 273, 274, 275, 276, 277, 154, 155, 156, 161, 162, 163, 164, 34, 278, 279, 280, 281, 597, 598, 599, 600, 607, 608, 609, 610, 611, 612, 613, 614, 615, 616, 618, 619, 620, 617] (by decide +kernel) (by decide +kernel)) (goodIn_sub (fun _ h => List.mem_append_right _ h) (by decide +kernel))
set_option maxRecDepth 20000 in
theorem gL_law_L_parrot : GoodIn wsL_law (va_wsS RL 85 yL_parrot wsL_parrot) := goodIn_app (goodIn_of _ (by decide +kernel)) ggL_law_L_parrot
set_option maxRecDepth 20000 in
theorem ggL_law_X5_parrot : GoodIn wsL_law wsX5_parrot := goodIn_r _ [285, 122, 181, 182, 183, 5, 184, 123, 128, 129, 130, 286, 287, 288, 289, 242, 243, 244, 245, 189, 190, 191, 192, 72, 185, 186, 187, 188, 74, 290, 291, 292, 293, 131, 132, 133, 134, 601, 602, 603, 604, 605, 606] (by decide +kernel) (by decide +kernel)
set_option maxRecDepth 20000 in
theorem gL_law_X5_parrot : GoodIn wsL_law (wsV RL 87 RX5 yX5_parrot wsX5_parrot) := goodIn_app (goodIn_of _ (by decide +kernel)) ggL_law_X5_parrot
set_option maxRecDepth 20000 in
theorem ggL_law_L_half : GoodIn wsL_law wsL_half := goodIn_ca (goodIn_r _ [296, 142, 297, 298, 299, 2, 300, 147, 148, 149, 150, 151, 152, 16, 96, 97, 98, 15, 99, 27, 257, 258, 259, 90, 91, 92, 301, 302, 303, 304, 20, 305, 306, 307, 19, 308, 57, 56, 309, 231, 232, 55, 233, 64, 234, 158, 159, 30, 160, 44, 310, 311, 312, 313, 65, 314, 315, 316, 317, 66, 597, 598, 599, 600, 607, 608, 609, 610, 611, 612, 613, 614, 615, 616, 618, 619, 620, 617] (by decide +kernel) (by decide +kernel)) (goodIn_sub (fun _ h => List.mem_append_right _ h) (by decide +kernel))
set_option maxRecDepth 20000 in
theorem gL_law_L_half : GoodIn wsL_law (va_wsS RL 88 yL_half wsL_half) := goodIn_app (goodIn_of _ (by decide +kernel)) ggL_law_L_half
set_option maxRecDepth 20000 in
theorem ggL_law_X5_half : GoodIn wsL_law wsX5_half := goodIn_r _ [321, 122, 181, 182, 183, 5, 184, 123, 128, 129, 130, 322, 323, 324, 325, 189, 190, 191, 192, 72, 131, 132, 133, 134, 601, 602, 603, 604, 605, 606] (by decide +kernel) (by decide +kernel)
set_option maxRecDepth 20000 in
theorem gL_law_X5_half : GoodIn wsL_law (wsV RL 91 RX5 yX5_half wsX5_half) := goodIn_app (goodIn_of _ (by decide +kernel)) ggL_law_X5_half
set_option maxRecDepth 20000 in
theorem ggL_law_L_hears : GoodIn wsL_law wsL_hears := goodIn_ca (goodIn_r _ [328, 142, 329, 330, 331, 2, 332, 151, 152, 16, 147, 148, 149, 150, 96, 97, 98, 15, 99, 27, 169, 170, 171, 172, 33, 157, 158, 159, 30, 160, 44, 333, 162, 163, 164, 34, 597, 598, 599, 600, 607, 608, 609, 610, 611, 617] (by decide +kernel) (by decide +kernel)) (goodIn_sub (fun _ h => List.mem_append_right _ h) (by decide +kernel))
set_option maxRecDepth 20000 in
theorem gL_law_L_hears : GoodIn wsL_law (va_wsS RL 92 yL_hears wsL_hears) := goodIn_app (goodIn_of _ (by decide +kernel)) ggL_law_L_hears
set_option maxRecDepth 20000 in
theorem ggL_law_X5_hears : GoodIn wsL_law wsX5_hears := goodIn_r _ [337, 122, 74, 181, 182, 183, 5, 184, 123, 128, 129, 130, 189, 190, 191, 192, 72, 131, 132, 133, 134, 601, 602, 603, 604, 605, 606] (by decide +kernel) (by decide +kernel)
set_option maxRecDepth 20000 in
theorem gL_law_X5_hears : GoodIn wsL_law (wsV RL 94 RX5 yX5_hears wsX5_hears) := goodIn_app (goodIn_of _ (by decide +kernel)) ggL_law_X5_hears
set_option maxRecDepth 20000 in
theorem ggL_law_L_votes : GoodIn wsL_law wsL_votes := goodIn_ca (goodIn_r _ [340, 80, 341, 342, 343, 2, 344, 20, 223, 224, 225, 86, 87, 90, 91, 92, 345, 346, 347, 348, 16, 96, 97, 98, 15, 99, 27, 226, 227, 228, 19, 229, 56, 57, 230, 231, 232, 55, 233, 64, 234, 158, 159, 30, 160, 44, 597, 598, 599, 600, 607, 608, 609, 610, 611, 612, 613, 614, 615, 616, 618, 619, 620, 617] (by decide +kernel) (by decide +kernel)) (goodIn_sub (fun _ h => List.mem_append_left _ (List.mem_append_left _ (List.mem_append_right _ h))) (by decide +kernel))
set_option maxRecDepth 20000 in
theorem gL_law_L_votes : GoodIn wsL_law (va_wsS RL 95 yL_votes wsL_votes) := goodIn_app (goodIn_of _ (by decide +kernel)) ggL_law_L_votes
set_option maxRecDepth 20000 in
theorem ggL_law_X5_votes : GoodIn wsL_law wsX5_votes := goodIn_r _ [352, 122, 239, 240, 5, 241, 128, 129, 130, 353, 354, 355, 356, 123, 242, 243, 244, 245, 189, 190, 191, 192, 72, 131, 132, 133, 134, 601, 602, 603, 604, 605, 606] (by decide +kernel) (by decide +kernel)
set_option maxRecDepth 20000 in
theorem gL_law_X5_votes : GoodIn wsL_law (wsV RL 98 RX5 yX5_votes wsX5_votes) := goodIn_app (goodIn_of _ (by decide +kernel)) ggL_law_X5_votes
set_option maxRecDepth 20000 in
theorem ggL_law_X4_verdict : GoodIn wsL_law wsX4_verdict := goodIn_r _ [360, 16, 20, 96, 97, 98, 15, 99, 27, 226, 227, 228, 19, 229, 56, 57, 230, 231, 232, 55, 233, 64, 234, 158, 159, 30, 160, 44, 345, 346, 347, 2, 348, 597, 598, 599, 600, 607, 608, 609, 610, 611, 612, 613, 614, 615, 616, 618, 619, 620, 617] (by decide +kernel) (by decide +kernel)
set_option maxRecDepth 20000 in
theorem gL_law_X4_verdict : GoodIn wsL_law (wsV RL 99 RX4 yX4_verdict wsX4_verdict) := goodIn_app (goodIn_of _ (by decide +kernel)) ggL_law_X4_verdict
set_option maxRecDepth 20000 in
theorem ggL_law_X5_verdict : GoodIn wsL_law wsX5_verdict := goodIn_r _ [364, 122, 123, 242, 243, 244, 5, 245, 189, 190, 191, 192, 72, 353, 354, 355, 356, 601, 602, 603, 604, 605, 606] (by decide +kernel) (by decide +kernel)
set_option maxRecDepth 20000 in
theorem gL_law_X5_verdict : GoodIn wsL_law (wsV RL 102 RX5 yX5_verdict wsX5_verdict) := goodIn_app (goodIn_of _ (by decide +kernel)) ggL_law_X5_verdict
set_option maxRecDepth 20000 in
theorem ggL_law_L_left : GoodIn wsL_law wsL_left := goodIn_ca (goodIn_r _ [367, 80, 368, 369, 370, 2, 371, 16, 20, 223, 224, 225, 86, 87, 90, 91, 92, 96, 97, 98, 15, 99, 27, 305, 306, 307, 19, 308, 57, 56, 309, 231, 232, 55, 233, 64, 234, 158, 159, 30, 160, 44, 597, 598, 599, 600, 607, 608, 609, 610, 611, 612, 613, 614, 615, 616, 618, 619, 620, 617] (by decide +kernel) (by decide +kernel)) (goodIn_sub (fun _ h => List.mem_append_left _ (List.mem_append_left _ (List.mem_append_right _ h))) (by decide +kernel))
set_option maxRecDepth 20000 in
theorem gL_law_L_left : GoodIn wsL_law (va_wsS RL 103 yL_left wsL_left) := goodIn_app (goodIn_of _ (by decide +kernel)) ggL_law_L_left
set_option maxRecDepth 20000 in
theorem ggL_law_X5_left : GoodIn wsL_law wsX5_left := goodIn_r _ [375, 122, 123, 239, 240, 5, 241, 128, 129, 130, 131, 132, 133, 134, 189, 190, 191, 192, 72, 601, 602, 603, 604, 605, 606] (by decide +kernel) (by decide +kernel)
set_option maxRecDepth 20000 in
theorem gL_law_X5_left : GoodIn wsL_law (wsV RL 105 RX5 yX5_left wsX5_left) := goodIn_app (goodIn_of _ (by decide +kernel)) ggL_law_X5_left
set_option maxRecDepth 20000 in
theorem ggL_law_L_count : GoodIn wsL_law wsL_count := goodIn_ca (goodIn_r _ [378, 142, 379, 380, 381, 2, 382, 257, 258, 259, 151, 152, 90, 91, 92, 383, 384, 385, 386, 20, 16, 387, 388, 389, 19, 390, 49, 96, 97, 98, 15, 99, 27, 391, 392, 393, 394, 395, 396, 397, 398, 226, 227, 228, 229, 56, 57, 230, 231, 232, 55, 233, 64, 234, 158, 159, 30, 160, 44, 399, 400, 401, 402, 305, 306, 307, 308, 310, 311, 312, 313, 65, 403, 404, 405, 406, 264, 265, 266, 267, 52, 268, 407, 408, 409, 410, 50, 597, 598, 599, 600, 612, 613, 614, 615, 616, 607, 608, 609, 610, 611, 618, 619, 620, 617] (by decide +kernel) (by decide +kernel)) (goodIn_sub (fun _ h => List.mem_append_right _ h) (by decide +kernel))
set_option maxRecDepth 20000 in
theorem gL_law_L_count : GoodIn wsL_law (va_wsS RL 106 yL_count wsL_count) := goodIn_app (goodIn_of _ (by decide +kernel)) ggL_law_L_count
set_option maxRecDepth 20000 in
theorem ggL_law_X5_count : GoodIn wsL_law wsX5_count := goodIn_r _ [414, 122, 128, 129, 5, 130, 415, 416, 417, 418, 75, 123, 242, 243, 244, 245, 189, 190, 191, 192, 72, 131, 132, 133, 134, 601, 602, 603, 604, 605, 606] (by decide +kernel) (by decide +kernel)
set_option maxRecDepth 20000 in
theorem gL_law_X5_count : GoodIn wsL_law (wsV RL 108 RX5 yX5_count wsX5_count) := goodIn_app (goodIn_of _ (by decide +kernel)) ggL_law_X5_count
set_option maxRecDepth 20000 in
theorem ggL_law_L_pass : GoodIn wsL_law wsL_pass := goodIn_ca (goodIn_r _ [421, 80, 422, 423, 424, 2, 425, 20, 16, 22, 426, 427, 428, 86, 87, 90, 91, 92, 407, 408, 409, 19, 410, 50, 429, 430, 431, 432, 49, 433, 434, 435, 436, 52, 56, 57, 437, 438, 439, 30, 440, 44, 441, 442, 41, 443, 444, 125, 126, 127, 445, 446, 447, 55, 448, 64, 65, 66, 449, 450, 451, 452, 453, 454, 97, 98, 15, 99, 27, 455, 279, 280, 281, 33, 32, 157, 158, 159, 160, 161, 162, 163, 164, 34, 456, 457, 458, 459, 460, 461, 265, 266, 267, 268, 462, 227, 228, 229, 230, 231, 232, 233, 234, 117, 105, 106, 107, 463, 306, 307, 308, 464, 465, 466, 467, 468, 116, 469, 470, 471, 472, 473, 40, 42, 474, 270, 271, 272, 31, 597, 598, 599, 600, 612, 613, 614, 615, 616, 617, 618, 619, 620, 607, 608, 609, 610, 611] (by decide +kernel) (by decide +kernel)) (goodIn_sub (fun _ h => List.mem_append_left _ (List.mem_append_left _ (List.mem_append_right _ h))) (by decide +kernel))
set_option maxRecDepth 20000 in
theorem gL_law_L_pass : GoodIn wsL_law (va_wsS RL 109 yL_pass wsL_pass) := goodIn_app (goodIn_of _ (by decide +kernel)) ggL_law_L_pass
set_option maxRecDepth 20000 in
theorem ggL_law_X5_pass : GoodIn wsL_law wsX5_pass := goodIn_r _ [478, 122, 75, 128, 129, 5, 130, 131, 132, 133, 134, 479, 480, 481, 482, 483, 484, 485, 486, 72, 73, 124, 125, 126, 127, 123, 487, 40, 41, 42, 488, 489, 490, 491, 492, 442, 443, 290, 291, 292, 293, 74, 189, 190, 191, 192, 493, 494, 495, 496, 193, 194, 195, 196, 601, 602, 603, 604, 605, 606] (by decide +kernel) (by decide +kernel)
set_option maxRecDepth 20000 in
theorem gL_law_X5_pass : GoodIn wsL_law (wsV RL 111 RX5 yX5_pass wsX5_pass) := goodIn_app (goodIn_of _ (by decide +kernel)) ggL_law_X5_pass
set_option maxRecDepth 20000 in
theorem ggL_law_X4_agrees : GoodIn wsL_law wsX4_agrees := goodIn_r _ [500, 21, 20, 16, 22, 501, 434, 435, 19, 436, 49, 50, 52, 56, 57, 437, 438, 439, 30, 440, 44, 441, 442, 41, 443, 444, 125, 126, 127, 445, 446, 447, 55, 448, 64, 65, 66, 449, 502, 503, 504, 2, 505, 96, 97, 98, 15, 99, 27, 226, 227, 228, 229, 230, 231, 232, 233, 234, 158, 159, 160, 345, 346, 347, 348, 429, 430, 431, 432, 433, 450, 451, 452, 453, 454, 455, 279, 280, 281, 33, 32, 157, 161, 162, 163, 164, 34, 456, 457, 458, 459, 460, 461, 265, 266, 267, 268, 462, 117, 105, 106, 107, 463, 306, 307, 308, 464, 465, 466, 467, 468, 116, 469, 470, 471, 472, 473, 40, 42, 474, 270, 271, 272, 31, 597, 598, 599, 600, 612, 613, 614, 615, 616, 617, 618, 619, 620, 607, 608, 609, 610, 611] (by decide +kernel) (by decide +kernel)
set_option maxRecDepth 20000 in
theorem gL_law_X4_agrees : GoodIn wsL_law (wsV RL 112 RX4 yX4_agrees wsX4_agrees) := goodIn_app (goodIn_of _ (by decide +kernel)) ggL_law_X4_agrees
set_option maxRecDepth 20000 in
theorem ggL_law_X5_agrees : GoodIn wsL_law wsX5_agrees := goodIn_r _ [509, 122, 510, 511, 512, 5, 513, 514, 72, 515, 516, 517, 518, 519, 75, 415, 416, 417, 418, 123, 242, 243, 244, 245, 189, 190, 191, 192, 483, 484, 485, 486, 73, 124, 125, 126, 127, 487, 40, 41, 42, 488, 489, 490, 491, 492, 442, 443, 290, 291, 292, 293, 74, 493, 494, 495, 496, 193, 194, 195, 196, 520, 521, 522, 523, 601, 602, 603, 604, 605, 606] (by decide +kernel) (by decide +kernel)
set_option maxRecDepth 20000 in
theorem gL_law_X5_agrees : GoodIn wsL_law (wsV RL 115 RX5 yX5_agrees wsX5_agrees) := goodIn_app (goodIn_of _ (by decide +kernel)) ggL_law_X5_agrees
set_option maxRecDepth 20000 in
theorem ggL_law_L_foresee : GoodIn wsL_law wsL_foresee := goodIn_ca (goodIn_ca (goodIn_r _ [526, 80, 142, 527, 528, 529, 2, 530, 21, 20, 16, 22, 426, 427, 428, 86, 87, 90, 91, 92, 147, 148, 149, 150, 151, 152, 96, 97, 98, 15, 99, 27, 501, 434, 435, 19, 436, 49, 50, 52, 56, 57, 437, 438, 439, 30, 440, 44, 441, 442, 41, 443, 444, 125, 126, 127, 445, 446, 447, 55, 448, 64, 65, 66, 449, 429, 430, 431, 432, 433, 450, 451, 452, 453, 454, 455, 279, 280, 281, 33, 32, 157, 158, 159, 160, 161, 162, 163, 164, 34, 456, 457, 458, 459, 460, 461, 265, 266, 267, 268, 462, 227, 228, 229, 230, 231, 232, 233, 234, 117, 105, 106, 107, 463, 306, 307, 308, 464, 465, 466, 467, 468, 116, 469, 470, 471, 472, 473, 40, 42, 474, 270, 271, 272, 31, 226, 597, 598, 599, 600, 607, 608, 609, 610, 611, 612, 613, 614, 615, 616, 617, 618, 619, 620] (by decide +kernel) (by decide +kernel)) (goodIn_sub (fun _ h => List.mem_append_left _ (List.mem_append_left _ (List.mem_append_right _ h))) (by decide +kernel))) (goodIn_sub (fun _ h => List.mem_append_right _ h) (by decide +kernel))
set_option maxRecDepth 20000 in
theorem gL_law_L_foresee : GoodIn wsL_law (va_wsS RL 116 yL_foresee wsL_foresee) := goodIn_app (goodIn_of _ (by decide +kernel)) ggL_law_L_foresee
set_option maxRecDepth 20000 in
theorem ggL_law_X5_foresee : GoodIn wsL_law wsX5_foresee := goodIn_r _ [534, 122, 128, 129, 5, 130, 131, 132, 133, 134, 181, 182, 183, 184, 123, 510, 511, 512, 513, 514, 72, 515, 516, 517, 518, 519, 75, 479, 480, 481, 482, 483, 484, 485, 486, 73, 124, 125, 126, 127, 487, 40, 41, 42, 488, 489, 490, 491, 492, 442, 443, 290, 291, 292, 293, 74, 189, 190, 191, 192, 493, 494, 495, 496, 193, 194, 195, 196, 242, 243, 244, 245, 520, 521, 522, 523, 601, 602, 603, 604, 605, 606] (by decide +kernel) (by decide +kernel)
set_option maxRecDepth 20000 in
theorem gL_law_X5_foresee : GoodIn wsL_law (wsV RL 118 RX5 yX5_foresee wsX5_foresee) := goodIn_app (goodIn_of _ (by decide +kernel)) ggL_law_X5_foresee
set_option maxRecDepth 20000 in
theorem ggL_law_L_advise : GoodIn wsL_law wsL_advise := goodIn_ca (goodIn_r _ [537, 80, 538, 539, 540, 2, 541, 16, 223, 224, 225, 86, 87, 90, 91, 92, 426, 427, 428, 96, 97, 98, 15, 99, 27, 542, 543, 544, 545, 21, 20, 22, 501, 434, 435, 19, 436, 49, 50, 52, 56, 57, 437, 438, 439, 30, 440, 44, 441, 442, 41, 443, 444, 125, 126, 127, 445, 446, 447, 55, 448, 64, 65, 66, 449, 108, 109, 110, 111, 112, 113, 114, 115, 116, 105, 106, 107, 117, 429, 430, 431, 432, 433, 450, 451, 452, 453, 454, 455, 279, 280, 281, 33, 32, 157, 158, 159, 160, 161, 162, 163, 164, 34, 456, 457, 458, 459, 460, 461, 265, 266, 267, 268, 462, 227, 228, 229, 230, 231, 232, 233, 234, 463, 306, 307, 308, 464, 465, 466, 467, 468, 469, 470, 471, 472, 473, 40, 42, 474, 270, 271, 272, 31, 345, 346, 347, 348, 226, 597, 598, 599, 600, 607, 608, 609, 610, 611, 612, 613, 614, 615, 616, 617, 618, 619, 620] (by decide +kernel) (by decide +kernel)) (goodIn_sub (fun _ h => List.mem_append_left _ (List.mem_append_left _ (List.mem_append_right _ h))) (by decide +kernel))
set_option maxRecDepth 20000 in
theorem gL_law_L_advise : GoodIn wsL_law (va_wsS RL 119 yL_advise wsL_advise) := goodIn_app (goodIn_of _ (by decide +kernel)) ggL_law_L_advise
set_option maxRecDepth 20000 in
theorem ggL_law_X5_advise : GoodIn wsL_law wsX5_advise := goodIn_r _ [549, 122, 123, 239, 240, 5, 241, 128, 129, 130, 131, 132, 133, 134, 510, 511, 512, 513, 514, 72, 515, 516, 517, 518, 519, 75, 246, 247, 248, 249, 43, 124, 125, 126, 127, 479, 480, 481, 482, 483, 484, 485, 486, 73, 487, 40, 41, 42, 488, 489, 490, 491, 492, 442, 443, 290, 291, 292, 293, 74, 189, 190, 191, 192, 493, 494, 495, 496, 193, 194, 195, 196, 353, 354, 355, 356, 242, 243, 244, 245, 520, 521, 522, 523, 601, 602, 603, 604, 605, 606] (by decide +kernel) (by decide +kernel)
set_option maxRecDepth 20000 in
theorem gL_law_X5_advise : GoodIn wsL_law (wsV RL 121 RX5 yX5_advise wsX5_advise) := goodIn_app (goodIn_of _ (by decide +kernel)) ggL_law_X5_advise
set_option maxRecDepth 20000 in
theorem ggL_law_L_source : GoodIn wsL_law wsL_source := goodIn_ca (goodIn_r _ [552, 142, 553, 554, 555, 2, 556, 16, 147, 148, 149, 150, 151, 152, 96, 97, 98, 15, 99, 27, 557, 558, 559, 560, 33, 157, 158, 159, 30, 160, 44, 161, 162, 163, 164, 34, 561, 562, 563, 564, 565, 597, 598, 599, 600, 607, 608, 609, 610, 611, 617] (by decide +kernel) (by decide +kernel)) (goodIn_sub (fun _ h => List.mem_append_right _ h) (by decide +kernel))
set_option maxRecDepth 20000 in
theorem gL_law_L_source : GoodIn wsL_law (va_wsS RL 122 yL_source wsL_source) := goodIn_app (goodIn_of _ (by decide +kernel)) ggL_law_L_source
set_option maxRecDepth 20000 in
theorem ggL_law_X5_source : GoodIn wsL_law wsX5_source := goodIn_r _ [569, 122, 74, 123, 181, 182, 183, 5, 184, 128, 129, 130, 131, 132, 133, 134, 189, 190, 191, 192, 72, 601, 602, 603, 604, 605, 606] (by decide +kernel) (by decide +kernel)
set_option maxRecDepth 20000 in
theorem gL_law_X5_source : GoodIn wsL_law (wsV RL 124 RX5 yX5_source wsX5_source) := goodIn_app (goodIn_of _ (by decide +kernel)) ggL_law_X5_source
set_option maxRecDepth 20000 in
theorem ggL_law_X4_mean : GoodIn wsL_law wsX4_mean := goodIn_r _ [573, 16, 96, 97, 98, 15, 99, 27, 403, 404, 405, 2, 406, 20, 264, 265, 266, 19, 267, 52, 268, 158, 159, 30, 160, 44, 597, 598, 599, 600, 607, 608, 609, 610, 611, 612, 613, 614, 615, 616, 617] (by decide +kernel) (by decide +kernel)
set_option maxRecDepth 20000 in
theorem gL_law_X4_mean : GoodIn wsL_law (wsV RL 125 RX4 yX4_mean wsX4_mean) := goodIn_app (goodIn_of _ (by decide +kernel)) ggL_law_X4_mean
set_option maxRecDepth 20000 in
theorem ggL_law_X5_mean : GoodIn wsL_law wsX5_mean := goodIn_r _ [577, 122, 123, 415, 416, 417, 5, 418, 75, 242, 243, 244, 245, 189, 190, 191, 192, 72, 601, 602, 603, 604, 605, 606] (by decide +kernel) (by decide +kernel)
set_option maxRecDepth 20000 in
theorem gL_law_X5_mean : GoodIn wsL_law (wsV RL 129 RX5 yX5_mean wsX5_mean) := goodIn_app (goodIn_of _ (by decide +kernel)) ggL_law_X5_mean
set_option maxRecDepth 20000 in
theorem ggL_law_X4_digest : GoodIn wsL_law wsX4_digest := goodIn_r _ [581, 582, 16, 383, 384, 385, 2, 386, 20, 387, 388, 389, 19, 390, 49, 96, 97, 98, 15, 99, 27, 391, 392, 393, 394, 395, 396, 397, 398, 226, 227, 228, 229, 56, 57, 230, 231, 232, 55, 233, 64, 234, 158, 159, 30, 160, 44, 399, 400, 401, 402, 305, 306, 307, 308, 310, 311, 312, 313, 65, 403, 404, 405, 406, 264, 265, 266, 267, 52, 268, 407, 408, 409, 410, 50, 583, 584, 585, 586, 587, 588, 589, 590, 260, 261, 262, 263, 269, 270, 271, 272, 31, 157, 204, 205, 206, 207, 32, 169, 170, 171, 172, 33, 273, 274, 275, 276, 277, 154, 155, 156, 161, 162, 163, 164, 34, 278, 279, 280, 281, 301, 302, 303, 304, 309, 314, 315, 316, 317, 66, 333, 597, 598, 599, 600, 612, 613, 614, 615, 616, 607, 608, 609, 610, 611, 618, 619, 620, 617] (by decide +kernel) (by decide +kernel)
set_option maxRecDepth 20000 in
theorem gL_law_X4_digest : GoodIn wsL_law (wsV RL 130 RX4 yX4_digest wsX4_digest) := goodIn_app (goodIn_of _ (by decide +kernel)) ggL_law_X4_digest
set_option maxRecDepth 20000 in
theorem ggL_law_X5_digest : GoodIn wsL_law wsX5_digest := goodIn_r _ [594, 122, 595, 596, 123, 74, 415, 416, 417, 5, 418, 75, 242, 243, 244, 245, 189, 190, 191, 192, 72, 286, 287, 288, 289, 185, 186, 187, 188, 290, 291, 292, 293, 322, 323, 324, 325, 601, 602, 603, 604, 605, 606] (by decide +kernel) (by decide +kernel)
set_option maxRecDepth 20000 in
theorem gL_law_X5_digest : GoodIn wsL_law (wsV RL 134 RX5 yX5_digest wsX5_digest) := goodIn_app (goodIn_of _ (by decide +kernel)) ggL_law_X5_digest
theorem dL_law_0 : decode cL_law 0 = .ok (.new 8, 3) := by decide +kernel
end
section
theorem dL_law_3 : decode cL_law 3 = .ok (.dup, 1) := by decide +kernel
theorem dL_law_4 : decode cL_law 4 = .ok (.invokespecial 61, 3) := by decide +kernel
theorem dL_law_7 : decode cL_law 7 = .ok (.astore_n 1, 1) := by decide +kernel
theorem dL_law_8 : decode cL_law 8 = .ok (.new 62, 3) := by decide +kernel
theorem dL_law_11 : decode cL_law 11 = .ok (.dup, 1) := by decide +kernel
theorem dL_law_12 : decode cL_law 12 = .ok (.invokespecial 64, 3) := by decide +kernel
theorem dL_law_15 : decode cL_law 15 = .ok (.astore_n 2, 1) := by decide +kernel
theorem dL_law_16 : decode cL_law 16 = .ok (.iconst 1, 1) := by decide +kernel
theorem dL_law_17 : decode cL_law 17 = .ok (.newarray .long, 2) := by decide +kernel
theorem dL_law_19 : decode cL_law 19 = .ok (.astore_n 3, 1) := by decide +kernel
theorem dL_law_20 : decode cL_law 20 = .ok (.iconst 0, 1) := by decide +kernel
theorem dL_law_21 : decode cL_law 21 = .ok (.istore 4, 2) := by decide +kernel
theorem dL_law_23 : decode cL_law 23 = .ok (.iload 4, 2) := by decide +kernel
theorem dL_law_25 : decode cL_law 25 = .ok (.aload_n 0, 1) := by decide +kernel
theorem dL_law_26 : decode cL_law 26 = .ok (.arraylength, 1) := by decide +kernel
theorem dL_law_27 : decode cL_law 27 = .ok (.iconst 4, 1) := by decide +kernel
theorem dL_law_28 : decode cL_law 28 = .ok (.isub, 1) := by decide +kernel
theorem dL_law_29 : decode cL_law 29 = .ok (.if_icmp .gt 1114, 3) := by decide +kernel
theorem dL_law_32 : decode cL_law 32 = .ok (.aload_n 0, 1) := by decide +kernel
theorem dL_law_33 : decode cL_law 33 = .ok (.iload 4, 2) := by decide +kernel
theorem dL_law_35 : decode cL_law 35 = .ok (.iaload, 1) := by decide +kernel
theorem dL_law_36 : decode cL_law 36 = .ok (.bipush 31, 2) := by decide +kernel
theorem dL_law_38 : decode cL_law 38 = .ok (.iand, 1) := by decide +kernel
theorem dL_law_39 : decode cL_law 39 = .ok (.tableswitch 1098 0 17 #[85, 153, 221, 289, 369, 437, 533, 601, 657, 670, 726, 782, 838, 851, 919, 987, 1043, 1084], 85) := by decide +kernel
theorem dL_law_124 : decode cL_law 124 = .ok (.aload_n 1, 1) := by decide +kernel
theorem dL_law_125 : decode cL_law 125 = .ok (.aload_n 0, 1) := by decide +kernel
theorem dL_law_126 : decode cL_law 126 = .ok (.iload 4, 2) := by decide +kernel
theorem dL_law_128 : decode cL_law 128 = .ok (.iconst 1, 1) := by decide +kernel
theorem dL_law_129 : decode cL_law 129 = .ok (.iadd, 1) := by decide +kernel
theorem dL_law_130 : decode cL_law 130 = .ok (.iaload, 1) := by decide +kernel
theorem dL_law_131 : decode cL_law 131 = .ok (.aload_n 0, 1) := by decide +kernel
theorem dL_law_132 : decode cL_law 132 = .ok (.iload 4, 2) := by decide +kernel
theorem dL_law_134 : decode cL_law 134 = .ok (.iconst 2, 1) := by decide +kernel
theorem dL_law_135 : decode cL_law 135 = .ok (.iadd, 1) := by decide +kernel
theorem dL_law_136 : decode cL_law 136 = .ok (.iaload, 1) := by decide +kernel
theorem dL_law_137 : decode cL_law 137 = .ok (.aload_n 3, 1) := by decide +kernel
theorem dL_law_138 : decode cL_law 138 = .ok (.invokestatic 65, 3) := by decide +kernel
theorem dL_law_141 : decode cL_law 141 = .ok (.istore 5, 2) := by decide +kernel
theorem dL_law_143 : decode cL_law 143 = .ok (.aload_n 2, 1) := by decide +kernel
theorem dL_law_144 : decode cL_law 144 = .ok (.aload_n 0, 1) := by decide +kernel
theorem dL_law_145 : decode cL_law 145 = .ok (.iload 4, 2) := by decide +kernel
theorem dL_law_147 : decode cL_law 147 = .ok (.iconst 1, 1) := by decide +kernel
theorem dL_law_148 : decode cL_law 148 = .ok (.iadd, 1) := by decide +kernel
theorem dL_law_149 : decode cL_law 149 = .ok (.iaload, 1) := by decide +kernel
theorem dL_law_150 : decode cL_law 150 = .ok (.aload_n 0, 1) := by decide +kernel
theorem dL_law_151 : decode cL_law 151 = .ok (.iload 4, 2) := by decide +kernel
theorem dL_law_153 : decode cL_law 153 = .ok (.iconst 2, 1) := by decide +kernel
theorem dL_law_154 : decode cL_law 154 = .ok (.iadd, 1) := by decide +kernel
theorem dL_law_155 : decode cL_law 155 = .ok (.iaload, 1) := by decide +kernel
theorem dL_law_156 : decode cL_law 156 = .ok (.invokevirtual 70, 3) := by decide +kernel
theorem dL_law_159 : decode cL_law 159 = .ok (.istore 6, 2) := by decide +kernel
theorem dL_law_161 : decode cL_law 161 = .ok (.aload_n 2, 1) := by decide +kernel
theorem dL_law_162 : decode cL_law 162 = .ok (.invokevirtual 71, 3) := by decide +kernel
theorem dL_law_165 : decode cL_law 165 = .ok (.iload 5, 2) := by decide +kernel
theorem dL_law_167 : decode cL_law 167 = .ok (.if_icmp .eq 5, 3) := by decide +kernel
theorem dL_law_170 : decode cL_law 170 = .ok (.iconst 0, 1) := by decide +kernel
theorem dL_law_171 : decode cL_law 171 = .ok (.ireturn, 1) := by decide +kernel
theorem dL_law_172 : decode cL_law 172 = .ok (.iload 5, 2) := by decide +kernel
theorem dL_law_174 : decode cL_law 174 = .ok (.ifCond .ne 15, 3) := by decide +kernel
theorem dL_law_177 : decode cL_law 177 = .ok (.aload_n 3, 1) := by decide +kernel
theorem dL_law_178 : decode cL_law 178 = .ok (.iconst 0, 1) := by decide +kernel
theorem dL_law_179 : decode cL_law 179 = .ok (.laload, 1) := by decide +kernel
theorem dL_law_180 : decode cL_law 180 = .ok (.iload 6, 2) := by decide +kernel
theorem dL_law_182 : decode cL_law 182 = .ok (.i2l, 1) := by decide +kernel
theorem dL_law_183 : decode cL_law 183 = .ok (.lcmp, 1) := by decide +kernel
theorem dL_law_184 : decode cL_law 184 = .ok (.ifCond .eq 5, 3) := by decide +kernel
theorem dL_law_187 : decode cL_law 187 = .ok (.iconst 0, 1) := by decide +kernel
theorem dL_law_188 : decode cL_law 188 = .ok (.ireturn, 1) := by decide +kernel
theorem dL_law_189 : decode cL_law 189 = .ok (.goto 948, 3) := by decide +kernel
theorem dL_law_192 : decode cL_law 192 = .ok (.aload_n 1, 1) := by decide +kernel
theorem dL_law_193 : decode cL_law 193 = .ok (.aload_n 0, 1) := by decide +kernel
theorem dL_law_194 : decode cL_law 194 = .ok (.iload 4, 2) := by decide +kernel
theorem dL_law_196 : decode cL_law 196 = .ok (.iconst 1, 1) := by decide +kernel
theorem dL_law_197 : decode cL_law 197 = .ok (.iadd, 1) := by decide +kernel
theorem dL_law_198 : decode cL_law 198 = .ok (.iaload, 1) := by decide +kernel
theorem dL_law_199 : decode cL_law 199 = .ok (.aload_n 0, 1) := by decide +kernel
theorem dL_law_200 : decode cL_law 200 = .ok (.iload 4, 2) := by decide +kernel
theorem dL_law_202 : decode cL_law 202 = .ok (.iconst 2, 1) := by decide +kernel
theorem dL_law_203 : decode cL_law 203 = .ok (.iadd, 1) := by decide +kernel
theorem dL_law_204 : decode cL_law 204 = .ok (.iaload, 1) := by decide +kernel
theorem dL_law_205 : decode cL_law 205 = .ok (.aload_n 3, 1) := by decide +kernel
theorem dL_law_206 : decode cL_law 206 = .ok (.invokestatic 75, 3) := by decide +kernel
theorem dL_law_209 : decode cL_law 209 = .ok (.istore 5, 2) := by decide +kernel
theorem dL_law_211 : decode cL_law 211 = .ok (.aload_n 2, 1) := by decide +kernel
theorem dL_law_212 : decode cL_law 212 = .ok (.aload_n 0, 1) := by decide +kernel
theorem dL_law_213 : decode cL_law 213 = .ok (.iload 4, 2) := by decide +kernel
theorem dL_law_215 : decode cL_law 215 = .ok (.iconst 1, 1) := by decide +kernel
theorem dL_law_216 : decode cL_law 216 = .ok (.iadd, 1) := by decide +kernel
theorem dL_law_217 : decode cL_law 217 = .ok (.iaload, 1) := by decide +kernel
theorem dL_law_218 : decode cL_law 218 = .ok (.aload_n 0, 1) := by decide +kernel
theorem dL_law_219 : decode cL_law 219 = .ok (.iload 4, 2) := by decide +kernel
theorem dL_law_221 : decode cL_law 221 = .ok (.iconst 2, 1) := by decide +kernel
theorem dL_law_222 : decode cL_law 222 = .ok (.iadd, 1) := by decide +kernel
theorem dL_law_223 : decode cL_law 223 = .ok (.iaload, 1) := by decide +kernel
theorem dL_law_224 : decode cL_law 224 = .ok (.invokevirtual 77, 3) := by decide +kernel
theorem dL_law_227 : decode cL_law 227 = .ok (.istore 6, 2) := by decide +kernel
theorem dL_law_229 : decode cL_law 229 = .ok (.aload_n 2, 1) := by decide +kernel
theorem dL_law_230 : decode cL_law 230 = .ok (.invokevirtual 71, 3) := by decide +kernel
theorem dL_law_233 : decode cL_law 233 = .ok (.iload 5, 2) := by decide +kernel
theorem dL_law_235 : decode cL_law 235 = .ok (.if_icmp .eq 5, 3) := by decide +kernel
theorem dL_law_238 : decode cL_law 238 = .ok (.iconst 0, 1) := by decide +kernel
theorem dL_law_239 : decode cL_law 239 = .ok (.ireturn, 1) := by decide +kernel
theorem dL_law_240 : decode cL_law 240 = .ok (.iload 5, 2) := by decide +kernel
theorem dL_law_242 : decode cL_law 242 = .ok (.ifCond .ne 15, 3) := by decide +kernel
theorem dL_law_245 : decode cL_law 245 = .ok (.aload_n 3, 1) := by decide +kernel
theorem dL_law_246 : decode cL_law 246 = .ok (.iconst 0, 1) := by decide +kernel
theorem dL_law_247 : decode cL_law 247 = .ok (.laload, 1) := by decide +kernel
theorem dL_law_248 : decode cL_law 248 = .ok (.iload 6, 2) := by decide +kernel
theorem dL_law_250 : decode cL_law 250 = .ok (.i2l, 1) := by decide +kernel
theorem dL_law_251 : decode cL_law 251 = .ok (.lcmp, 1) := by decide +kernel
theorem dL_law_252 : decode cL_law 252 = .ok (.ifCond .eq 5, 3) := by decide +kernel
theorem dL_law_255 : decode cL_law 255 = .ok (.iconst 0, 1) := by decide +kernel
theorem dL_law_256 : decode cL_law 256 = .ok (.ireturn, 1) := by decide +kernel
theorem dL_law_257 : decode cL_law 257 = .ok (.goto 880, 3) := by decide +kernel
theorem dL_law_260 : decode cL_law 260 = .ok (.aload_n 1, 1) := by decide +kernel
theorem dL_law_261 : decode cL_law 261 = .ok (.aload_n 0, 1) := by decide +kernel
theorem dL_law_262 : decode cL_law 262 = .ok (.iload 4, 2) := by decide +kernel
theorem dL_law_264 : decode cL_law 264 = .ok (.iconst 1, 1) := by decide +kernel
theorem dL_law_265 : decode cL_law 265 = .ok (.iadd, 1) := by decide +kernel
theorem dL_law_266 : decode cL_law 266 = .ok (.iaload, 1) := by decide +kernel
theorem dL_law_267 : decode cL_law 267 = .ok (.aload_n 0, 1) := by decide +kernel
theorem dL_law_268 : decode cL_law 268 = .ok (.iload 4, 2) := by decide +kernel
theorem dL_law_270 : decode cL_law 270 = .ok (.iconst 2, 1) := by decide +kernel
theorem dL_law_271 : decode cL_law 271 = .ok (.iadd, 1) := by decide +kernel
theorem dL_law_272 : decode cL_law 272 = .ok (.iaload, 1) := by decide +kernel
theorem dL_law_273 : decode cL_law 273 = .ok (.aload_n 3, 1) := by decide +kernel
theorem dL_law_274 : decode cL_law 274 = .ok (.invokestatic 78, 3) := by decide +kernel
theorem dL_law_277 : decode cL_law 277 = .ok (.istore 5, 2) := by decide +kernel
theorem dL_law_279 : decode cL_law 279 = .ok (.aload_n 2, 1) := by decide +kernel
theorem dL_law_280 : decode cL_law 280 = .ok (.aload_n 0, 1) := by decide +kernel
theorem dL_law_281 : decode cL_law 281 = .ok (.iload 4, 2) := by decide +kernel
theorem dL_law_283 : decode cL_law 283 = .ok (.iconst 1, 1) := by decide +kernel
theorem dL_law_284 : decode cL_law 284 = .ok (.iadd, 1) := by decide +kernel
theorem dL_law_285 : decode cL_law 285 = .ok (.iaload, 1) := by decide +kernel
theorem dL_law_286 : decode cL_law 286 = .ok (.aload_n 0, 1) := by decide +kernel
theorem dL_law_287 : decode cL_law 287 = .ok (.iload 4, 2) := by decide +kernel
theorem dL_law_289 : decode cL_law 289 = .ok (.iconst 2, 1) := by decide +kernel
theorem dL_law_290 : decode cL_law 290 = .ok (.iadd, 1) := by decide +kernel
theorem dL_law_291 : decode cL_law 291 = .ok (.iaload, 1) := by decide +kernel
theorem dL_law_292 : decode cL_law 292 = .ok (.invokevirtual 80, 3) := by decide +kernel
theorem dL_law_295 : decode cL_law 295 = .ok (.istore 6, 2) := by decide +kernel
theorem dL_law_297 : decode cL_law 297 = .ok (.aload_n 2, 1) := by decide +kernel
theorem dL_law_298 : decode cL_law 298 = .ok (.invokevirtual 71, 3) := by decide +kernel
theorem dL_law_301 : decode cL_law 301 = .ok (.iload 5, 2) := by decide +kernel
theorem dL_law_303 : decode cL_law 303 = .ok (.if_icmp .eq 5, 3) := by decide +kernel
theorem dL_law_306 : decode cL_law 306 = .ok (.iconst 0, 1) := by decide +kernel
theorem dL_law_307 : decode cL_law 307 = .ok (.ireturn, 1) := by decide +kernel
theorem dL_law_308 : decode cL_law 308 = .ok (.iload 5, 2) := by decide +kernel
theorem dL_law_310 : decode cL_law 310 = .ok (.ifCond .ne 15, 3) := by decide +kernel
theorem dL_law_313 : decode cL_law 313 = .ok (.aload_n 3, 1) := by decide +kernel
theorem dL_law_314 : decode cL_law 314 = .ok (.iconst 0, 1) := by decide +kernel
theorem dL_law_315 : decode cL_law 315 = .ok (.laload, 1) := by decide +kernel
theorem dL_law_316 : decode cL_law 316 = .ok (.iload 6, 2) := by decide +kernel
theorem dL_law_318 : decode cL_law 318 = .ok (.i2l, 1) := by decide +kernel
theorem dL_law_319 : decode cL_law 319 = .ok (.lcmp, 1) := by decide +kernel
theorem dL_law_320 : decode cL_law 320 = .ok (.ifCond .eq 5, 3) := by decide +kernel
theorem dL_law_323 : decode cL_law 323 = .ok (.iconst 0, 1) := by decide +kernel
theorem dL_law_324 : decode cL_law 324 = .ok (.ireturn, 1) := by decide +kernel
theorem dL_law_325 : decode cL_law 325 = .ok (.goto 812, 3) := by decide +kernel
theorem dL_law_328 : decode cL_law 328 = .ok (.aload_n 1, 1) := by decide +kernel
theorem dL_law_329 : decode cL_law 329 = .ok (.aload_n 0, 1) := by decide +kernel
theorem dL_law_330 : decode cL_law 330 = .ok (.iload 4, 2) := by decide +kernel
theorem dL_law_332 : decode cL_law 332 = .ok (.iconst 1, 1) := by decide +kernel
theorem dL_law_333 : decode cL_law 333 = .ok (.iadd, 1) := by decide +kernel
theorem dL_law_334 : decode cL_law 334 = .ok (.iaload, 1) := by decide +kernel
theorem dL_law_335 : decode cL_law 335 = .ok (.aload_n 0, 1) := by decide +kernel
theorem dL_law_336 : decode cL_law 336 = .ok (.iload 4, 2) := by decide +kernel
theorem dL_law_338 : decode cL_law 338 = .ok (.iconst 2, 1) := by decide +kernel
theorem dL_law_339 : decode cL_law 339 = .ok (.iadd, 1) := by decide +kernel
theorem dL_law_340 : decode cL_law 340 = .ok (.iaload, 1) := by decide +kernel
theorem dL_law_341 : decode cL_law 341 = .ok (.aload_n 0, 1) := by decide +kernel
theorem dL_law_342 : decode cL_law 342 = .ok (.iload 4, 2) := by decide +kernel
theorem dL_law_344 : decode cL_law 344 = .ok (.iconst 3, 1) := by decide +kernel
theorem dL_law_345 : decode cL_law 345 = .ok (.iadd, 1) := by decide +kernel
theorem dL_law_346 : decode cL_law 346 = .ok (.iaload, 1) := by decide +kernel
theorem dL_law_347 : decode cL_law 347 = .ok (.aload_n 3, 1) := by decide +kernel
theorem dL_law_348 : decode cL_law 348 = .ok (.invokestatic 81, 3) := by decide +kernel
theorem dL_law_351 : decode cL_law 351 = .ok (.istore 5, 2) := by decide +kernel
theorem dL_law_353 : decode cL_law 353 = .ok (.aload_n 2, 1) := by decide +kernel
theorem dL_law_354 : decode cL_law 354 = .ok (.aload_n 0, 1) := by decide +kernel
theorem dL_law_355 : decode cL_law 355 = .ok (.iload 4, 2) := by decide +kernel
theorem dL_law_357 : decode cL_law 357 = .ok (.iconst 1, 1) := by decide +kernel
theorem dL_law_358 : decode cL_law 358 = .ok (.iadd, 1) := by decide +kernel
theorem dL_law_359 : decode cL_law 359 = .ok (.iaload, 1) := by decide +kernel
theorem dL_law_360 : decode cL_law 360 = .ok (.aload_n 0, 1) := by decide +kernel
theorem dL_law_361 : decode cL_law 361 = .ok (.iload 4, 2) := by decide +kernel
theorem dL_law_363 : decode cL_law 363 = .ok (.iconst 2, 1) := by decide +kernel
theorem dL_law_364 : decode cL_law 364 = .ok (.iadd, 1) := by decide +kernel
theorem dL_law_365 : decode cL_law 365 = .ok (.iaload, 1) := by decide +kernel
theorem dL_law_366 : decode cL_law 366 = .ok (.aload_n 0, 1) := by decide +kernel
theorem dL_law_367 : decode cL_law 367 = .ok (.iload 4, 2) := by decide +kernel
theorem dL_law_369 : decode cL_law 369 = .ok (.iconst 3, 1) := by decide +kernel
theorem dL_law_370 : decode cL_law 370 = .ok (.iadd, 1) := by decide +kernel
theorem dL_law_371 : decode cL_law 371 = .ok (.iaload, 1) := by decide +kernel
theorem dL_law_372 : decode cL_law 372 = .ok (.invokevirtual 84, 3) := by decide +kernel
theorem dL_law_375 : decode cL_law 375 = .ok (.istore 6, 2) := by decide +kernel
theorem dL_law_377 : decode cL_law 377 = .ok (.aload_n 2, 1) := by decide +kernel
theorem dL_law_378 : decode cL_law 378 = .ok (.invokevirtual 71, 3) := by decide +kernel
theorem dL_law_381 : decode cL_law 381 = .ok (.iload 5, 2) := by decide +kernel
theorem dL_law_383 : decode cL_law 383 = .ok (.if_icmp .eq 5, 3) := by decide +kernel
theorem dL_law_386 : decode cL_law 386 = .ok (.iconst 0, 1) := by decide +kernel
theorem dL_law_387 : decode cL_law 387 = .ok (.ireturn, 1) := by decide +kernel
theorem dL_law_388 : decode cL_law 388 = .ok (.iload 5, 2) := by decide +kernel
theorem dL_law_390 : decode cL_law 390 = .ok (.ifCond .ne 15, 3) := by decide +kernel
theorem dL_law_393 : decode cL_law 393 = .ok (.aload_n 3, 1) := by decide +kernel
theorem dL_law_394 : decode cL_law 394 = .ok (.iconst 0, 1) := by decide +kernel
theorem dL_law_395 : decode cL_law 395 = .ok (.laload, 1) := by decide +kernel
theorem dL_law_396 : decode cL_law 396 = .ok (.iload 6, 2) := by decide +kernel
theorem dL_law_398 : decode cL_law 398 = .ok (.i2l, 1) := by decide +kernel
theorem dL_law_399 : decode cL_law 399 = .ok (.lcmp, 1) := by decide +kernel
theorem dL_law_400 : decode cL_law 400 = .ok (.ifCond .eq 5, 3) := by decide +kernel
theorem dL_law_403 : decode cL_law 403 = .ok (.iconst 0, 1) := by decide +kernel
theorem dL_law_404 : decode cL_law 404 = .ok (.ireturn, 1) := by decide +kernel
theorem dL_law_405 : decode cL_law 405 = .ok (.goto 732, 3) := by decide +kernel
theorem dL_law_408 : decode cL_law 408 = .ok (.aload_n 1, 1) := by decide +kernel
theorem dL_law_409 : decode cL_law 409 = .ok (.aload_n 0, 1) := by decide +kernel
theorem dL_law_410 : decode cL_law 410 = .ok (.iload 4, 2) := by decide +kernel
theorem dL_law_412 : decode cL_law 412 = .ok (.iconst 1, 1) := by decide +kernel
theorem dL_law_413 : decode cL_law 413 = .ok (.iadd, 1) := by decide +kernel
theorem dL_law_414 : decode cL_law 414 = .ok (.iaload, 1) := by decide +kernel
theorem dL_law_415 : decode cL_law 415 = .ok (.aload_n 0, 1) := by decide +kernel
theorem dL_law_416 : decode cL_law 416 = .ok (.iload 4, 2) := by decide +kernel
theorem dL_law_418 : decode cL_law 418 = .ok (.iconst 2, 1) := by decide +kernel
theorem dL_law_419 : decode cL_law 419 = .ok (.iadd, 1) := by decide +kernel
theorem dL_law_420 : decode cL_law 420 = .ok (.iaload, 1) := by decide +kernel
theorem dL_law_421 : decode cL_law 421 = .ok (.aload_n 3, 1) := by decide +kernel
theorem dL_law_422 : decode cL_law 422 = .ok (.invokestatic 85, 3) := by decide +kernel
theorem dL_law_425 : decode cL_law 425 = .ok (.istore 5, 2) := by decide +kernel
theorem dL_law_427 : decode cL_law 427 = .ok (.aload_n 2, 1) := by decide +kernel
theorem dL_law_428 : decode cL_law 428 = .ok (.aload_n 0, 1) := by decide +kernel
theorem dL_law_429 : decode cL_law 429 = .ok (.iload 4, 2) := by decide +kernel
theorem dL_law_431 : decode cL_law 431 = .ok (.iconst 1, 1) := by decide +kernel
theorem dL_law_432 : decode cL_law 432 = .ok (.iadd, 1) := by decide +kernel
theorem dL_law_433 : decode cL_law 433 = .ok (.iaload, 1) := by decide +kernel
theorem dL_law_434 : decode cL_law 434 = .ok (.aload_n 0, 1) := by decide +kernel
theorem dL_law_435 : decode cL_law 435 = .ok (.iload 4, 2) := by decide +kernel
theorem dL_law_437 : decode cL_law 437 = .ok (.iconst 2, 1) := by decide +kernel
theorem dL_law_438 : decode cL_law 438 = .ok (.iadd, 1) := by decide +kernel
theorem dL_law_439 : decode cL_law 439 = .ok (.iaload, 1) := by decide +kernel
theorem dL_law_440 : decode cL_law 440 = .ok (.invokevirtual 87, 3) := by decide +kernel
theorem dL_law_443 : decode cL_law 443 = .ok (.istore 6, 2) := by decide +kernel
theorem dL_law_445 : decode cL_law 445 = .ok (.aload_n 2, 1) := by decide +kernel
theorem dL_law_446 : decode cL_law 446 = .ok (.invokevirtual 71, 3) := by decide +kernel
theorem dL_law_449 : decode cL_law 449 = .ok (.iload 5, 2) := by decide +kernel
theorem dL_law_451 : decode cL_law 451 = .ok (.if_icmp .eq 5, 3) := by decide +kernel
theorem dL_law_454 : decode cL_law 454 = .ok (.iconst 0, 1) := by decide +kernel
theorem dL_law_455 : decode cL_law 455 = .ok (.ireturn, 1) := by decide +kernel
theorem dL_law_456 : decode cL_law 456 = .ok (.iload 5, 2) := by decide +kernel
theorem dL_law_458 : decode cL_law 458 = .ok (.ifCond .ne 15, 3) := by decide +kernel
theorem dL_law_461 : decode cL_law 461 = .ok (.aload_n 3, 1) := by decide +kernel
theorem dL_law_462 : decode cL_law 462 = .ok (.iconst 0, 1) := by decide +kernel
theorem dL_law_463 : decode cL_law 463 = .ok (.laload, 1) := by decide +kernel
theorem dL_law_464 : decode cL_law 464 = .ok (.iload 6, 2) := by decide +kernel
theorem dL_law_466 : decode cL_law 466 = .ok (.i2l, 1) := by decide +kernel
theorem dL_law_467 : decode cL_law 467 = .ok (.lcmp, 1) := by decide +kernel
theorem dL_law_468 : decode cL_law 468 = .ok (.ifCond .eq 5, 3) := by decide +kernel
theorem dL_law_471 : decode cL_law 471 = .ok (.iconst 0, 1) := by decide +kernel
theorem dL_law_472 : decode cL_law 472 = .ok (.ireturn, 1) := by decide +kernel
theorem dL_law_473 : decode cL_law 473 = .ok (.goto 664, 3) := by decide +kernel
theorem dL_law_476 : decode cL_law 476 = .ok (.aload_n 1, 1) := by decide +kernel
theorem dL_law_477 : decode cL_law 477 = .ok (.aload_n 0, 1) := by decide +kernel
theorem dL_law_478 : decode cL_law 478 = .ok (.iload 4, 2) := by decide +kernel
theorem dL_law_480 : decode cL_law 480 = .ok (.iconst 1, 1) := by decide +kernel
theorem dL_law_481 : decode cL_law 481 = .ok (.iadd, 1) := by decide +kernel
theorem dL_law_482 : decode cL_law 482 = .ok (.iaload, 1) := by decide +kernel
theorem dL_law_483 : decode cL_law 483 = .ok (.aload_n 0, 1) := by decide +kernel
theorem dL_law_484 : decode cL_law 484 = .ok (.iload 4, 2) := by decide +kernel
theorem dL_law_486 : decode cL_law 486 = .ok (.iconst 2, 1) := by decide +kernel
theorem dL_law_487 : decode cL_law 487 = .ok (.iadd, 1) := by decide +kernel
theorem dL_law_488 : decode cL_law 488 = .ok (.iaload, 1) := by decide +kernel
theorem dL_law_489 : decode cL_law 489 = .ok (.ifCond .eq 7, 3) := by decide +kernel
theorem dL_law_492 : decode cL_law 492 = .ok (.iconst 1, 1) := by decide +kernel
theorem dL_law_493 : decode cL_law 493 = .ok (.goto 4, 3) := by decide +kernel
theorem dL_law_496 : decode cL_law 496 = .ok (.iconst 0, 1) := by decide +kernel
theorem dL_law_497 : decode cL_law 497 = .ok (.aload_n 0, 1) := by decide +kernel
theorem dL_law_498 : decode cL_law 498 = .ok (.iload 4, 2) := by decide +kernel
theorem dL_law_500 : decode cL_law 500 = .ok (.iconst 3, 1) := by decide +kernel
theorem dL_law_501 : decode cL_law 501 = .ok (.iadd, 1) := by decide +kernel
theorem dL_law_502 : decode cL_law 502 = .ok (.iaload, 1) := by decide +kernel
theorem dL_law_503 : decode cL_law 503 = .ok (.aload_n 3, 1) := by decide +kernel
theorem dL_law_504 : decode cL_law 504 = .ok (.invokestatic 88, 3) := by decide +kernel
theorem dL_law_507 : decode cL_law 507 = .ok (.istore 5, 2) := by decide +kernel
theorem dL_law_509 : decode cL_law 509 = .ok (.aload_n 2, 1) := by decide +kernel
theorem dL_law_510 : decode cL_law 510 = .ok (.aload_n 0, 1) := by decide +kernel
theorem dL_law_511 : decode cL_law 511 = .ok (.iload 4, 2) := by decide +kernel
theorem dL_law_513 : decode cL_law 513 = .ok (.iconst 1, 1) := by decide +kernel
theorem dL_law_514 : decode cL_law 514 = .ok (.iadd, 1) := by decide +kernel
theorem dL_law_515 : decode cL_law 515 = .ok (.iaload, 1) := by decide +kernel
theorem dL_law_516 : decode cL_law 516 = .ok (.aload_n 0, 1) := by decide +kernel
theorem dL_law_517 : decode cL_law 517 = .ok (.iload 4, 2) := by decide +kernel
theorem dL_law_519 : decode cL_law 519 = .ok (.iconst 2, 1) := by decide +kernel
theorem dL_law_520 : decode cL_law 520 = .ok (.iadd, 1) := by decide +kernel
theorem dL_law_521 : decode cL_law 521 = .ok (.iaload, 1) := by decide +kernel
theorem dL_law_522 : decode cL_law 522 = .ok (.ifCond .eq 7, 3) := by decide +kernel
theorem dL_law_525 : decode cL_law 525 = .ok (.iconst 1, 1) := by decide +kernel
theorem dL_law_526 : decode cL_law 526 = .ok (.goto 4, 3) := by decide +kernel
theorem dL_law_529 : decode cL_law 529 = .ok (.iconst 0, 1) := by decide +kernel
theorem dL_law_530 : decode cL_law 530 = .ok (.aload_n 0, 1) := by decide +kernel
theorem dL_law_531 : decode cL_law 531 = .ok (.iload 4, 2) := by decide +kernel
theorem dL_law_533 : decode cL_law 533 = .ok (.iconst 3, 1) := by decide +kernel
theorem dL_law_534 : decode cL_law 534 = .ok (.iadd, 1) := by decide +kernel
theorem dL_law_535 : decode cL_law 535 = .ok (.iaload, 1) := by decide +kernel
theorem dL_law_536 : decode cL_law 536 = .ok (.invokevirtual 91, 3) := by decide +kernel
theorem dL_law_539 : decode cL_law 539 = .ok (.istore 6, 2) := by decide +kernel
theorem dL_law_541 : decode cL_law 541 = .ok (.aload_n 2, 1) := by decide +kernel
theorem dL_law_542 : decode cL_law 542 = .ok (.invokevirtual 71, 3) := by decide +kernel
theorem dL_law_545 : decode cL_law 545 = .ok (.iload 5, 2) := by decide +kernel
theorem dL_law_547 : decode cL_law 547 = .ok (.if_icmp .eq 5, 3) := by decide +kernel
theorem dL_law_550 : decode cL_law 550 = .ok (.iconst 0, 1) := by decide +kernel
theorem dL_law_551 : decode cL_law 551 = .ok (.ireturn, 1) := by decide +kernel
theorem dL_law_552 : decode cL_law 552 = .ok (.iload 5, 2) := by decide +kernel
theorem dL_law_554 : decode cL_law 554 = .ok (.ifCond .ne 15, 3) := by decide +kernel
theorem dL_law_557 : decode cL_law 557 = .ok (.aload_n 3, 1) := by decide +kernel
theorem dL_law_558 : decode cL_law 558 = .ok (.iconst 0, 1) := by decide +kernel
theorem dL_law_559 : decode cL_law 559 = .ok (.laload, 1) := by decide +kernel
theorem dL_law_560 : decode cL_law 560 = .ok (.iload 6, 2) := by decide +kernel
theorem dL_law_562 : decode cL_law 562 = .ok (.i2l, 1) := by decide +kernel
theorem dL_law_563 : decode cL_law 563 = .ok (.lcmp, 1) := by decide +kernel
theorem dL_law_564 : decode cL_law 564 = .ok (.ifCond .eq 5, 3) := by decide +kernel
theorem dL_law_567 : decode cL_law 567 = .ok (.iconst 0, 1) := by decide +kernel
theorem dL_law_568 : decode cL_law 568 = .ok (.ireturn, 1) := by decide +kernel
theorem dL_law_569 : decode cL_law 569 = .ok (.goto 568, 3) := by decide +kernel
theorem dL_law_572 : decode cL_law 572 = .ok (.aload_n 1, 1) := by decide +kernel
theorem dL_law_573 : decode cL_law 573 = .ok (.aload_n 0, 1) := by decide +kernel
theorem dL_law_574 : decode cL_law 574 = .ok (.iload 4, 2) := by decide +kernel
theorem dL_law_576 : decode cL_law 576 = .ok (.iconst 1, 1) := by decide +kernel
theorem dL_law_577 : decode cL_law 577 = .ok (.iadd, 1) := by decide +kernel
theorem dL_law_578 : decode cL_law 578 = .ok (.iaload, 1) := by decide +kernel
theorem dL_law_579 : decode cL_law 579 = .ok (.aload_n 0, 1) := by decide +kernel
theorem dL_law_580 : decode cL_law 580 = .ok (.iload 4, 2) := by decide +kernel
theorem dL_law_582 : decode cL_law 582 = .ok (.iconst 2, 1) := by decide +kernel
theorem dL_law_583 : decode cL_law 583 = .ok (.iadd, 1) := by decide +kernel
theorem dL_law_584 : decode cL_law 584 = .ok (.iaload, 1) := by decide +kernel
theorem dL_law_585 : decode cL_law 585 = .ok (.aload_n 3, 1) := by decide +kernel
theorem dL_law_586 : decode cL_law 586 = .ok (.invokestatic 92, 3) := by decide +kernel
theorem dL_law_589 : decode cL_law 589 = .ok (.istore 5, 2) := by decide +kernel
theorem dL_law_591 : decode cL_law 591 = .ok (.aload_n 2, 1) := by decide +kernel
theorem dL_law_592 : decode cL_law 592 = .ok (.aload_n 0, 1) := by decide +kernel
theorem dL_law_593 : decode cL_law 593 = .ok (.iload 4, 2) := by decide +kernel
theorem dL_law_595 : decode cL_law 595 = .ok (.iconst 1, 1) := by decide +kernel
theorem dL_law_596 : decode cL_law 596 = .ok (.iadd, 1) := by decide +kernel
theorem dL_law_597 : decode cL_law 597 = .ok (.iaload, 1) := by decide +kernel
theorem dL_law_598 : decode cL_law 598 = .ok (.aload_n 0, 1) := by decide +kernel
theorem dL_law_599 : decode cL_law 599 = .ok (.iload 4, 2) := by decide +kernel
theorem dL_law_601 : decode cL_law 601 = .ok (.iconst 2, 1) := by decide +kernel
theorem dL_law_602 : decode cL_law 602 = .ok (.iadd, 1) := by decide +kernel
theorem dL_law_603 : decode cL_law 603 = .ok (.iaload, 1) := by decide +kernel
theorem dL_law_604 : decode cL_law 604 = .ok (.invokevirtual 94, 3) := by decide +kernel
theorem dL_law_607 : decode cL_law 607 = .ok (.istore 6, 2) := by decide +kernel
theorem dL_law_609 : decode cL_law 609 = .ok (.aload_n 2, 1) := by decide +kernel
theorem dL_law_610 : decode cL_law 610 = .ok (.invokevirtual 71, 3) := by decide +kernel
theorem dL_law_613 : decode cL_law 613 = .ok (.iload 5, 2) := by decide +kernel
theorem dL_law_615 : decode cL_law 615 = .ok (.if_icmp .eq 5, 3) := by decide +kernel
theorem dL_law_618 : decode cL_law 618 = .ok (.iconst 0, 1) := by decide +kernel
theorem dL_law_619 : decode cL_law 619 = .ok (.ireturn, 1) := by decide +kernel
theorem dL_law_620 : decode cL_law 620 = .ok (.iload 5, 2) := by decide +kernel
theorem dL_law_622 : decode cL_law 622 = .ok (.ifCond .ne 15, 3) := by decide +kernel
theorem dL_law_625 : decode cL_law 625 = .ok (.aload_n 3, 1) := by decide +kernel
theorem dL_law_626 : decode cL_law 626 = .ok (.iconst 0, 1) := by decide +kernel
theorem dL_law_627 : decode cL_law 627 = .ok (.laload, 1) := by decide +kernel
theorem dL_law_628 : decode cL_law 628 = .ok (.iload 6, 2) := by decide +kernel
theorem dL_law_630 : decode cL_law 630 = .ok (.i2l, 1) := by decide +kernel
theorem dL_law_631 : decode cL_law 631 = .ok (.lcmp, 1) := by decide +kernel
theorem dL_law_632 : decode cL_law 632 = .ok (.ifCond .eq 5, 3) := by decide +kernel
theorem dL_law_635 : decode cL_law 635 = .ok (.iconst 0, 1) := by decide +kernel
theorem dL_law_636 : decode cL_law 636 = .ok (.ireturn, 1) := by decide +kernel
theorem dL_law_637 : decode cL_law 637 = .ok (.goto 500, 3) := by decide +kernel
theorem dL_law_640 : decode cL_law 640 = .ok (.aload_n 1, 1) := by decide +kernel
theorem dL_law_641 : decode cL_law 641 = .ok (.aload_n 0, 1) := by decide +kernel
theorem dL_law_642 : decode cL_law 642 = .ok (.iload 4, 2) := by decide +kernel
theorem dL_law_644 : decode cL_law 644 = .ok (.iconst 1, 1) := by decide +kernel
theorem dL_law_645 : decode cL_law 645 = .ok (.iadd, 1) := by decide +kernel
theorem dL_law_646 : decode cL_law 646 = .ok (.iaload, 1) := by decide +kernel
theorem dL_law_647 : decode cL_law 647 = .ok (.aload_n 3, 1) := by decide +kernel
theorem dL_law_648 : decode cL_law 648 = .ok (.invokestatic 95, 3) := by decide +kernel
theorem dL_law_651 : decode cL_law 651 = .ok (.istore 5, 2) := by decide +kernel
theorem dL_law_653 : decode cL_law 653 = .ok (.aload_n 2, 1) := by decide +kernel
theorem dL_law_654 : decode cL_law 654 = .ok (.aload_n 0, 1) := by decide +kernel
theorem dL_law_655 : decode cL_law 655 = .ok (.iload 4, 2) := by decide +kernel
theorem dL_law_657 : decode cL_law 657 = .ok (.iconst 1, 1) := by decide +kernel
theorem dL_law_658 : decode cL_law 658 = .ok (.iadd, 1) := by decide +kernel
theorem dL_law_659 : decode cL_law 659 = .ok (.iaload, 1) := by decide +kernel
theorem dL_law_660 : decode cL_law 660 = .ok (.invokevirtual 98, 3) := by decide +kernel
theorem dL_law_663 : decode cL_law 663 = .ok (.istore 6, 2) := by decide +kernel
theorem dL_law_665 : decode cL_law 665 = .ok (.aload_n 2, 1) := by decide +kernel
theorem dL_law_666 : decode cL_law 666 = .ok (.invokevirtual 71, 3) := by decide +kernel
theorem dL_law_669 : decode cL_law 669 = .ok (.iload 5, 2) := by decide +kernel
theorem dL_law_671 : decode cL_law 671 = .ok (.if_icmp .eq 5, 3) := by decide +kernel
theorem dL_law_674 : decode cL_law 674 = .ok (.iconst 0, 1) := by decide +kernel
theorem dL_law_675 : decode cL_law 675 = .ok (.ireturn, 1) := by decide +kernel
theorem dL_law_676 : decode cL_law 676 = .ok (.iload 5, 2) := by decide +kernel
theorem dL_law_678 : decode cL_law 678 = .ok (.ifCond .ne 15, 3) := by decide +kernel
theorem dL_law_681 : decode cL_law 681 = .ok (.aload_n 3, 1) := by decide +kernel
theorem dL_law_682 : decode cL_law 682 = .ok (.iconst 0, 1) := by decide +kernel
theorem dL_law_683 : decode cL_law 683 = .ok (.laload, 1) := by decide +kernel
theorem dL_law_684 : decode cL_law 684 = .ok (.iload 6, 2) := by decide +kernel
theorem dL_law_686 : decode cL_law 686 = .ok (.i2l, 1) := by decide +kernel
theorem dL_law_687 : decode cL_law 687 = .ok (.lcmp, 1) := by decide +kernel
theorem dL_law_688 : decode cL_law 688 = .ok (.ifCond .eq 5, 3) := by decide +kernel
theorem dL_law_691 : decode cL_law 691 = .ok (.iconst 0, 1) := by decide +kernel
theorem dL_law_692 : decode cL_law 692 = .ok (.ireturn, 1) := by decide +kernel
theorem dL_law_693 : decode cL_law 693 = .ok (.goto 444, 3) := by decide +kernel
theorem dL_law_696 : decode cL_law 696 = .ok (.aload_n 1, 1) := by decide +kernel
theorem dL_law_697 : decode cL_law 697 = .ok (.invokevirtual 99, 3) := by decide +kernel
theorem dL_law_700 : decode cL_law 700 = .ok (.aload_n 2, 1) := by decide +kernel
theorem dL_law_701 : decode cL_law 701 = .ok (.invokevirtual 102, 3) := by decide +kernel
theorem dL_law_704 : decode cL_law 704 = .ok (.if_icmp .eq 433, 3) := by decide +kernel
theorem dL_law_707 : decode cL_law 707 = .ok (.iconst 0, 1) := by decide +kernel
theorem dL_law_708 : decode cL_law 708 = .ok (.ireturn, 1) := by decide +kernel
theorem dL_law_709 : decode cL_law 709 = .ok (.aload_n 1, 1) := by decide +kernel
theorem dL_law_710 : decode cL_law 710 = .ok (.aload_n 0, 1) := by decide +kernel
theorem dL_law_711 : decode cL_law 711 = .ok (.iload 4, 2) := by decide +kernel
theorem dL_law_713 : decode cL_law 713 = .ok (.iconst 1, 1) := by decide +kernel
theorem dL_law_714 : decode cL_law 714 = .ok (.iadd, 1) := by decide +kernel
theorem dL_law_715 : decode cL_law 715 = .ok (.iaload, 1) := by decide +kernel
theorem dL_law_716 : decode cL_law 716 = .ok (.aload_n 3, 1) := by decide +kernel
theorem dL_law_717 : decode cL_law 717 = .ok (.invokestatic 103, 3) := by decide +kernel
theorem dL_law_720 : decode cL_law 720 = .ok (.istore 5, 2) := by decide +kernel
theorem dL_law_722 : decode cL_law 722 = .ok (.aload_n 2, 1) := by decide +kernel
theorem dL_law_723 : decode cL_law 723 = .ok (.aload_n 0, 1) := by decide +kernel
theorem dL_law_724 : decode cL_law 724 = .ok (.iload 4, 2) := by decide +kernel
theorem dL_law_726 : decode cL_law 726 = .ok (.iconst 1, 1) := by decide +kernel
theorem dL_law_727 : decode cL_law 727 = .ok (.iadd, 1) := by decide +kernel
theorem dL_law_728 : decode cL_law 728 = .ok (.iaload, 1) := by decide +kernel
theorem dL_law_729 : decode cL_law 729 = .ok (.invokevirtual 105, 3) := by decide +kernel
theorem dL_law_732 : decode cL_law 732 = .ok (.istore 6, 2) := by decide +kernel
theorem dL_law_734 : decode cL_law 734 = .ok (.aload_n 2, 1) := by decide +kernel
theorem dL_law_735 : decode cL_law 735 = .ok (.invokevirtual 71, 3) := by decide +kernel
theorem dL_law_738 : decode cL_law 738 = .ok (.iload 5, 2) := by decide +kernel
theorem dL_law_740 : decode cL_law 740 = .ok (.if_icmp .eq 5, 3) := by decide +kernel
theorem dL_law_743 : decode cL_law 743 = .ok (.iconst 0, 1) := by decide +kernel
theorem dL_law_744 : decode cL_law 744 = .ok (.ireturn, 1) := by decide +kernel
theorem dL_law_745 : decode cL_law 745 = .ok (.iload 5, 2) := by decide +kernel
theorem dL_law_747 : decode cL_law 747 = .ok (.ifCond .ne 15, 3) := by decide +kernel
theorem dL_law_750 : decode cL_law 750 = .ok (.aload_n 3, 1) := by decide +kernel
theorem dL_law_751 : decode cL_law 751 = .ok (.iconst 0, 1) := by decide +kernel
theorem dL_law_752 : decode cL_law 752 = .ok (.laload, 1) := by decide +kernel
theorem dL_law_753 : decode cL_law 753 = .ok (.iload 6, 2) := by decide +kernel
theorem dL_law_755 : decode cL_law 755 = .ok (.i2l, 1) := by decide +kernel
theorem dL_law_756 : decode cL_law 756 = .ok (.lcmp, 1) := by decide +kernel
theorem dL_law_757 : decode cL_law 757 = .ok (.ifCond .eq 5, 3) := by decide +kernel
theorem dL_law_760 : decode cL_law 760 = .ok (.iconst 0, 1) := by decide +kernel
theorem dL_law_761 : decode cL_law 761 = .ok (.ireturn, 1) := by decide +kernel
theorem dL_law_762 : decode cL_law 762 = .ok (.goto 375, 3) := by decide +kernel
theorem dL_law_765 : decode cL_law 765 = .ok (.aload_n 1, 1) := by decide +kernel
theorem dL_law_766 : decode cL_law 766 = .ok (.aload_n 0, 1) := by decide +kernel
theorem dL_law_767 : decode cL_law 767 = .ok (.iload 4, 2) := by decide +kernel
theorem dL_law_769 : decode cL_law 769 = .ok (.iconst 1, 1) := by decide +kernel
theorem dL_law_770 : decode cL_law 770 = .ok (.iadd, 1) := by decide +kernel
theorem dL_law_771 : decode cL_law 771 = .ok (.iaload, 1) := by decide +kernel
theorem dL_law_772 : decode cL_law 772 = .ok (.aload_n 3, 1) := by decide +kernel
theorem dL_law_773 : decode cL_law 773 = .ok (.invokestatic 106, 3) := by decide +kernel
theorem dL_law_776 : decode cL_law 776 = .ok (.istore 5, 2) := by decide +kernel
theorem dL_law_778 : decode cL_law 778 = .ok (.aload_n 2, 1) := by decide +kernel
theorem dL_law_779 : decode cL_law 779 = .ok (.aload_n 0, 1) := by decide +kernel
theorem dL_law_780 : decode cL_law 780 = .ok (.iload 4, 2) := by decide +kernel
theorem dL_law_782 : decode cL_law 782 = .ok (.iconst 1, 1) := by decide +kernel
theorem dL_law_783 : decode cL_law 783 = .ok (.iadd, 1) := by decide +kernel
theorem dL_law_784 : decode cL_law 784 = .ok (.iaload, 1) := by decide +kernel
theorem dL_law_785 : decode cL_law 785 = .ok (.invokevirtual 108, 3) := by decide +kernel
theorem dL_law_788 : decode cL_law 788 = .ok (.istore 6, 2) := by decide +kernel
theorem dL_law_790 : decode cL_law 790 = .ok (.aload_n 2, 1) := by decide +kernel
theorem dL_law_791 : decode cL_law 791 = .ok (.invokevirtual 71, 3) := by decide +kernel
theorem dL_law_794 : decode cL_law 794 = .ok (.iload 5, 2) := by decide +kernel
theorem dL_law_796 : decode cL_law 796 = .ok (.if_icmp .eq 5, 3) := by decide +kernel
theorem dL_law_799 : decode cL_law 799 = .ok (.iconst 0, 1) := by decide +kernel
theorem dL_law_800 : decode cL_law 800 = .ok (.ireturn, 1) := by decide +kernel
theorem dL_law_801 : decode cL_law 801 = .ok (.iload 5, 2) := by decide +kernel
theorem dL_law_803 : decode cL_law 803 = .ok (.ifCond .ne 15, 3) := by decide +kernel
theorem dL_law_806 : decode cL_law 806 = .ok (.aload_n 3, 1) := by decide +kernel
theorem dL_law_807 : decode cL_law 807 = .ok (.iconst 0, 1) := by decide +kernel
theorem dL_law_808 : decode cL_law 808 = .ok (.laload, 1) := by decide +kernel
theorem dL_law_809 : decode cL_law 809 = .ok (.iload 6, 2) := by decide +kernel
theorem dL_law_811 : decode cL_law 811 = .ok (.i2l, 1) := by decide +kernel
theorem dL_law_812 : decode cL_law 812 = .ok (.lcmp, 1) := by decide +kernel
theorem dL_law_813 : decode cL_law 813 = .ok (.ifCond .eq 5, 3) := by decide +kernel
theorem dL_law_816 : decode cL_law 816 = .ok (.iconst 0, 1) := by decide +kernel
theorem dL_law_817 : decode cL_law 817 = .ok (.ireturn, 1) := by decide +kernel
theorem dL_law_818 : decode cL_law 818 = .ok (.goto 319, 3) := by decide +kernel
theorem dL_law_821 : decode cL_law 821 = .ok (.aload_n 1, 1) := by decide +kernel
theorem dL_law_822 : decode cL_law 822 = .ok (.aload_n 0, 1) := by decide +kernel
theorem dL_law_823 : decode cL_law 823 = .ok (.iload 4, 2) := by decide +kernel
theorem dL_law_825 : decode cL_law 825 = .ok (.iconst 1, 1) := by decide +kernel
theorem dL_law_826 : decode cL_law 826 = .ok (.iadd, 1) := by decide +kernel
theorem dL_law_827 : decode cL_law 827 = .ok (.iaload, 1) := by decide +kernel
theorem dL_law_828 : decode cL_law 828 = .ok (.aload_n 3, 1) := by decide +kernel
theorem dL_law_829 : decode cL_law 829 = .ok (.invokestatic 109, 3) := by decide +kernel
theorem dL_law_832 : decode cL_law 832 = .ok (.istore 5, 2) := by decide +kernel
theorem dL_law_834 : decode cL_law 834 = .ok (.aload_n 2, 1) := by decide +kernel
theorem dL_law_835 : decode cL_law 835 = .ok (.aload_n 0, 1) := by decide +kernel
theorem dL_law_836 : decode cL_law 836 = .ok (.iload 4, 2) := by decide +kernel
theorem dL_law_838 : decode cL_law 838 = .ok (.iconst 1, 1) := by decide +kernel
theorem dL_law_839 : decode cL_law 839 = .ok (.iadd, 1) := by decide +kernel
theorem dL_law_840 : decode cL_law 840 = .ok (.iaload, 1) := by decide +kernel
theorem dL_law_841 : decode cL_law 841 = .ok (.invokevirtual 111, 3) := by decide +kernel
theorem dL_law_844 : decode cL_law 844 = .ok (.istore 6, 2) := by decide +kernel
theorem dL_law_846 : decode cL_law 846 = .ok (.aload_n 2, 1) := by decide +kernel
theorem dL_law_847 : decode cL_law 847 = .ok (.invokevirtual 71, 3) := by decide +kernel
theorem dL_law_850 : decode cL_law 850 = .ok (.iload 5, 2) := by decide +kernel
theorem dL_law_852 : decode cL_law 852 = .ok (.if_icmp .eq 5, 3) := by decide +kernel
theorem dL_law_855 : decode cL_law 855 = .ok (.iconst 0, 1) := by decide +kernel
theorem dL_law_856 : decode cL_law 856 = .ok (.ireturn, 1) := by decide +kernel
theorem dL_law_857 : decode cL_law 857 = .ok (.iload 5, 2) := by decide +kernel
theorem dL_law_859 : decode cL_law 859 = .ok (.ifCond .ne 15, 3) := by decide +kernel
theorem dL_law_862 : decode cL_law 862 = .ok (.aload_n 3, 1) := by decide +kernel
theorem dL_law_863 : decode cL_law 863 = .ok (.iconst 0, 1) := by decide +kernel
theorem dL_law_864 : decode cL_law 864 = .ok (.laload, 1) := by decide +kernel
theorem dL_law_865 : decode cL_law 865 = .ok (.iload 6, 2) := by decide +kernel
theorem dL_law_867 : decode cL_law 867 = .ok (.i2l, 1) := by decide +kernel
theorem dL_law_868 : decode cL_law 868 = .ok (.lcmp, 1) := by decide +kernel
theorem dL_law_869 : decode cL_law 869 = .ok (.ifCond .eq 5, 3) := by decide +kernel
theorem dL_law_872 : decode cL_law 872 = .ok (.iconst 0, 1) := by decide +kernel
theorem dL_law_873 : decode cL_law 873 = .ok (.ireturn, 1) := by decide +kernel
theorem dL_law_874 : decode cL_law 874 = .ok (.goto 263, 3) := by decide +kernel
theorem dL_law_877 : decode cL_law 877 = .ok (.aload_n 1, 1) := by decide +kernel
theorem dL_law_878 : decode cL_law 878 = .ok (.invokevirtual 112, 3) := by decide +kernel
theorem dL_law_881 : decode cL_law 881 = .ok (.aload_n 2, 1) := by decide +kernel
theorem dL_law_882 : decode cL_law 882 = .ok (.invokevirtual 115, 3) := by decide +kernel
theorem dL_law_885 : decode cL_law 885 = .ok (.if_icmp .eq 252, 3) := by decide +kernel
theorem dL_law_888 : decode cL_law 888 = .ok (.iconst 0, 1) := by decide +kernel
theorem dL_law_889 : decode cL_law 889 = .ok (.ireturn, 1) := by decide +kernel
theorem dL_law_890 : decode cL_law 890 = .ok (.aload_n 1, 1) := by decide +kernel
theorem dL_law_891 : decode cL_law 891 = .ok (.aload_n 0, 1) := by decide +kernel
theorem dL_law_892 : decode cL_law 892 = .ok (.iload 4, 2) := by decide +kernel
theorem dL_law_894 : decode cL_law 894 = .ok (.iconst 1, 1) := by decide +kernel
theorem dL_law_895 : decode cL_law 895 = .ok (.iadd, 1) := by decide +kernel
theorem dL_law_896 : decode cL_law 896 = .ok (.iaload, 1) := by decide +kernel
theorem dL_law_897 : decode cL_law 897 = .ok (.aload_n 0, 1) := by decide +kernel
theorem dL_law_898 : decode cL_law 898 = .ok (.iload 4, 2) := by decide +kernel
theorem dL_law_900 : decode cL_law 900 = .ok (.iconst 2, 1) := by decide +kernel
theorem dL_law_901 : decode cL_law 901 = .ok (.iadd, 1) := by decide +kernel
theorem dL_law_902 : decode cL_law 902 = .ok (.iaload, 1) := by decide +kernel
theorem dL_law_903 : decode cL_law 903 = .ok (.aload_n 3, 1) := by decide +kernel
theorem dL_law_904 : decode cL_law 904 = .ok (.invokestatic 116, 3) := by decide +kernel
theorem dL_law_907 : decode cL_law 907 = .ok (.istore 5, 2) := by decide +kernel
theorem dL_law_909 : decode cL_law 909 = .ok (.aload_n 2, 1) := by decide +kernel
theorem dL_law_910 : decode cL_law 910 = .ok (.aload_n 0, 1) := by decide +kernel
theorem dL_law_911 : decode cL_law 911 = .ok (.iload 4, 2) := by decide +kernel
theorem dL_law_913 : decode cL_law 913 = .ok (.iconst 1, 1) := by decide +kernel
theorem dL_law_914 : decode cL_law 914 = .ok (.iadd, 1) := by decide +kernel
theorem dL_law_915 : decode cL_law 915 = .ok (.iaload, 1) := by decide +kernel
theorem dL_law_916 : decode cL_law 916 = .ok (.aload_n 0, 1) := by decide +kernel
theorem dL_law_917 : decode cL_law 917 = .ok (.iload 4, 2) := by decide +kernel
theorem dL_law_919 : decode cL_law 919 = .ok (.iconst 2, 1) := by decide +kernel
theorem dL_law_920 : decode cL_law 920 = .ok (.iadd, 1) := by decide +kernel
theorem dL_law_921 : decode cL_law 921 = .ok (.iaload, 1) := by decide +kernel
theorem dL_law_922 : decode cL_law 922 = .ok (.invokevirtual 118, 3) := by decide +kernel
theorem dL_law_925 : decode cL_law 925 = .ok (.istore 6, 2) := by decide +kernel
theorem dL_law_927 : decode cL_law 927 = .ok (.aload_n 2, 1) := by decide +kernel
theorem dL_law_928 : decode cL_law 928 = .ok (.invokevirtual 71, 3) := by decide +kernel
theorem dL_law_931 : decode cL_law 931 = .ok (.iload 5, 2) := by decide +kernel
theorem dL_law_933 : decode cL_law 933 = .ok (.if_icmp .eq 5, 3) := by decide +kernel
theorem dL_law_936 : decode cL_law 936 = .ok (.iconst 0, 1) := by decide +kernel
theorem dL_law_937 : decode cL_law 937 = .ok (.ireturn, 1) := by decide +kernel
theorem dL_law_938 : decode cL_law 938 = .ok (.iload 5, 2) := by decide +kernel
theorem dL_law_940 : decode cL_law 940 = .ok (.ifCond .ne 15, 3) := by decide +kernel
theorem dL_law_943 : decode cL_law 943 = .ok (.aload_n 3, 1) := by decide +kernel
theorem dL_law_944 : decode cL_law 944 = .ok (.iconst 0, 1) := by decide +kernel
theorem dL_law_945 : decode cL_law 945 = .ok (.laload, 1) := by decide +kernel
theorem dL_law_946 : decode cL_law 946 = .ok (.iload 6, 2) := by decide +kernel
theorem dL_law_948 : decode cL_law 948 = .ok (.i2l, 1) := by decide +kernel
theorem dL_law_949 : decode cL_law 949 = .ok (.lcmp, 1) := by decide +kernel
theorem dL_law_950 : decode cL_law 950 = .ok (.ifCond .eq 5, 3) := by decide +kernel
theorem dL_law_953 : decode cL_law 953 = .ok (.iconst 0, 1) := by decide +kernel
theorem dL_law_954 : decode cL_law 954 = .ok (.ireturn, 1) := by decide +kernel
theorem dL_law_955 : decode cL_law 955 = .ok (.goto 182, 3) := by decide +kernel
theorem dL_law_958 : decode cL_law 958 = .ok (.aload_n 1, 1) := by decide +kernel
theorem dL_law_959 : decode cL_law 959 = .ok (.aload_n 0, 1) := by decide +kernel
theorem dL_law_960 : decode cL_law 960 = .ok (.iload 4, 2) := by decide +kernel
theorem dL_law_962 : decode cL_law 962 = .ok (.iconst 1, 1) := by decide +kernel
theorem dL_law_963 : decode cL_law 963 = .ok (.iadd, 1) := by decide +kernel
theorem dL_law_964 : decode cL_law 964 = .ok (.iaload, 1) := by decide +kernel
theorem dL_law_965 : decode cL_law 965 = .ok (.aload_n 0, 1) := by decide +kernel
theorem dL_law_966 : decode cL_law 966 = .ok (.iload 4, 2) := by decide +kernel
theorem dL_law_968 : decode cL_law 968 = .ok (.iconst 2, 1) := by decide +kernel
theorem dL_law_969 : decode cL_law 969 = .ok (.iadd, 1) := by decide +kernel
theorem dL_law_970 : decode cL_law 970 = .ok (.iaload, 1) := by decide +kernel
theorem dL_law_971 : decode cL_law 971 = .ok (.aload_n 3, 1) := by decide +kernel
theorem dL_law_972 : decode cL_law 972 = .ok (.invokestatic 119, 3) := by decide +kernel
theorem dL_law_975 : decode cL_law 975 = .ok (.istore 5, 2) := by decide +kernel
theorem dL_law_977 : decode cL_law 977 = .ok (.aload_n 2, 1) := by decide +kernel
theorem dL_law_978 : decode cL_law 978 = .ok (.aload_n 0, 1) := by decide +kernel
theorem dL_law_979 : decode cL_law 979 = .ok (.iload 4, 2) := by decide +kernel
theorem dL_law_981 : decode cL_law 981 = .ok (.iconst 1, 1) := by decide +kernel
theorem dL_law_982 : decode cL_law 982 = .ok (.iadd, 1) := by decide +kernel
theorem dL_law_983 : decode cL_law 983 = .ok (.iaload, 1) := by decide +kernel
theorem dL_law_984 : decode cL_law 984 = .ok (.aload_n 0, 1) := by decide +kernel
theorem dL_law_985 : decode cL_law 985 = .ok (.iload 4, 2) := by decide +kernel
theorem dL_law_987 : decode cL_law 987 = .ok (.iconst 2, 1) := by decide +kernel
theorem dL_law_988 : decode cL_law 988 = .ok (.iadd, 1) := by decide +kernel
theorem dL_law_989 : decode cL_law 989 = .ok (.iaload, 1) := by decide +kernel
theorem dL_law_990 : decode cL_law 990 = .ok (.invokevirtual 121, 3) := by decide +kernel
theorem dL_law_993 : decode cL_law 993 = .ok (.istore 6, 2) := by decide +kernel
theorem dL_law_995 : decode cL_law 995 = .ok (.aload_n 2, 1) := by decide +kernel
theorem dL_law_996 : decode cL_law 996 = .ok (.invokevirtual 71, 3) := by decide +kernel
theorem dL_law_999 : decode cL_law 999 = .ok (.iload 5, 2) := by decide +kernel
theorem dL_law_1001 : decode cL_law 1001 = .ok (.if_icmp .eq 5, 3) := by decide +kernel
theorem dL_law_1004 : decode cL_law 1004 = .ok (.iconst 0, 1) := by decide +kernel
theorem dL_law_1005 : decode cL_law 1005 = .ok (.ireturn, 1) := by decide +kernel
theorem dL_law_1006 : decode cL_law 1006 = .ok (.iload 5, 2) := by decide +kernel
theorem dL_law_1008 : decode cL_law 1008 = .ok (.ifCond .ne 15, 3) := by decide +kernel
theorem dL_law_1011 : decode cL_law 1011 = .ok (.aload_n 3, 1) := by decide +kernel
theorem dL_law_1012 : decode cL_law 1012 = .ok (.iconst 0, 1) := by decide +kernel
theorem dL_law_1013 : decode cL_law 1013 = .ok (.laload, 1) := by decide +kernel
theorem dL_law_1014 : decode cL_law 1014 = .ok (.iload 6, 2) := by decide +kernel
theorem dL_law_1016 : decode cL_law 1016 = .ok (.i2l, 1) := by decide +kernel
theorem dL_law_1017 : decode cL_law 1017 = .ok (.lcmp, 1) := by decide +kernel
theorem dL_law_1018 : decode cL_law 1018 = .ok (.ifCond .eq 5, 3) := by decide +kernel
theorem dL_law_1021 : decode cL_law 1021 = .ok (.iconst 0, 1) := by decide +kernel
theorem dL_law_1022 : decode cL_law 1022 = .ok (.ireturn, 1) := by decide +kernel
theorem dL_law_1023 : decode cL_law 1023 = .ok (.goto 114, 3) := by decide +kernel
theorem dL_law_1026 : decode cL_law 1026 = .ok (.aload_n 1, 1) := by decide +kernel
theorem dL_law_1027 : decode cL_law 1027 = .ok (.aload_n 0, 1) := by decide +kernel
theorem dL_law_1028 : decode cL_law 1028 = .ok (.iload 4, 2) := by decide +kernel
theorem dL_law_1030 : decode cL_law 1030 = .ok (.iconst 1, 1) := by decide +kernel
theorem dL_law_1031 : decode cL_law 1031 = .ok (.iadd, 1) := by decide +kernel
theorem dL_law_1032 : decode cL_law 1032 = .ok (.iaload, 1) := by decide +kernel
theorem dL_law_1033 : decode cL_law 1033 = .ok (.aload_n 3, 1) := by decide +kernel
theorem dL_law_1034 : decode cL_law 1034 = .ok (.invokestatic 122, 3) := by decide +kernel
theorem dL_law_1037 : decode cL_law 1037 = .ok (.istore 5, 2) := by decide +kernel
theorem dL_law_1039 : decode cL_law 1039 = .ok (.aload_n 2, 1) := by decide +kernel
theorem dL_law_1040 : decode cL_law 1040 = .ok (.aload_n 0, 1) := by decide +kernel
theorem dL_law_1041 : decode cL_law 1041 = .ok (.iload 4, 2) := by decide +kernel
theorem dL_law_1043 : decode cL_law 1043 = .ok (.iconst 1, 1) := by decide +kernel
theorem dL_law_1044 : decode cL_law 1044 = .ok (.iadd, 1) := by decide +kernel
theorem dL_law_1045 : decode cL_law 1045 = .ok (.iaload, 1) := by decide +kernel
theorem dL_law_1046 : decode cL_law 1046 = .ok (.invokevirtual 124, 3) := by decide +kernel
theorem dL_law_1049 : decode cL_law 1049 = .ok (.istore 6, 2) := by decide +kernel
theorem dL_law_1051 : decode cL_law 1051 = .ok (.aload_n 2, 1) := by decide +kernel
theorem dL_law_1052 : decode cL_law 1052 = .ok (.invokevirtual 71, 3) := by decide +kernel
theorem dL_law_1055 : decode cL_law 1055 = .ok (.iload 5, 2) := by decide +kernel
theorem dL_law_1057 : decode cL_law 1057 = .ok (.if_icmp .eq 5, 3) := by decide +kernel
theorem dL_law_1060 : decode cL_law 1060 = .ok (.iconst 0, 1) := by decide +kernel
theorem dL_law_1061 : decode cL_law 1061 = .ok (.ireturn, 1) := by decide +kernel
theorem dL_law_1062 : decode cL_law 1062 = .ok (.iload 5, 2) := by decide +kernel
theorem dL_law_1064 : decode cL_law 1064 = .ok (.ifCond .ne 15, 3) := by decide +kernel
theorem dL_law_1067 : decode cL_law 1067 = .ok (.aload_n 3, 1) := by decide +kernel
theorem dL_law_1068 : decode cL_law 1068 = .ok (.iconst 0, 1) := by decide +kernel
theorem dL_law_1069 : decode cL_law 1069 = .ok (.laload, 1) := by decide +kernel
theorem dL_law_1070 : decode cL_law 1070 = .ok (.iload 6, 2) := by decide +kernel
theorem dL_law_1072 : decode cL_law 1072 = .ok (.i2l, 1) := by decide +kernel
theorem dL_law_1073 : decode cL_law 1073 = .ok (.lcmp, 1) := by decide +kernel
theorem dL_law_1074 : decode cL_law 1074 = .ok (.ifCond .eq 5, 3) := by decide +kernel
theorem dL_law_1077 : decode cL_law 1077 = .ok (.iconst 0, 1) := by decide +kernel
theorem dL_law_1078 : decode cL_law 1078 = .ok (.ireturn, 1) := by decide +kernel
theorem dL_law_1079 : decode cL_law 1079 = .ok (.goto 58, 3) := by decide +kernel
theorem dL_law_1082 : decode cL_law 1082 = .ok (.aload_n 1, 1) := by decide +kernel
theorem dL_law_1083 : decode cL_law 1083 = .ok (.invokevirtual 125, 3) := by decide +kernel
theorem dL_law_1086 : decode cL_law 1086 = .ok (.dstore 5, 2) := by decide +kernel
theorem dL_law_1088 : decode cL_law 1088 = .ok (.aload_n 2, 1) := by decide +kernel
theorem dL_law_1089 : decode cL_law 1089 = .ok (.invokevirtual 129, 3) := by decide +kernel
theorem dL_law_1092 : decode cL_law 1092 = .ok (.dstore 7, 2) := by decide +kernel
theorem dL_law_1094 : decode cL_law 1094 = .ok (.dload 5, 2) := by decide +kernel
theorem dL_law_1096 : decode cL_law 1096 = .ok (.dload 7, 2) := by decide +kernel
theorem dL_law_1098 : decode cL_law 1098 = .ok (.dcmp .l, 1) := by decide +kernel
theorem dL_law_1099 : decode cL_law 1099 = .ok (.ifCond .eq 21, 3) := by decide +kernel
theorem dL_law_1102 : decode cL_law 1102 = .ok (.dload 5, 2) := by decide +kernel
theorem dL_law_1104 : decode cL_law 1104 = .ok (.dload 5, 2) := by decide +kernel
theorem dL_law_1106 : decode cL_law 1106 = .ok (.dcmp .l, 1) := by decide +kernel
theorem dL_law_1107 : decode cL_law 1107 = .ok (.ifCond .eq 11, 3) := by decide +kernel
theorem dL_law_1110 : decode cL_law 1110 = .ok (.dload 7, 2) := by decide +kernel
theorem dL_law_1112 : decode cL_law 1112 = .ok (.dload 7, 2) := by decide +kernel
theorem dL_law_1114 : decode cL_law 1114 = .ok (.dcmp .l, 1) := by decide +kernel
theorem dL_law_1115 : decode cL_law 1115 = .ok (.ifCond .ne 5, 3) := by decide +kernel
theorem dL_law_1118 : decode cL_law 1118 = .ok (.iconst 0, 1) := by decide +kernel
theorem dL_law_1119 : decode cL_law 1119 = .ok (.ireturn, 1) := by decide +kernel
theorem dL_law_1120 : decode cL_law 1120 = .ok (.goto 17, 3) := by decide +kernel
theorem dL_law_1123 : decode cL_law 1123 = .ok (.aload_n 1, 1) := by decide +kernel
theorem dL_law_1124 : decode cL_law 1124 = .ok (.invokevirtual 130, 3) := by decide +kernel
theorem dL_law_1127 : decode cL_law 1127 = .ok (.aload_n 2, 1) := by decide +kernel
theorem dL_law_1128 : decode cL_law 1128 = .ok (.invokevirtual 134, 3) := by decide +kernel
theorem dL_law_1131 : decode cL_law 1131 = .ok (.lcmp, 1) := by decide +kernel
theorem dL_law_1132 : decode cL_law 1132 = .ok (.ifCond .eq 5, 3) := by decide +kernel
theorem dL_law_1135 : decode cL_law 1135 = .ok (.iconst 0, 1) := by decide +kernel
theorem dL_law_1136 : decode cL_law 1136 = .ok (.ireturn, 1) := by decide +kernel
theorem dL_law_1137 : decode cL_law 1137 = .ok (.iinc 4 4, 3) := by decide +kernel
theorem dL_law_1140 : decode cL_law 1140 = .ok (.goto (-1117), 3) := by decide +kernel
theorem dL_law_1143 : decode cL_law 1143 = .ok (.iconst 1, 1) := by decide +kernel
theorem dL_law_1144 : decode cL_law 1144 = .ok (.ireturn, 1) := by decide +kernel
abbrev vwCl : List vw_C := [(RX0, TX0, 3), (RX1, TX1, 1), (RX2, TX2, 5), (RX3, TX3, 5), (RX4, TX4, 4), (RX5, TX5, 6)]
/-! ===== END printed: names (the pool of records left out: a row may not hold them) ===== -/
end
section
/-! my own layer over the kit: contracts whose heap is a parameter; pure calls; calls that write -/
/-- a method's start: the heap is H, the tables are known -/
def zPc (D : va_G) (tys : List (ClassId × FieldType)) (H : Heap) (av : List Value) : Array Value → State → Prop := va_Pc av (fun U => U.heap = H ∧ va_K D vwCl tys U)
/-- a pure end: the answer v, the heap as it was -/
def zQ (v : Option Value) (H : Heap) : Array Value → State → Outcome → State → Prop := fun _ _ oc t => oc = .returned v ∧ t.heap = H
/-- an end that may have written within A: the answer v, the heap as B says -/
def zM (B : Heap → Prop) (v : Option Value) (A : Nat → Prop) : Array Value → State → Outcome → State → Prop := fun _ st oc t => oc = .returned v ∧ B t.heap ∧ va_F A st t
theorem zPc_blind {D : va_G} {tys : List (ClassId × FieldType)} {H : Heap} {av : List Value} : FrameBlind (zPc D tys H av) := by
  intro a U g mk h
  obtain ⟨h1, h2, h3⟩ := h
  exact ⟨h1, h2, va_K.moved (u := U) (U := U.calling g mk a) (Vm.Alike.refl U.vm) h3⟩
theorem z_enter {l : Launch} {y : MethodName} {ws ws' : List Cond} {rm : Room} {D : va_G} {tys : List (ClassId × FieldType)} {H : Heap} {av : List Value} {Qc : Array Value → State → Outcome → State → Prop} {mc ms : Nat} {free : Addr → Prop} {cc : ByteArray} {maxL : Nat} {ret : Option FieldType}
    (hy : plainName y.cls = true) (hw : ws = Cond.code y cc maxL ret :: ws') (hlen : (lg_sl av).length ≤ maxL)
    (body : ∀ (p : Program) (e : Env) (s : State) (m : MethodId) (args : Array Value) (below : List Frame) (meth : Method) (c : Code), CallFix p m c cc maxL s args ws y.cls → meth.sig.returnType = ret → meth.locks = false → meth.name = y.name → va_K D vwCl tys s → s.heap = H → ∀ ls : Array Slot, lv_has ls maxL (lv_args 0 av) →
      W p l e rm s m args below meth c H [] 0 0 (MQ below Qc args s mc ms free) (F0 m 0 ls [])) : Met l y ws rm (zPc D tys H av) Qc mc ms free := by
  refine Met.ofW (cc := cc) (maxL := maxL) (ret := ret) hy hw ?_
  intro p e s m args below meth c s₁ B hml hv
  obtain ⟨rfl, hH, hK⟩ := hv
  have hl := lv_entry av (n := maxL) hlen
  rw [lg_entry_eq]
  generalize (lg_sl av ++ List.replicate (maxL - (lg_sl av).length) Slot.unset).toArray = ls at hl ⊢
  subst hH
  exact body p e s m _ below meth c ⟨B.exec, B.bytes, hml, findClass_of_methodNamed B.named, atoms_spec (ws := ws) B.pre⟩ B.returns B.notSynchronized (name_of_methodNamed B.named B.method).1 hK rfl ls hl
theorem z_preV {s : State} {D : va_G} {tys tys0 : List (ClassId × FieldType)} {H : Heap} {C : String} {b q0 ci : Nat} {As : List Value} {fs : List Value} {ws : va_W} {q : vw_C} (hK : va_K D vwCl tys s) (hK0 : va_K D vwCl tys0 s) (hP : va_P D vwCl ws H) (hc : vwCl[ci]? = some q) (hC : q.1 = C) (he : ws[q0]? = some (b, .inr (ci, fs))) : PreV s H C b (zPc D tys0 H (.ref b :: As)) As :=
  ⟨zPc_blind, hC ▸ va_recv hK hP hc he, fun U hU hW => ⟨rfl, hU, va_K.moved hW.alike hK0⟩⟩
theorem z_preS {s : State} {D : va_G} {tys0 : List (ClassId × FieldType)} {H : Heap} {As : List Value} (hK0 : va_K D vwCl tys0 s) : PreS s H (zPc D tys0 H As) As :=
  ⟨zPc_blind, fun U hU hW => ⟨rfl, hU, va_K.moved hW.alike hK0⟩⟩
section ZB
variable {p : Program} {l : Launch} {e : Env} {R : Room} {s : State} {m : MethodId} {args : Array Value} {below : List Frame} {meth : Method} {c : Code} {H : Heap} {locs : List Loc} {cells slots : Nat} {Q : State → Prop}
variable {pc : Nat} {ls : Array Slot} {rest st0 : List Value} {a : Array Value} {A0 A1 : Nat → Prop} {H0 : Heap} {mc ms : Nat} {free : Addr → Prop} {cc : ByteArray}
theorem z_ki {v : Int32} (hr : va_Run p l e R s m args below meth c H locs cells slots 0 0 (F0 m pc ls st0) rest (zQ (some (.int v)) H a) (fun _ => False))
    (kk : W p l e R s m args below meth c H locs cells slots Q (F0 m (pc + 3) ls (.int v :: rest))) : W p l e R s m args below meth c H locs cells slots Q (F0 m pc ls st0) := by
  intro T hT X
  obtain ⟨v', st₀, t, T', L, h0, X', hL, e1, e2, ⟨hv, hh⟩, st⟩ := hr T hT X
  cases hv
  obtain ⟨t2, a1, b1⟩ := kk T' (by rw [e1, hh]) (Stand.forget X' (fun q h => (hL q h).elim))
  exact ⟨t2, st t2 a1, b1⟩
theorem z_kl {v : Int64} (hr : va_Run p l e R s m args below meth c H locs cells slots 0 0 (F0 m pc ls st0) rest (zQ (some (.long v)) H a) (fun _ => False))
    (kk : W p l e R s m args below meth c H locs cells slots Q (F0 m (pc + 3) ls (.long v :: rest))) : W p l e R s m args below meth c H locs cells slots Q (F0 m pc ls st0) := by
  intro T hT X
  obtain ⟨v', st₀, t, T', L, h0, X', hL, e1, e2, ⟨hv, hh⟩, st⟩ := hr T hT X
  cases hv
  obtain ⟨t2, a1, b1⟩ := kk T' (by rw [e1, hh]) (Stand.forget X' (fun q h => (hL q h).elim))
  exact ⟨t2, st t2 a1, b1⟩
theorem z_kd {v : UInt64} (hr : va_Run p l e R s m args below meth c H locs cells slots 0 0 (F0 m pc ls st0) rest (zQ (some (.double v)) H a) (fun _ => False))
    (kk : W p l e R s m args below meth c H locs cells slots Q (F0 m (pc + 3) ls (.double v :: rest))) : W p l e R s m args below meth c H locs cells slots Q (F0 m pc ls st0) := by
  intro T hT X
  obtain ⟨v', st₀, t, T', L, h0, X', hL, e1, e2, ⟨hv, hh⟩, st⟩ := hr T hT X
  cases hv
  obtain ⟨t2, a1, b1⟩ := kk T' (by rw [e1, hh]) (Stand.forget X' (fun q h => (hL q h).elim))
  exact ⟨t2, st t2 a1, b1⟩
theorem z_kr {v : Nat} (hr : va_Run p l e R s m args below meth c H locs cells slots 0 0 (F0 m pc ls st0) rest (zQ (some (.ref v)) H a) (fun _ => False))
    (kk : W p l e R s m args below meth c H locs cells slots Q (F0 m (pc + 3) ls (.ref v :: rest))) : W p l e R s m args below meth c H locs cells slots Q (F0 m pc ls st0) := by
  intro T hT X
  obtain ⟨v', st₀, t, T', L, h0, X', hL, e1, e2, ⟨hv, hh⟩, st⟩ := hr T hT X
  cases hv
  obtain ⟨t2, a1, b1⟩ := kk T' (by rw [e1, hh]) (Stand.forget X' (fun q h => (hL q h).elim))
  exact ⟨t2, st t2 a1, b1⟩
theorem z_mkeep {v : Option Value} {B : Heap → Prop} {v' : Option Value} {st₀ t T' : State} {L : List Loc} (h0 : st₀.heap = H) (e1 : T'.heap = t.heap) (hq : zM B v A1 a st₀ (.returned v') t) (hL : ∀ q ∈ L, free q.base) (hS : va_S A0 H0 H locs) (hA : ∀ q, q < H.size → A1 q → A0 q) (hf : ∀ q, free q → A0 q) :
    v' = v ∧ B T'.heap ∧ H.size ≤ T'.heap.size ∧ (∀ q : Nat, q < H.size → ¬ A1 q → T'.heap[q]? = H[q]?) ∧ va_S A0 H0 T'.heap (locs ++ L) := by
  obtain ⟨hv, hb, hz, hk⟩ := hq
  cases hv
  rw [h0] at hz hk
  exact ⟨rfl, by rw [e1]; exact hb, by rw [e1]; exact hz, fun q h1 h2 => by rw [e1]; exact hk q h1 h2,
    ⟨Nat.le_trans hS.1 (by rw [e1]; exact hz), fun q h1 h2 => by rw [e1, hk q (Nat.lt_of_lt_of_le h1 hS.1) (fun z => h2 (hA q (Nat.lt_of_lt_of_le h1 hS.1) z))]; exact hS.2.1 q h1 h2, fun q hq => by
      rcases List.mem_append.mp hq with h | h
      · exact hS.2.2 q h
      · exact hf _ (hL q h)⟩⟩
theorem z_mi {v : Int32} {B : Heap → Prop} (hr : va_Run p l e R s m args below meth c H locs cells slots mc ms (F0 m pc ls st0) rest (zM B (some (.int v)) A1 a) free) (hS : va_S A0 H0 H locs) (hA : ∀ q, q < H.size → A1 q → A0 q) (hf : ∀ q, free q → A0 q)
    (kk : ∀ (H1 : Heap) (locs1 : List Loc), B H1 → H.size ≤ H1.size → (∀ q : Nat, q < H.size → ¬ A1 q → H1[q]? = H[q]?) → va_S A0 H0 H1 locs1 → W p l e R s m args below meth c H1 locs1 (cells + mc) (slots + ms) Q (F0 m (pc + 3) ls (.int v :: rest))) : W p l e R s m args below meth c H locs cells slots Q (F0 m pc ls st0) := by
  intro T hT X
  obtain ⟨v', st₀, t, T', L, h0, X', hL, e1, e2, hq, st⟩ := hr T hT X
  obtain ⟨rfl, k1, k2, k3, k4⟩ := z_mkeep h0 e1 hq hL hS hA hf
  obtain ⟨t2, a1, b1⟩ := kk _ _ k1 k2 k3 k4 T' rfl X'
  exact ⟨t2, st t2 a1, b1⟩
theorem z_mv {B : Heap → Prop} (hr : va_Run p l e R s m args below meth c H locs cells slots mc ms (F0 m pc ls st0) rest (zM B none A1 a) free) (hS : va_S A0 H0 H locs) (hA : ∀ q, q < H.size → A1 q → A0 q) (hf : ∀ q, free q → A0 q)
    (kk : ∀ (H1 : Heap) (locs1 : List Loc), B H1 → H.size ≤ H1.size → (∀ q : Nat, q < H.size → ¬ A1 q → H1[q]? = H[q]?) → va_S A0 H0 H1 locs1 → W p l e R s m args below meth c H1 locs1 (cells + mc) (slots + ms) Q (F0 m (pc + 3) ls rest)) : W p l e R s m args below meth c H locs cells slots Q (F0 m pc ls st0) := by
  intro T hT X
  obtain ⟨v', st₀, t, T', L, h0, X', hL, e1, e2, hq, st⟩ := hr T hT X
  obtain ⟨rfl, k1, k2, k3, k4⟩ := z_mkeep h0 e1 hq hL hS hA hf
  obtain ⟨t2, a1, b1⟩ := kk _ _ k1 k2 k3 k4 T' rfl X'
  exact ⟨t2, st t2 a1, b1⟩
theorem z_mr {v : Nat} {B : Heap → Prop} (hr : va_Run p l e R s m args below meth c H locs cells slots mc ms (F0 m pc ls st0) rest (zM B (some (.ref v)) A1 a) free) (hS : va_S A0 H0 H locs) (hA : ∀ q, q < H.size → A1 q → A0 q) (hf : ∀ q, free q → A0 q)
    (kk : ∀ (H1 : Heap) (locs1 : List Loc), B H1 → H.size ≤ H1.size → (∀ q : Nat, q < H.size → ¬ A1 q → H1[q]? = H[q]?) → va_S A0 H0 H1 locs1 → W p l e R s m args below meth c H1 locs1 (cells + mc) (slots + ms) Q (F0 m (pc + 3) ls (.ref v :: rest))) : W p l e R s m args below meth c H locs cells slots Q (F0 m pc ls st0) := by
  intro T hT X
  obtain ⟨v', st₀, t, T', L, h0, X', hL, e1, e2, hq, st⟩ := hr T hT X
  obtain ⟨rfl, k1, k2, k3, k4⟩ := z_mkeep h0 e1 hq hL hS hA hf
  obtain ⟨t2, a1, b1⟩ := kk _ _ k1 k2 k3 k4 T' rfl X'
  exact ⟨t2, st t2 a1, b1⟩
theorem z_ml {v : Int64} {B : Heap → Prop} (hr : va_Run p l e R s m args below meth c H locs cells slots mc ms (F0 m pc ls st0) rest (zM B (some (.long v)) A1 a) free) (hS : va_S A0 H0 H locs) (hA : ∀ q, q < H.size → A1 q → A0 q) (hf : ∀ q, free q → A0 q)
    (kk : ∀ (H1 : Heap) (locs1 : List Loc), B H1 → H.size ≤ H1.size → (∀ q : Nat, q < H.size → ¬ A1 q → H1[q]? = H[q]?) → va_S A0 H0 H1 locs1 → W p l e R s m args below meth c H1 locs1 (cells + mc) (slots + ms) Q (F0 m (pc + 3) ls (.long v :: rest))) : W p l e R s m args below meth c H locs cells slots Q (F0 m pc ls st0) := by
  intro T hT X
  obtain ⟨v', st₀, t, T', L, h0, X', hL, e1, e2, hq, st⟩ := hr T hT X
  obtain ⟨rfl, k1, k2, k3, k4⟩ := z_mkeep h0 e1 hq hL hS hA hf
  obtain ⟨t2, a1, b1⟩ := kk _ _ k1 k2 k3 k4 T' rfl X'
  exact ⟨t2, st t2 a1, b1⟩
theorem z_md {v : UInt64} {B : Heap → Prop} (hr : va_Run p l e R s m args below meth c H locs cells slots mc ms (F0 m pc ls st0) rest (zM B (some (.double v)) A1 a) free) (hS : va_S A0 H0 H locs) (hA : ∀ q, q < H.size → A1 q → A0 q) (hf : ∀ q, free q → A0 q)
    (kk : ∀ (H1 : Heap) (locs1 : List Loc), B H1 → H.size ≤ H1.size → (∀ q : Nat, q < H.size → ¬ A1 q → H1[q]? = H[q]?) → va_S A0 H0 H1 locs1 → W p l e R s m args below meth c H1 locs1 (cells + mc) (slots + ms) Q (F0 m (pc + 3) ls (.double v :: rest))) : W p l e R s m args below meth c H locs cells slots Q (F0 m pc ls st0) := by
  intro T hT X
  obtain ⟨v', st₀, t, T', L, h0, X', hL, e1, e2, hq, st⟩ := hr T hT X
  obtain ⟨rfl, k1, k2, k3, k4⟩ := z_mkeep h0 e1 hq hL hS hA hf
  obtain ⟨t2, a1, b1⟩ := kk _ _ k1 k2 k3 k4 T' rfl X'
  exact ⟨t2, st t2 a1, b1⟩
/-- the top of the stack by another name -/
theorem z_toi {x y : Int32} (h : x = y) (k : W p l e R s m args below meth c H locs cells slots Q (F0 m pc ls (.int y :: rest))) : W p l e R s m args below meth c H locs cells slots Q (F0 m pc ls (.int x :: rest)) := h ▸ k
theorem z_tol {x y : Int64} (h : x = y) (k : W p l e R s m args below meth c H locs cells slots Q (F0 m pc ls (.long y :: rest))) : W p l e R s m args below meth c H locs cells slots Q (F0 m pc ls (.long x :: rest)) := h ▸ k
theorem z_tor {x y : Nat} (h : x = y) (k : W p l e R s m args below meth c H locs cells slots Q (F0 m pc ls (.ref y :: rest))) : W p l e R s m args below meth c H locs cells slots Q (F0 m pc ls (.ref x :: rest)) := h ▸ k
/-- ends -/
theorem z_iret {v : Int32} (hx : p.tables.exec = Jvm.exec) (hb : c.code = cc) (hr : meth.sig.returnType = some .int) (hlocks : meth.locks = false) (hdg : decode cc pc = .ok (.ireturn, 1)) : W p l e R s m args below meth c H [] 0 0 (MQ below (zQ (some (.int v)) H) args s 0 0 (fun _ => False)) (F0 m pc ls [.int v]) :=
  W.iret hx hb hr (fun t ht _ => ⟨rfl, ht⟩) (fun q h => absurd h List.not_mem_nil) hdg hlocks
theorem z_zret {v : Int32} {ty : FieldType} (hx : p.tables.exec = Jvm.exec) (hb : c.code = cc) (hr : meth.sig.returnType = some ty) (hn : narrow ty (.int v) = .int v) (hlocks : meth.locks = false) (hdg : decode cc pc = .ok (.ireturn, 1)) : W p l e R s m args below meth c H [] 0 0 (MQ below (zQ (some (.int v)) H) args s 0 0 (fun _ => False)) (F0 m pc ls [.int v]) :=
  W.zret hx hb hr hn (fun t ht _ => ⟨rfl, ht⟩) (fun q h => absurd h List.not_mem_nil) hdg hlocks
theorem z_vret (hx : p.tables.exec = Jvm.exec) (hb : c.code = cc) (hr : meth.sig.returnType = none) (hlocks : meth.locks = false) (hdg : decode cc pc = .ok (.return_, 1)) : W p l e R s m args below meth c H [] 0 0 (MQ below (zQ none H) args s 0 0 (fun _ => False)) (F0 m pc ls []) :=
  W.vret hx hb hr (fun t ht _ => ⟨rfl, ht⟩) (fun q h => absurd h List.not_mem_nil) hdg hlocks
theorem z_lret {v : Int64} (hx : p.tables.exec = Jvm.exec) (hb : c.code = cc) (hr : meth.sig.returnType = some .long) (hlocks : meth.locks = false) (hdg : decode cc pc = .ok (.lreturn, 1)) : W p l e R s m args below meth c H [] 0 0 (MQ below (zQ (some (.long v)) H) args s 0 0 (fun _ => False)) (F0 m pc ls [.long v]) :=
  W.lret hx hb hr (fun t ht _ => ⟨rfl, ht⟩) (fun q h => absurd h List.not_mem_nil) hdg hlocks
theorem z_dret {v : UInt64} (hx : p.tables.exec = Jvm.exec) (hb : c.code = cc) (hr : meth.sig.returnType = some .double) (hlocks : meth.locks = false) (hdg : decode cc pc = .ok (.dreturn, 1)) : W p l e R s m args below meth c H [] 0 0 (MQ below (zQ (some (.double v)) H) args s 0 0 (fun _ => False)) (F0 m pc ls [.double v]) :=
  W.dret hx hb hr (fun t ht _ => ⟨rfl, ht⟩) (fun q h => absurd h List.not_mem_nil) hdg hlocks
theorem z_aret {v : Nat} {rt : FieldType} (hx : p.tables.exec = Jvm.exec) (hb : c.code = cc) (hr : meth.sig.returnType = some rt) (hrt : (∃ n, rt = .object n) ∨ ∃ t, rt = .array t) (hlocks : meth.locks = false) (hdg : decode cc pc = .ok (.areturn, 1)) : W p l e R s m args below meth c H [] 0 0 (MQ below (zQ (some (.ref v)) H) args s 0 0 (fun _ => False)) (F0 m pc ls [.ref v]) :=
  W.aret hx hb hr hrt (Or.inr ⟨v, rfl⟩) (fun t ht _ => ⟨rfl, ht⟩) (fun q h => absurd h List.not_mem_nil) hdg hlocks
theorem z_iretM {v : Int32} {B : Heap → Prop} {A : Nat → Prop} (hB : B H) (hx : p.tables.exec = Jvm.exec) (hb : c.code = cc) (hr : meth.sig.returnType = some .int) (hlocks : meth.locks = false) (hS : va_S A s.heap H locs) (hdg : decode cc pc = .ok (.ireturn, 1)) : W p l e R s m args below meth c H locs cells slots (MQ below (zM B (some (.int v)) A) args s cells slots A) (F0 m pc ls [.int v]) :=
  W.iret hx hb hr (fun t ht _ => ⟨rfl, by rw [ht]; exact hB, hS.F ht⟩) hS.2.2 hdg hlocks
theorem z_zretM {v : Int32} {ty : FieldType} {B : Heap → Prop} {A : Nat → Prop} (hB : B H) (hx : p.tables.exec = Jvm.exec) (hb : c.code = cc) (hr : meth.sig.returnType = some ty) (hn : narrow ty (.int v) = .int v) (hlocks : meth.locks = false) (hS : va_S A s.heap H locs) (hdg : decode cc pc = .ok (.ireturn, 1)) : W p l e R s m args below meth c H locs cells slots (MQ below (zM B (some (.int v)) A) args s cells slots A) (F0 m pc ls [.int v]) :=
  W.zret hx hb hr hn (fun t ht _ => ⟨rfl, by rw [ht]; exact hB, hS.F ht⟩) hS.2.2 hdg hlocks
theorem z_vretM {B : Heap → Prop} {A : Nat → Prop} (hB : B H) (hx : p.tables.exec = Jvm.exec) (hb : c.code = cc) (hr : meth.sig.returnType = none) (hlocks : meth.locks = false) (hS : va_S A s.heap H locs) (hdg : decode cc pc = .ok (.return_, 1)) : W p l e R s m args below meth c H locs cells slots (MQ below (zM B none A) args s cells slots A) (F0 m pc ls []) :=
  W.vret hx hb hr (fun t ht _ => ⟨rfl, by rw [ht]; exact hB, hS.F ht⟩) hS.2.2 hdg hlocks
theorem z_lretM {v : Int64} {B : Heap → Prop} {A : Nat → Prop} (hB : B H) (hx : p.tables.exec = Jvm.exec) (hb : c.code = cc) (hr : meth.sig.returnType = some .long) (hlocks : meth.locks = false) (hS : va_S A s.heap H locs) (hdg : decode cc pc = .ok (.lreturn, 1)) : W p l e R s m args below meth c H locs cells slots (MQ below (zM B (some (.long v)) A) args s cells slots A) (F0 m pc ls [.long v]) :=
  W.lret hx hb hr (fun t ht _ => ⟨rfl, by rw [ht]; exact hB, hS.F ht⟩) hS.2.2 hdg hlocks
theorem z_dretM {v : UInt64} {B : Heap → Prop} {A : Nat → Prop} (hB : B H) (hx : p.tables.exec = Jvm.exec) (hb : c.code = cc) (hr : meth.sig.returnType = some .double) (hlocks : meth.locks = false) (hS : va_S A s.heap H locs) (hdg : decode cc pc = .ok (.dreturn, 1)) : W p l e R s m args below meth c H locs cells slots (MQ below (zM B (some (.double v)) A) args s cells slots A) (F0 m pc ls [.double v]) :=
  W.dret hx hb hr (fun t ht _ => ⟨rfl, by rw [ht]; exact hB, hS.F ht⟩) hS.2.2 hdg hlocks
theorem z_aretM {v : Nat} {rt : FieldType} {B : Heap → Prop} {A : Nat → Prop} (hB : B H) (hx : p.tables.exec = Jvm.exec) (hb : c.code = cc) (hr : meth.sig.returnType = some rt) (hrt : (∃ n, rt = .object n) ∨ ∃ t, rt = .array t) (hlocks : meth.locks = false) (hS : va_S A s.heap H locs) (hdg : decode cc pc = .ok (.areturn, 1)) : W p l e R s m args below meth c H locs cells slots (MQ below (zM B (some (.ref v)) A) args s cells slots A) (F0 m pc ls [.ref v]) :=
  W.aret hx hb hr hrt (Or.inr ⟨v, rfl⟩) (fun t ht _ => ⟨rfl, by rw [ht]; exact hB, hS.F ht⟩) hS.2.2 hdg hlocks
end ZB
/-- comparisons of small numbers -/
theorem z_le {a b : Nat} (c : nI a ≤ nI b) (ha : a < 2147483648) (hb : b < 2147483648) : a ≤ b := (nI_leI ha hb).mp c
theorem z_nle {a b : Nat} (c : ¬ nI a ≤ nI b) (ha : a < 2147483648) (hb : b < 2147483648) : b < a := Nat.lt_of_not_le fun h => c ((nI_leI ha hb).mpr h)
theorem z_lt {a b : Nat} (c : nI a < nI b) (ha : a < 2147483648) (hb : b < 2147483648) : a < b := (nI_ltI ha hb).mp c
theorem z_nlt {a b : Nat} (c : ¬ nI a < nI b) (ha : a < 2147483648) (hb : b < 2147483648) : b ≤ a := Nat.le_of_not_lt fun h => c ((nI_ltI ha hb).mpr h)
theorem z_eq {a b : Nat} (c : nI a = nI b) (ha : a < 2147483648) (hb : b < 2147483648) : a = b := (nI_eq ha hb).mp c
theorem z_ne {a b : Nat} (c : ¬ nI a = nI b) (ha : a < 2147483648) (hb : b < 2147483648) : ¬ a = b := fun h => c ((nI_eq ha hb).mpr h)
theorem z_re {ls : Array Slot} {n : Nat} {l l' : List (Nat × Value)} (h : lv_has ls n l) (e : l = l') : lv_has ls n l' := e ▸ h
/-- intervals of addresses -/
def zF (lo hi : Nat) : Nat → Prop := fun q => lo ≤ q ∧ q < hi
end
section
/-! rows that write one cell and say that all others stay; worlds that lie side by side -/
theorem z_one {D : va_G} {cl : List vw_C} {q : Nat × va_E} {H : Heap} (h : va_at D cl q H) : va_P D cl [q] H := by
  intro k x hk
  cases k with
  | zero => cases hk; exact h
  | succ k => simp at hk
theorem z_nil {D : va_G} {cl : List vw_C} {H : Heap} : va_P D cl [] H := fun k q h => by simp at h
theorem z_left {D : va_G} {cl : List vw_C} {w1 w2 : va_W} {H : Heap} (h : va_P D cl (w1 ++ w2) H) : va_P D cl w1 H := fun k q hk => h k q (by
  have hl := (List.getElem?_eq_some_iff.mp hk).1
  rw [List.getElem?_append_left hl]; exact hk)
theorem z_right {D : va_G} {cl : List vw_C} {w1 w2 : va_W} {H : Heap} (h : va_P D cl (w1 ++ w2) H) : va_P D cl w2 H := fun k q hk => h (w1.length + k) q (by
  rw [List.getElem?_append_right (by omega), show w1.length + k - w1.length = k by omega]; exact hk)
/-- a world whose k-th cell lies at b + k -/
def zC (b : Nat) (ws : va_W) : Prop := ∀ (k : Nat) (q : Nat × va_E), ws[k]? = some q → q.1 = b + k
theorem zC_nil {b : Nat} : zC b [] := fun k q h => by simp at h
theorem zC_cons {b : Nat} {e : va_E} {ws : va_W} (h : zC (b + 1) ws) : zC b ((b, e) :: ws) := by
  intro k q hk
  cases k with
  | zero => cases hk; rfl
  | succ k => have := h k q (by simpa using hk); omega
theorem z_kept {D : va_G} {cl : List vw_C} {b : Nat} {ws : va_W} {H H1 : Heap} (hc : zC b ws) (h : va_P D cl ws H) (hf : ∀ q, q < H.size → b ≤ q → q < b + ws.length → H1[q]? = H[q]?) : va_P D cl ws H1 := by
  refine h.kept (fun k q hk => hf q.1 (h k q hk).lt ?_ ?_)
  · rw [hc k q hk]; omega
  · have hl := (List.getElem?_eq_some_iff.mp hk).1
    rw [hc k q hk]; omega
theorem z_set {D : va_G} {cl : List vw_C} {b a : Nat} {e0 e : va_E} {ws : va_W} {H H1 : Heap} (hc : zC b ws) (h : va_P D cl ws H) (k : Nat) (hk : ws[k]? = some (a, e0)) (he : va_P D cl [(a, e)] H1) (hf : ∀ q, q < H.size → q ≠ a → H1[q]? = H[q]?) : va_P D cl (ws.set k (a, e)) H1 := by
  have hl := (List.getElem?_eq_some_iff.mp hk).1
  intro j q hj
  by_cases hjk : j = k
  · subst hjk
    rw [List.getElem?_set_self hl] at hj
    cases hj
    exact he 0 _ rfl
  · rw [List.getElem?_set_ne (Ne.symm hjk)] at hj
    refine (h j q hj).kept (hf q.1 (h j q hj).lt ?_)
    have h1 := hc j q hj
    have h2 : a = b + k := hc k _ hk
    omega
theorem z_splice {D : va_G} {cl : List vw_C} {b : Nat} {w1 w2 w2' w3 : va_W} {H H1 : Heap} (hc : zC b (w1 ++ (w2 ++ w3))) (h : va_P D cl (w1 ++ (w2 ++ w3)) H) (he : va_P D cl w2' H1) (hf : ∀ q, q < H.size → ¬ (b + w1.length ≤ q ∧ q < b + w1.length + w2.length) → H1[q]? = H[q]?) : va_P D cl (w1 ++ (w2' ++ w3)) H1 := by
  refine ((z_left h).kept (fun k q hk => hf q.1 (z_left h k q hk).lt ?_)).app (he.app ((z_right (z_right h)).kept (fun k q hk => hf q.1 (z_right (z_right h) k q hk).lt ?_)))
  · have hl := (List.getElem?_eq_some_iff.mp hk).1
    have := hc k q (by rw [List.getElem?_append_left hl]; exact hk)
    omega
  · have := hc (w1.length + (w2.length + k)) q (by
      rw [List.getElem?_append_right (by omega), List.getElem?_append_right (by omega), show w1.length + (w2.length + k) - w1.length - w2.length = k by omega]; exact hk)
    omega
theorem z_Sgrow {A : Nat → Prop} {H0 H H1 : Heap} {locs : List Loc} (h : va_S A H0 H locs) (hz : H.size ≤ H1.size) (hf : ∀ q, q < H.size → H1[q]? = H[q]?) : va_S A H0 H1 locs :=
  ⟨Nat.le_trans h.1 hz, fun q h1 h2 => (hf q (Nat.lt_of_lt_of_le h1 h.1)).trans (h.2.1 q h1 h2), h.2.2⟩
/-- an array's contents matter below its length alone -/
theorem z_arr_ext {D : va_G} {cl : List vw_C} {a n : Nat} {cI : ClassId} {f g : Nat → Int32} {H : Heap} (h : va_P D cl [(a, .inl (cI, n, .inl f))] H) (e : ∀ j, j < n → f j = g j) : va_P D cl [(a, .inl (cI, n, .inl g))] H := by
  have h0 : H[a]? = some (vp_cell cI (n, .inl f)) := h 0 _ rfl
  refine z_one ?_
  show H[a]? = some (vp_cell cI (n, .inl g))
  rw [h0, vp_cell_i, vp_cell_i]
  unfold arrV
  congr 2
  exact Array.ext (by simp) (fun i h1 h2 => by simp at h1 ⊢; exact e i h1)
section ZR
variable {p : Program} {l : Launch} {e : Env} {R : Room} {s : State} {m : MethodId} {args : Array Value} {below : List Frame} {meth : Method} {c : Code} {H : Heap} {locs : List Loc} {cells slots : Nat} {Q : State → Prop}
variable {pc : Nat} {ls : Array Slot} {rest : List Value} {A : Nat → Prop} {H0 : Heap} {cc : ByteArray} {D : va_G} {cl : List vw_C} {tys : List (ClassId × FieldType)} {ws : va_W} {a : Nat}
theorem z_put (hexec : p.tables.exec = Jvm.exec) (hb : c.code = cc) {own ref C : String} {T : u_T} {N ci index : Nat} {Ts : List Cond} (hts : ∀ w ∈ Ts, w.before args s = true) (hin : ∀ w ∈ u_ws C T N, w ∈ Ts) (ty0 : Nat → FieldType) (hty : ∀ k, k < N → parseFieldDescriptor (T k).2.2.1 = some (ty0 k)) (hnm : ∀ a, a < N → ∀ b, b < N → a ≠ b → (T a).2.1 ≠ (T b).2.1) (hown : s.vm.findClass own = some m.cls) (hK : va_K D cl tys s) (hP : va_P D cl ws H) (hA : A a) (hS : va_S A H0 H locs) (q0 : Nat) {fs : List Value} (he : ws[q0]? = some (a, .inr (ci, fs))) (hc : cl[ci]? = some (C, T, N)) (k : Nat) (hk : k < N) (hlink : (Cond.fieldLink own index ref (T k).2.1 (T k).2.2.1).before args s = true) (hsame : ∀ x, s.fieldFound? (T k).1 (T k).2.1 (T k).2.2.1 = some x → s.fieldFound? ref (T k).2.1 (T k).2.2.1 = some x) (hfin : (T k).2.2.2 = false) {ty : FieldType} {v : Value} (hd : parseFieldDescriptor (T k).2.2.1 = some ty) (hn : narrow ty v = v) (hfit : fits ty v = true) (hl : k < fs.length) (hdg : decode cc pc = .ok (.putfield index, 3))
    (kk : ∀ (H1 : Heap) (locs1 : List Loc), va_P D cl [(a, .inr (ci, fs.set k v))] H1 → H1.size = H.size → (∀ q, q ≠ a → H1[q]? = H[q]?) → va_S A H0 H1 locs1 → W p l e R s m args below meth c H1 locs1 cells slots Q (F0 m (pc + 3) ls rest)) : W p l e R s m args below meth c H locs cells slots Q (F0 m pc ls (v :: .ref a :: rest)) := by
  have hap := va_apart (own := own) hts hin ty0 hty hnm hK hc
  obtain ⟨r, h1, cell, q1, q2, q3, q4⟩ := hP q0 _ he
  obtain rfl : r = (C, T, N) := Option.some.inj (h1.symm.trans hc)
  obtain ⟨hSl, hfc, kC, hkC, hkind⟩ := hK.1 ci _ hc
  obtain ⟨cf, kf, fi, f, hi, hsl⟩ := hSl k hk
  have hlay := hts _ (hin _ (u_in_lay hk))
  unfold u_lay at hlay
  rw [if_neg (by rw [hfin]; decide)] at hlay
  refine W.putK hexec hb (f := f) ⟨hown, hlink, ⟨_, _, _, hsame _ hi⟩, (u_facts hfc hkC (u_lays hts hin hk) hi).1⟩ (by rw [q2]; exact u_store hfc hkC hkind hlay hi hd hn hfit) q1 q3 (by rw [hsl]; exact k2_hasslot (q4 k hk)) rfl rfl hdg fun H' e1 e2 e3 => ?_
  rw [hsl] at e1 ⊢
  exact kk H' _ (z_one ⟨_, hc, t_OB.to (V := updV (vp_V fs) k v) ⟨_, e1, q2, q3, t_set q4 hap hk v⟩ (fun j _ => vp_updV_set hl v j)⟩) e2 e3 (hS.put e2 e3 hA)
theorem z_putF (hexec : p.tables.exec = Jvm.exec) (hb : c.code = cc) {own ref C : String} {T : u_T} {N ci index : Nat} {Ts : List Cond} (hts : ∀ w ∈ Ts, w.before args s = true) (hin : ∀ w ∈ u_ws C T N, w ∈ Ts) (ty0 : Nat → FieldType) (hty : ∀ k, k < N → parseFieldDescriptor (T k).2.2.1 = some (ty0 k)) (hnm : ∀ a, a < N → ∀ b, b < N → a ≠ b → (T a).2.1 ≠ (T b).2.1) (hown : s.vm.findClass own = some m.cls) (hK : va_K D cl tys s) (hP : va_P D cl ws H) (hA : A a) (hS : va_S A H0 H locs) (q0 : Nat) {fs : List Value} (he : ws[q0]? = some (a, .inr (ci, fs))) (hc : cl[ci]? = some (C, T, N)) (k : Nat) (hk : k < N) (hlink : (Cond.fieldLink own index ref (T k).2.1 (T k).2.2.1).before args s = true) (hsame : ∀ x, s.fieldFound? (T k).1 (T k).2.1 (T k).2.2.1 = some x → s.fieldFound? ref (T k).2.1 (T k).2.2.1 = some x) (hfin : (T k).2.2.2 = true) (hin2 : meth.name = "<init>") (hdecl : (T k).1 = own) {ty : FieldType} {v : Value} (hd : parseFieldDescriptor (T k).2.2.1 = some ty) (hn : narrow ty v = v) (hfit : fits ty v = true) (hl : k < fs.length) (hdg : decode cc pc = .ok (.putfield index, 3))
    (kk : ∀ (H1 : Heap) (locs1 : List Loc), va_P D cl [(a, .inr (ci, fs.set k v))] H1 → H1.size = H.size → (∀ q, q ≠ a → H1[q]? = H[q]?) → va_S A H0 H1 locs1 → W p l e R s m args below meth c H1 locs1 cells slots Q (F0 m (pc + 3) ls rest)) : W p l e R s m args below meth c H locs cells slots Q (F0 m pc ls (v :: .ref a :: rest)) := by
  have hap := va_apart (own := own) hts hin ty0 hty hnm hK hc
  obtain ⟨r, h1, cell, q1, q2, q3, q4⟩ := hP q0 _ he
  obtain rfl : r = (C, T, N) := Option.some.inj (h1.symm.trans hc)
  obtain ⟨hSl, hfc, kC, hkC, hkind⟩ := hK.1 ci _ hc
  obtain ⟨cf, kf, fi, f, hi, hsl⟩ := hSl k hk
  have hlay := hts _ (hin _ (u_in_lay hk))
  unfold u_lay at hlay
  rw [if_pos hfin] at hlay
  have hcf : m.cls = cf := by
    obtain ⟨_, _, c', _, _, _, -, -, hf', -, -, -, hown2, -⟩ := Cond.laysFinal_spec hlay
    have e1 : c' = cf := by have := hi.symm.trans hf'; simp at this; exact this.1.symm
    rw [hdecl] at hown2
    rw [← e1]; exact Option.some.inj (hown.symm.trans hown2)
  refine W.putFinK hexec hb hown hlink (hsame _ hi) (u_facts hfc hkC (u_lays hts hin hk) hi).1 hcf hin2 (by rw [q2]; exact u_fits hfc hkC hkind (Or.inr hlay) hi hd hn hfit) q1 q3 (by rw [hsl]; exact k2_hasslot (q4 k hk)) rfl rfl hdg fun H' e1 e2 e3 => ?_
  rw [hsl] at e1 ⊢
  exact kk H' _ (z_one ⟨_, hc, t_OB.to (V := updV (vp_V fs) k v) ⟨_, e1, q2, q3, t_set q4 hap hk v⟩ (fun j _ => vp_updV_set hl v j)⟩) e2 e3 (hS.put e2 e3 hA)
theorem z_iast (hexec : p.tables.exec = Jvm.exec) (hb : c.code = cc) (hK : va_K D cl tys s) (hP : va_P D cl ws H) (hA : A a) (hS : va_S A H0 H locs) (q0 t0 : Nat) {cA : ClassId} {n : Nat} {f : Nat → Int32} (ha : ws[q0]? = some (a, .inl (cA, n, .inl f))) (ht : tys[t0]? = some (cA, .int)) {i : Int32} {x : Int32} {j : Nat} (hj : i = nI j) (hjn : j < n) (hn : n < 2147483648) (hdg : decode cc pc = .ok (.iastore, 1))
    (kk : ∀ (H1 : Heap) (locs1 : List Loc), va_P D cl [(a, .inl (cA, n, .inl (upd f j x)))] H1 → H1.size = H.size → (∀ q, q ≠ a → H1[q]? = H[q]?) → va_S A H0 H1 locs1 → W p l e R s m args below meth c H1 locs1 cells slots Q (F0 m (pc + 1) ls rest)) : W p l e R s m args below meth c H locs cells slots Q (F0 m pc ls (.int x :: .int i :: .ref a :: rest)) := by
  subst hj
  have hcl : (nI j).toNatClampNeg = j := nI_clamp (by omega)
  refine W.iast hexec hb (hP q0 _ ha) ((hK.2 t0 _ ht).1 n (fun j => .int (f j))) (fun q => by cases q) (by show ¬ (_ ∨ (arrV _ _ _).slots.size ≤ _); rw [arrV_size]; exact vp_in_nI hjn hn) rfl rfl hdg fun H1 e z oq => ?_
  rw [hcl] at e ⊢
  refine kk H1 _ (z_one ?_) z oq (hS.put z oq hA)
  show H1[a]? = some (vp_cell _ _)
  rw [e, vp_cell_i, vp_cell_i, arrV_store]
  congr 2
  funext q
  by_cases hq : q = j
  · subst hq
    simp [updV, upd]
  · simp [updV, upd, hq]
theorem z_last (hexec : p.tables.exec = Jvm.exec) (hb : c.code = cc) (hK : va_K D cl tys s) (hP : va_P D cl ws H) (hA : A a) (hS : va_S A H0 H locs) (q0 t0 : Nat) {cA : ClassId} {n : Nat} {f : Nat → Int64} (ha : ws[q0]? = some (a, .inl (cA, n, .inr (.inl f)))) (ht : tys[t0]? = some (cA, .long)) {i : Int32} {x : Int64} {j : Nat} (hj : i = nI j) (hjn : j < n) (hn : n < 2147483648) (hdg : decode cc pc = .ok (.lastore, 1))
    (kk : ∀ (H1 : Heap) (locs1 : List Loc), va_P D cl [(a, .inl (cA, n, .inr (.inl (vp_updL f j x))))] H1 → H1.size = H.size → (∀ q, q ≠ a → H1[q]? = H[q]?) → va_S A H0 H1 locs1 → W p l e R s m args below meth c H1 locs1 cells slots Q (F0 m (pc + 1) ls rest)) : W p l e R s m args below meth c H locs cells slots Q (F0 m pc ls (.long x :: .int i :: .ref a :: rest)) := by
  subst hj
  have hcl : (nI j).toNatClampNeg = j := nI_clamp (by omega)
  refine W.last hexec hb (hP q0 _ ha) ((hK.2 t0 _ ht).1 n (fun j => .long (f j))) (fun q => by cases q) (by show ¬ (_ ∨ (arrV _ _ _).slots.size ≤ _); rw [arrV_size]; exact vp_in_nI hjn hn) rfl rfl hdg fun H1 e z oq => ?_
  rw [hcl] at e ⊢
  refine kk H1 _ (z_one ?_) z oq (hS.put z oq hA)
  show H1[a]? = some (vp_cell _ _)
  rw [e, vp_cell_l, vp_cell_l, arrV_store]
  congr 2
  funext q
  by_cases hq : q = j
  · subst hq
    simp [updV, vp_updL]
  · simp [updV, vp_updL, hq]
theorem z_iald (hexec : p.tables.exec = Jvm.exec) (hb : c.code = cc) (hK : va_K D cl tys s) (hP : va_P D cl ws H) (q0 t0 : Nat) {cA : ClassId} {n : Nat} {f : Nat → Int32} (ha : ws[q0]? = some (a, .inl (cA, n, .inl f))) (ht : tys[t0]? = some (cA, .int)) {i : Int32} {j : Nat} (hj : i = nI j) (hjn : j < n) (hn : n < 2147483648) (hdg : decode cc pc = .ok (.iaload, 1))
    (kk : W p l e R s m args below meth c H locs cells slots Q (F0 m (pc + 1) ls (.int (f j) :: rest))) : W p l e R s m args below meth c H locs cells slots Q (F0 m pc ls (.int i :: .ref a :: rest)) := by
  subst hj
  have hcl : (nI j).toNatClampNeg = j := nI_clamp (by omega)
  refine va_iald hexec hb hK hP q0 t0 ha ht (vp_in_nI hjn hn) hdg ?_
  rw [hcl]
  exact kk
theorem z_new {c0 : Code} (hexec : p.tables.exec = Jvm.exec) (hb : c0.code = cc) {own C : String} {T : u_T} {N ci index : Nat} {Ts : List Cond} (hts : ∀ w ∈ Ts, w.before args s = true) (hin : ∀ w ∈ u_ws C T N, w ∈ Ts) (ty : Nat → FieldType) (hty : ∀ k, k < N → parseFieldDescriptor (T k).2.2.1 = some (ty k)) (hown : s.vm.findClass own = some m.cls) (hcl : (Cond.classLink own index C).before args s = true) (hinst : (Cond.instantiable C N).before args s = true) (hini : (Cond.initialized C).before args s = true)
    (hK : va_K D cl tys s) (hc : cl[ci]? = some (C, T, N)) {fs : List Value} (hfs : ∀ j, j < N → defaultValue (ty j) = vp_V fs j) (hcells : cells + 1 ≤ R.cells) (hslots : slots + N ≤ R.slots) (hdg : decode cc pc = .ok (.new index, 3)) {h : Nat} (hh : H.size = h)
    (kk : ∀ (H1 : Heap), va_P D cl [(h, .inr (ci, fs))] H1 → H1.size = h + 1 → (∀ q, q < h → H1[q]? = H[q]?) →
      W p l e R s m args below meth c0 H1 locs (cells + 1) (slots + N) Q (F0 m (pc + 3) ls (.ref h :: rest))) : W p l e R s m args below meth c0 H locs cells slots Q (F0 m pc ls rest) := by
  have hKn := hK.1 ci _ hc
  refine W.newcK hexec hb hown hcl hinst hini rfl hdg hcells hslots hKn.2.1 hh fun H1 kC hkC e1 z1 o1 => ?_
  exact kk H1 (z_one ⟨_, hc, (u_born ty hts hin hKn hkC e1 hty).to hfs⟩) z1 o1
theorem z_newi (hexec : p.tables.exec = Jvm.exec) (hb : c.code = cc) (harr : (Cond.arrayClass .int).before args s = true) (hK : va_K D cl tys s) (t0 : Nat) {cI : ClassId} (ht : tys[t0]? = some (cI, .int)) {n : Int32} {N : Nat} (hn : n = nI N) (hN : N < 100000) (hcells : cells + 1 ≤ R.cells) (hslots : slots + N ≤ R.slots) (hdg : decode cc pc = .ok (.newarray .int, 2)) {h : Nat} (hh : H.size = h)
    (kk : ∀ (H1 : Heap), va_P D cl [(h, .inl (cI, N, .inl (fun _ => 0)))] H1 → H1.size = h + 1 → (∀ q, q < h → H1[q]? = H[q]?) →
      W p l e R s m args below meth c H1 locs (cells + 1) (slots + N) Q (F0 m (pc + 2) ls (.ref h :: rest))) : W p l e R s m args below meth c H locs cells slots Q (F0 m pc ls (.int n :: rest)) := by
  subst hn
  have hcl : (nI N).toNatClampNeg = N := nI_clamp (by omega)
  refine va_newaK (atype := .int) (N := N) hexec hb harr rfl hdg rfl (nI_pos (by omega)) hcl (by show N * 4 ≤ _; omega) hcells hslots hh fun H1 cA e1 z1 o1 hAr hNm => ?_
  have hcA : cA = cI := by
    have h2 : s.vm.findClass ("[" ++ (FieldType.int).toString) = some cI := (hK.2 t0 _ ht).2
    exact Option.some.inj (hNm.symm.trans h2)
  subst hcA
  exact kk H1 (z_one e1) z1 o1
theorem z_alen (hexec : p.tables.exec = Jvm.exec) (hb : c.code = cc) (hK : va_K D cl tys s) (hP : va_P D cl ws H) (q0 t0 : Nat) {cA : ClassId} {n : Nat} {f : Nat → Int32} (ha : ws[q0]? = some (a, .inl (cA, n, .inl f))) (ht : tys[t0]? = some (cA, .int)) (hdg : decode cc pc = .ok (.arraylength, 1))
    (kk : W p l e R s m args below meth c H locs cells slots Q (F0 m (pc + 1) ls (.int (nI n) :: rest))) : W p l e R s m args below meth c H locs cells slots Q (F0 m pc ls (.ref a :: rest)) :=
  va_alen hexec hb hK hP q0 t0 ha ht rfl hdg kk
end ZR
end
section
/-! what class and reference say, in numbers. Columns of zG: 0 first half, 1 last half, 2 and 3 from whom, 4 and 5 over how many, 6 how sure -/
abbrev zG : Type := Nat → Nat → Int32
def z2 (g : zG) (w p : Nat) (x : Int32) : zG := fun k => if k = w then upd (g w) p x else g k
theorem z2_same (g : zG) (w p : Nat) (x : Int32) : z2 g w p x w = upd (g w) p x := by simp [z2]
theorem z2_ne (g : zG) {w k p : Nat} {x : Int32} (h : k ≠ w) : z2 g w p x k = g k := by simp [z2, h]
def zmin (a b : Int32) : Int32 := if b < a then b else a
def zmax (a b : Int32) : Int32 := if a < b then b else a
def zrem (a b : Int32) : Int32 := a - a / b * b
/-- the word of a parrot -/
def wd (g : zG) (p : Nat) : Int32 := g 0 p * 100 + g 1 p
/-- how many of the first k parrots say w -/
def vt (g : zG) (w : Int32) : Nat → Nat
  | 0 => 0
  | k + 1 => if wd g k = w then vt g w k + 1 else vt g w k
/-- the loudest of the first k to which p listens -/
def hd (lo : Nat → Int32) (e : Nat → Nat) (p : Nat) : Nat → Option Nat
  | 0 => none
  | k + 1 => match hd lo e p k with
    | none => some (e (p * 4 + k))
    | some b => if lo b < lo (e (p * 4 + k)) then some (e (p * 4 + k)) else some b
def zo : Option Nat → Int32
  | none => -1
  | some q => nI q
/-- the first place below k at which p listens to o -/
def po (e : Nat → Nat) (p o : Nat) : Nat → Option Nat
  | 0 => none
  | k + 1 => match po e p o k with
    | some j => some j
    | none => if e (p * 4 + k) = o then some k else none
/-- how many of the first k listen to p -/
def ln (c e : Nat → Nat) (p : Nat) : Nat → Nat
  | 0 => 0
  | k + 1 => if po e k p (c k) = none then ln c e p k else ln c e p k + 1
/-- none of the first k says p's word -/
def nw (g : zG) (p : Nat) : Nat → Bool
  | 0 => true
  | k + 1 => nw g p k && !decide (wd g k = wd g p)
/-- different words of the first k -/
def dw (g : zG) : Nat → Nat
  | 0 => 0
  | k + 1 => if nw g k k = true then dw g k + 1 else dw g k
/-- halves of the first k that are from the court -/
def ct (g : zG) : Nat → Nat
  | 0 => 0
  | k + 1 => ct g k + (if g 2 k = -1 then 1 else 0) + (if g 3 k = -1 then 1 else 0)
/-- how sure the first k are -/
def su (g : zG) : Nat → Int32
  | 0 => 0
  | k + 1 => su g k + g 6 k
/-- halves of w of the first k -/
def lf (g : zG) (w : Int32) : Nat → Nat
  | 0 => 0
  | k + 1 => lf g w k + (if g 0 k = w / 100 then 1 else 0) + (if g 1 k = zrem w 100 then 1 else 0)
/-- the word that the most say, of the first k -/
def vd (g : zG) (n : Nat) : Nat → Option Int32
  | 0 => none
  | k + 1 => match vd g n k with
    | none => some (wd g k)
    | some b => if vt g b n < vt g (wd g k) n then some (wd g k) else some b
def zw : Option Int32 → Int32
  | none => -1
  | some w => w
/-- one parrot hears -/
def stH (lo : Nat → Int32) (c e : Nat → Nat) (g0 : zG) (p : Nat) (s : Int32 × zG) : Int32 × zG :=
  match hd lo e p (c p) with
  | none => s
  | some o =>
    if wd g0 p = wd g0 o then (s.1, z2 s.2 6 p (zmin (g0 6 p + 1) 9))
    else if g0 6 o < g0 6 p then (s.1, z2 s.2 6 p (g0 6 p - 1))
    else (s.1 + 1, z2 (z2 (z2 (z2 s.2 (p % 2) p (g0 (p % 2) o)) (2 + p % 2) p (nI o)) (4 + p % 2) p (zmin (g0 (4 + p % 2) o + 1) 99)) 6 p 1)
def hA (lo : Nat → Int32) (c e : Nat → Nat) (g0 : zG) (s : Int32 × zG) : Nat → Int32 × zG
  | 0 => s
  | k + 1 => stH lo c e g0 k (hA lo c e g0 s k)
/-- one parrot forgets -/
def stF (rd : Int32) (me : Nat → Int32) (p : Nat) (g : zG) : zG := if zrem rd (me p + 1) = 0 then z2 g 6 p (zmax (g 6 p - 1) 0) else g
def fA (rd : Int32) (me : Nat → Int32) (g : zG) : Nat → zG
  | 0 => g
  | k + 1 => stF rd me k (fA rd me g k)
/-- a round: its number, halves taken, rows -/
abbrev zT : Type := Int32 × Int32 × zG
def rO (n : Nat) (me lo : Nat → Int32) (c e : Nat → Nat) (t : zT) : zT :=
  (t.1 + 1, (hA lo c e t.2.2 (t.2.1, t.2.2) n).1, fA t.1 me (hA lo c e t.2.2 (t.2.1, t.2.2) n).2 n)
def rN (n : Nat) (me lo : Nat → Int32) (c e : Nat → Nat) (t : zT) : Nat → zT
  | 0 => t
  | k + 1 => rO n me lo c e (rN n me lo c e t k)
/-- the court whispers -/
def wh (g : zG) (p : Nat) (w s : Int32) : zG :=
  z2 (z2 (z2 (z2 (z2 (z2 (z2 g 0 p (w / 100)) 2 p (-1)) 4 p 0) 1 p (zrem w 100)) 3 p (-1)) 5 p 0) 6 p s
/-- those to whom p listens, the first k, as a set -/
def os (e : Nat → Nat) (p : Nat) : Nat → Int32
  | 0 => 0
  | k + 1 => os e p k ||| ((1 : Int32) <<< (nI (e (p * 4 + k)) &&& 31))
def zbit (S : Int32) (p : Nat) : Prop := (S >>> (nI p &&& 31)) &&& 1 = 1
/-- those to whom the members of S listen, of the first k parrots -/
noncomputable def oa (c e : Nat → Nat) (S : Int32) : Nat → Int32
  | 0 => 0
  | k + 1 => if (S >>> (nI k &&& 31)) &&& 1 = 1 then oa c e S k ||| os e k (c k) else oa c e S k
noncomputable def fd (n : Nat) (c e : Nat → Nat) (S : Int32) : Nat → Int32
  | 0 => S
  | k + 1 => fd n c e S k ||| oa c e (fd n c e S k) n
/-- the tellings, and the checksum -/
noncomputable def tp (n : Nat) (g : zG) (me lo : Nat → Int32) (c e : Nat → Nat) (p : Nat) : Nat → Int32
  | 0 => wd g p
  | 1 => g 6 p
  | 2 => me p
  | 3 => lo p
  | 4 => nI (c p)
  | 5 => nI (ln c e p n)
  | _ => zo (hd lo e p (c p))
def th (g : zG) (p h : Nat) : Nat → Int32
  | 0 => g h p
  | 1 => g (2 + h) p
  | _ => g (4 + h) p
def tj (n : Nat) (t : zT) : Nat → Int32
  | 0 => t.1
  | 1 => nI n
  | 2 => nI (dw t.2.2 n)
  | 3 => nI (ct t.2.2 n)
  | 4 => su t.2.2 n
  | _ => t.2.1
/-- x numbers f 0, f 1 .. mixed into d -/
def mx (f : Nat → Int32) (d : Int64) : Nat → Int64
  | 0 => d
  | k + 1 => mx f d k * 31 + (f k).toInt64
noncomputable def dp (n : Nat) (g : zG) (me lo : Nat → Int32) (c e : Nat → Nat) (p : Nat) (d : Int64) : Int64 :=
  mx (fun k => nI (e (p * 4 + k))) (mx (th g p 1) (mx (th g p 0) (mx (tp n g me lo c e p) d 7) 3) 3) (c p)
noncomputable def dA (n : Nat) (g : zG) (me lo : Nat → Int32) (c e : Nat → Nat) (d : Int64) : Nat → Int64
  | 0 => d
  | k + 1 => dp n g me lo c e k (dA n g me lo c e d k)
noncomputable def dg (n : Nat) (t : zT) (me lo : Nat → Int32) (c e : Nat → Nat) : Int64 := dA n t.2.2 me lo c e (mx (tj n t) 911 6) n
/-- what always holds of a jury -/
def zI (n : Nat) (me lo : Nat → Int32) (c e : Nat → Nat) : Prop :=
  n ≤ 12 ∧ (∀ p, p < n → c p ≤ 4 ∧ (∀ k, k < c p → e (p * 4 + k) < n) ∧ (∃ j, 1 ≤ j ∧ j ≤ 9 ∧ me p = nI j) ∧ (∃ j, 1 ≤ j ∧ j ≤ 5 ∧ lo p = nI j)) ∧ (∀ p, n ≤ p → c p = 0)
def zJ (n : Nat) (g : zG) : Prop :=
  ∀ p, p < n → (∃ j, j < 100 ∧ g 0 p = nI j) ∧ (∃ j, j < 100 ∧ g 1 p = nI j) ∧ (∃ j, j ≤ 9 ∧ g 6 p = nI j)
end
section
/-! the worlds: where the cells lie, one behind another, and what each holds -/
def zn (f : Nat → Nat) : Nat → Int32 := fun q => nI (f q)
abbrev zRow (cI : ClassId) (a n : Nat) (f : Nat → Int32) : va_W := [(a, .inr (1, [.ref (a + 1)])), (a + 1, .inl (cI, n, .inl f))]
abbrev zHalves (cI : ClassId) (a : Nat) (v f w : Nat → Int32) : va_W := [(a, .inr (0, [.ref (a + 1), .ref (a + 3), .ref (a + 5)])), (a + 1, .inr (1, [.ref (a + 2)])), (a + 2, .inl (cI, 12, .inl v)), (a + 3, .inr (1, [.ref (a + 4)])), (a + 4, .inl (cI, 12, .inl f)), (a + 5, .inr (1, [.ref (a + 6)])), (a + 6, .inl (cI, 12, .inl w))]
abbrev zTalk (cI : ClassId) (b : Nat) (rd tk : Int32) (g : zG) : va_W := [(b, .inr (3, [.int rd, .int tk, .ref (b + 1), .ref (b + 3), .ref (b + 10)])), (b + 1, .inr (1, [.ref (b + 2)])), (b + 2, .inl (cI, 12, .inl (g 6))),
  (b + 3, .inr (0, [.ref (b + 4), .ref (b + 6), .ref (b + 8)])), (b + 4, .inr (1, [.ref (b + 5)])), (b + 5, .inl (cI, 12, .inl (g 0))), (b + 6, .inr (1, [.ref (b + 7)])), (b + 7, .inl (cI, 12, .inl (g 2))), (b + 8, .inr (1, [.ref (b + 9)])), (b + 9, .inl (cI, 12, .inl (g 4))),
  (b + 10, .inr (0, [.ref (b + 11), .ref (b + 13), .ref (b + 15)])), (b + 11, .inr (1, [.ref (b + 12)])), (b + 12, .inl (cI, 12, .inl (g 1))), (b + 13, .inr (1, [.ref (b + 14)])), (b + 14, .inl (cI, 12, .inl (g 3))), (b + 15, .inr (1, [.ref (b + 16)])), (b + 16, .inl (cI, 12, .inl (g 5)))]
abbrev zSeats (cI : ClassId) (b n : Nat) (me lo : Nat → Int32) (c e : Nat → Nat) : va_W := [(b, .inr (2, [.int (nI n), .ref (b + 1), .ref (b + 3), .ref (b + 5), .ref (b + 7)])), (b + 1, .inr (1, [.ref (b + 2)])), (b + 2, .inl (cI, 12, .inl me)), (b + 3, .inr (1, [.ref (b + 4)])), (b + 4, .inl (cI, 12, .inl lo)),
  (b + 5, .inr (1, [.ref (b + 6)])), (b + 6, .inl (cI, 12, .inl (zn c))), (b + 7, .inr (1, [.ref (b + 8)])), (b + 8, .inl (cI, 48, .inl (zn e)))]
abbrev zPJ (b : Nat) : va_W := [(b, .inr (4, [.ref (b + 1), .ref (b + 10), .ref (b + 27), .ref (b + 44)]))]
abbrev zMo (cI : ClassId) (b : Nat) (th : Int32) (n : Nat) (J Bf E Nm : Nat → Int32) : va_W := [(b, .inr (5, [.int th, .int (nI n), .ref (b + 1), .ref (b + 2), .ref (b + 3), .ref (b + 4)])), (b + 1, .inl (cI, 120, .inl J)), (b + 2, .inl (cI, 120, .inl Bf)), (b + 3, .inl (cI, 48, .inl E)), (b + 4, .inl (cI, 2, .inl Nm))]
theorem zR_c {cI : ClassId} {a n : Nat} {f : Nat → Int32} : zC a (zRow cI a n f) := zC_cons (zC_cons zC_nil)
theorem zH_c {cI : ClassId} {a : Nat} {v f w : Nat → Int32} : zC a (zHalves cI a v f w) := zC_cons (zC_cons (zC_cons (zC_cons (zC_cons (zC_cons (zC_cons zC_nil))))))
theorem zT_c {cI : ClassId} {b : Nat} {rd tk : Int32} {g : zG} : zC b (zTalk cI b rd tk g) := zC_cons (zC_cons (zC_cons (zC_cons (zC_cons (zC_cons (zC_cons (zC_cons (zC_cons (zC_cons (zC_cons (zC_cons (zC_cons (zC_cons (zC_cons (zC_cons (zC_cons zC_nil))))))))))))))))
theorem zS_c {cI : ClassId} {b n : Nat} {me lo : Nat → Int32} {c e : Nat → Nat} : zC b (zSeats cI b n me lo c e) := zC_cons (zC_cons (zC_cons (zC_cons (zC_cons (zC_cons (zC_cons (zC_cons (zC_cons zC_nil))))))))
theorem zP_c {b : Nat} : zC b (zPJ b) := zC_cons zC_nil
theorem zMo_c {cI : ClassId} {b n : Nat} {th : Int32} {J Bf E Nm : Nat → Int32} : zC b (zMo cI b th n J Bf E Nm) := zC_cons (zC_cons (zC_cons (zC_cons (zC_cons zC_nil))))
section ZW
variable {D : va_G} {cI : ClassId} {H H1 : Heap}
theorem zR_kept {a n : Nat} {f : Nat → Int32} (h : va_P D vwCl (zRow cI a n f) H) (hf : ∀ q, q < H.size → a ≤ q → q < a + 2 → H1[q]? = H[q]?) : va_P D vwCl (zRow cI a n f) H1 := z_kept zR_c h hf
theorem zH_kept {a : Nat} {v f w : Nat → Int32} (h : va_P D vwCl (zHalves cI a v f w) H) (hf : ∀ q, q < H.size → a ≤ q → q < a + 7 → H1[q]? = H[q]?) : va_P D vwCl (zHalves cI a v f w) H1 := z_kept zH_c h hf
theorem zT_kept {b : Nat} {rd tk : Int32} {g : zG} (h : va_P D vwCl (zTalk cI b rd tk g) H) (hf : ∀ q, q < H.size → b ≤ q → q < b + 17 → H1[q]? = H[q]?) : va_P D vwCl (zTalk cI b rd tk g) H1 := z_kept zT_c h hf
theorem zS_kept {b n : Nat} {me lo : Nat → Int32} {c e : Nat → Nat} (h : va_P D vwCl (zSeats cI b n me lo c e) H) (hf : ∀ q, q < H.size → b ≤ q → q < b + 9 → H1[q]? = H[q]?) : va_P D vwCl (zSeats cI b n me lo c e) H1 := z_kept zS_c h hf
theorem zP_kept {b : Nat} (h : va_P D vwCl (zPJ b) H) (hf : ∀ q, q < H.size → b ≤ q → q < b + 1 → H1[q]? = H[q]?) : va_P D vwCl (zPJ b) H1 := z_kept zP_c h hf
theorem zMo_kept {b n : Nat} {th : Int32} {J Bf E Nm : Nat → Int32} (h : va_P D vwCl (zMo cI b th n J Bf E Nm) H) (hf : ∀ q, q < H.size → b ≤ q → q < b + 5 → H1[q]? = H[q]?) : va_P D vwCl (zMo cI b th n J Bf E Nm) H1 := z_kept zMo_c h hf
/-- a row of a Talk is written -/
theorem zT_sub6 {b : Nat} {rd tk : Int32} {g : zG} {f : Nat → Int32} (h : va_P D vwCl (zTalk cI b rd tk g) H) (hr : va_P D vwCl (zRow cI (b + 1) 12 f) H1) (hf : ∀ q, q < H.size → ¬ zF (b + 2) (b + 3) q → H1[q]? = H[q]?) : va_P D vwCl (zTalk cI b rd tk (fun k => if k = 6 then f else g k)) H1 :=
  z_set zT_c h 2 rfl (va_P.sub (ws' := [(b + 2, .inl (cI, 12, .inl f))]) hr [1] rfl) (fun q h1 h2 => hf q h1 (fun h3 => h2 (by simp only [zF] at h3; omega)))
theorem zT_subF {b : Nat} {rd tk : Int32} {g : zG} {v f w : Nat → Int32} (h : va_P D vwCl (zTalk cI b rd tk g) H) (hr : va_P D vwCl (zHalves cI (b + 3) v f w) H1) (hf : ∀ q, q < H.size → ¬ zF (b + 3) (b + 10) q → H1[q]? = H[q]?) : va_P D vwCl (zTalk cI b rd tk (fun k => if k = 0 then v else if k = 2 then f else if k = 4 then w else g k)) H1 :=
  z_splice (w1 := (zTalk cI b rd tk g).take 3) (w2 := zHalves cI (b + 3) (g 0) (g 2) (g 4)) (w2' := zHalves cI (b + 3) v f w) (w3 := zHalves cI (b + 10) (g 1) (g 3) (g 5)) (zT_c (rd := rd) (tk := tk) (g := g)) h hr (fun q h1 h2 => hf q h1 h2)
theorem zT_subL {b : Nat} {rd tk : Int32} {g : zG} {v f w : Nat → Int32} (h : va_P D vwCl (zTalk cI b rd tk g) H) (hr : va_P D vwCl (zHalves cI (b + 10) v f w) H1) (hf : ∀ q, q < H.size → ¬ zF (b + 10) (b + 17) q → H1[q]? = H[q]?) : va_P D vwCl (zTalk cI b rd tk (fun k => if k = 1 then v else if k = 3 then f else if k = 5 then w else g k)) H1 :=
  z_splice (w1 := (zTalk cI b rd tk g).take 10) (w2 := zHalves cI (b + 10) (g 1) (g 3) (g 5)) (w2' := zHalves cI (b + 10) v f w) (w3 := []) (zT_c (rd := rd) (tk := tk) (g := g)) h hr (fun q h1 h2 => hf q h1 h2)
/-- a Talk's rows by another name -/
theorem zT_to {b : Nat} {rd tk rd' tk' : Int32} {g g' : zG} (h : va_P D vwCl (zTalk cI b rd tk g) H) (e1 : rd = rd') (e2 : tk = tk') (e : ∀ k, k < 7 → g k = g' k) : va_P D vwCl (zTalk cI b rd' tk' g') H := by
  subst e1; subst e2
  have h0 := e 0 (by decide); have h1 := e 1 (by decide); have h2 := e 2 (by decide); have h3 := e 3 (by decide); have h4 := e 4 (by decide); have h5 := e 5 (by decide); have h6 := e 6 (by decide)
  simp only [zTalk, h0, h1, h2, h3, h4, h5, h6] at h ⊢
  exact h
theorem zH_sub (k : Nat) {a : Nat} {v f w x : Nat → Int32} (h : va_P D vwCl (zHalves cI a v f w) H) (hk : k < 3) (hr : va_P D vwCl (zRow cI (a + 1 + 2 * k) 12 x) H1) (hf : ∀ q, q < H.size → ¬ zF (a + 2 + 2 * k) (a + 3 + 2 * k) q → H1[q]? = H[q]?) : va_P D vwCl (zHalves cI a (if k = 0 then x else v) (if k = 1 then x else f) (if k = 2 then x else w)) H1 := by
  rcases (show k = 0 ∨ k = 1 ∨ k = 2 by omega) with rfl | rfl | rfl
  · exact z_set zH_c h 2 rfl (va_P.sub (ws' := [(a + 2, .inl (cI, 12, .inl x))]) hr [1] rfl) (fun q h1 h2 => hf q h1 (fun h3 => h2 (by simp only [zF] at h3; omega)))
  · exact z_set zH_c h 4 rfl (va_P.sub (ws' := [(a + 4, .inl (cI, 12, .inl x))]) hr [1] rfl) (fun q h1 h2 => hf q h1 (fun h3 => h2 (by simp only [zF] at h3; omega)))
  · exact z_set zH_c h 6 rfl (va_P.sub (ws' := [(a + 6, .inl (cI, 12, .inl x))]) hr [1] rfl) (fun q h1 h2 => hf q h1 (fun h3 => h2 (by simp only [zF] at h3; omega)))
theorem zS_sub (k : Nat) {b n : Nat} {me lo x : Nat → Int32} {c e : Nat → Nat} {m : Nat} (h : va_P D vwCl (zSeats cI b n me lo c e) H) (hk : k < 2) (hm : m = 12) (hr : va_P D vwCl (zRow cI (b + 1 + 2 * k) m x) H1) (hf : ∀ q, q < H.size → ¬ zF (b + 2 + 2 * k) (b + 3 + 2 * k) q → H1[q]? = H[q]?) : va_P D vwCl (zSeats cI b n (if k = 0 then x else me) (if k = 1 then x else lo) c e) H1 := by
  subst hm
  rcases (show k = 0 ∨ k = 1 by omega) with rfl | rfl
  · exact z_set zS_c h 2 rfl (va_P.sub (ws' := [(b + 2, .inl (cI, 12, .inl x))]) hr [1] rfl) (fun q h1 h2 => hf q h1 (fun h3 => h2 (by simp only [zF] at h3; omega)))
  · exact z_set zS_c h 4 rfl (va_P.sub (ws' := [(b + 4, .inl (cI, 12, .inl x))]) hr [1] rfl) (fun q h1 h2 => hf q h1 (fun h3 => h2 (by simp only [zF] at h3; omega)))
theorem zS_subC {b n : Nat} {me lo x : Nat → Int32} {c c' e : Nat → Nat} (h : va_P D vwCl (zSeats cI b n me lo c e) H) (hr : va_P D vwCl (zRow cI (b + 5) 12 x) H1) (hx : x = zn c') (hf : ∀ q, q < H.size → ¬ zF (b + 6) (b + 7) q → H1[q]? = H[q]?) : va_P D vwCl (zSeats cI b n me lo c' e) H1 := by
  subst hx
  exact z_set zS_c h 6 rfl (va_P.sub (ws' := [(b + 6, .inl (cI, 12, .inl (zn c')))]) hr [1] rfl) (fun q h1 h2 => hf q h1 (fun h3 => h2 (by simp only [zF] at h3; omega)))
theorem zS_subE {b n : Nat} {me lo x : Nat → Int32} {c e e' : Nat → Nat} (h : va_P D vwCl (zSeats cI b n me lo c e) H) (hr : va_P D vwCl (zRow cI (b + 7) 48 x) H1) (hx : x = zn e') (hf : ∀ q, q < H.size → ¬ zF (b + 8) (b + 9) q → H1[q]? = H[q]?) : va_P D vwCl (zSeats cI b n me lo c e') H1 := by
  subst hx
  exact z_set zS_c h 8 rfl (va_P.sub (ws' := [(b + 8, .inl (cI, 48, .inl (zn e')))]) hr [1] rfl) (fun q h1 h2 => hf q h1 (fun h3 => h2 (by simp only [zF] at h3; omega)))
end ZW
theorem z_nF {lo hi q : Nat} (h : q < lo ∨ hi ≤ q) : ¬ zF lo hi q := fun h2 => by simp only [zF] at h2; omega
theorem zn_upd (f : Nat → Nat) (k x : Nat) : upd (zn f) k (nI x) = zn (fun j => if j = k then x else f j) := by
  funext j
  by_cases h : j = k
  · simp [upd, zn, h]
  · simp [upd, zn, h]
/-- a truth value as the machine has it -/
def zb (P : Prop) [Decidable P] : Int32 := if P then 1 else 0
theorem zb_0 {P : Prop} [Decidable P] (h : zb P = 0) : ¬ P := fun hp => by simp [zb, hp] at h
theorem zb_1 {P : Prop} [Decidable P] (h : ¬ zb P = 0) : P := by
  by_cases hp : P
  · exact hp
  · simp [zb, hp] at h
theorem zb_t {P : Prop} [Decidable P] (h : P) : (1 : Int32) = zb P := by simp [zb, h]
theorem zb_f {P : Prop} [Decidable P] (h : ¬ P) : (0 : Int32) = zb P := by simp [zb, h]
theorem zb_nar {P : Prop} [Decidable P] : narrow .boolean (.int (zb P)) = .int (zb P) := by
  by_cases hp : P
  · simp [zb, hp]; decide
  · simp [zb, hp]; decide
end
section
/-! System.arraycopy over numbers: one array is written, all other cells stay -/
section ZX
variable {p : Program} {l : Launch} {e : Env} {R : Room} {s : State} {m : MethodId} {args : Array Value} {below : List Frame} {meth : Method} {c : Code} {H : Heap} {locs : List Loc} {cells slots : Nat} {Q : State → Prop}
variable {pc : Nat} {ls : Array Slot} {rest : List Value} {A : Nat → Prop} {H0 : Heap} {cc : ByteArray} {D : va_G} {cl : List vw_C} {tys : List (ClassId × FieldType)} {ws wt : va_W} {a : Nat}
theorem z_clampInt {z : Int32} (hz : ¬ z < 0) : z.toInt = (z.toNatClampNeg : Int) := by
  have hz0 : (0 : Int) ≤ z.toInt := by
    have := Int32.not_lt.mp hz
    simpa using Int32.le_iff_toInt_le.mp this
  show z.toInt = ((z.toInt.toNat : Nat) : Int)
  omega
theorem z_copyi (hexec : p.tables.exec = Jvm.exec) (hb : c.code = cc) (hml : c.maxLocals = ls.size) {own : String} {index : Nat} (hown : s.vm.findClass own = some m.cls) (hlink : (Cond.methodLink own index arraycopyName).before args s = true) (hnat : (Cond.native arraycopyName).before args s = true) (hstat : (Cond.static arraycopyName).before args s = true) (hini : (Cond.initialized "java/lang/System").before args s = true)
    (hK : va_K D cl tys s) (hP0 : va_P D cl ws H) (hP1 : va_P D cl wt H) (hA : A a) (hS : va_S A H0 H locs) (q0 q1 t0 : Nat) {a0 : Nat} {cI : ClassId} {n0 n1 : Nat} {f g : Nat → Int32} (ha0 : ws[q0]? = some (a0, .inl (cI, n0, .inl f))) (ha1 : wt[q1]? = some (a, .inl (cI, n1, .inl g))) (ht0 : tys[t0]? = some (cI, .int))
    {sp dp n : Int32} {sj dj k : Nat} (h1 : sp = nI sj) (h2 : dp = nI dj) (h3 : n = nI k) (h4 : sj + k ≤ n0) (h5 : dj + k ≤ n1) (hn0 : n0 < 2147483648) (hn1 : n1 < 2147483648)
    (hframes : 1 ≤ R.frames) (hlocals : (rest.map fun v => v.category).sum + (nativeFrameWords "java/lang/System" "arraycopy" 5 + 11) ≤ R.locals) (hdg : decode cc pc = .ok (.invokestatic index, 3))
    (kk : ∀ (H1 : Heap) (locs1 : List Loc), va_P D cl [(a, .inl (cI, n1, .inl (va_cpy f g sj dj k)))] H1 → H1.size = H.size → (∀ q, q ≠ a → H1[q]? = H[q]?) → va_S A H0 H1 locs1 → W p l e R s m args below meth c H1 locs1 cells slots Q (F0 m (pc + 3) ls rest)) : W p l e R s m args below meth c H locs cells slots Q (F0 m pc ls (.int n :: .int dp :: .ref a :: .int sp :: .ref a0 :: rest)) := by
  have e1 : sp.toNatClampNeg = sj := by rw [h1]; exact nI_clamp (by omega)
  have e2 : dp.toNatClampNeg = dj := by rw [h2]; exact nI_clamp (by omega)
  have e3 : n.toNatClampNeg = k := by rw [h3]; exact nI_clamp (by omega)
  have g1 : ¬ sp < 0 := by rw [h1]; exact nI_pos (by omega)
  have g2 : ¬ dp < 0 := by rw [h2]; exact nI_pos (by omega)
  have g3 : ¬ n < 0 := by rw [h3]; exact nI_pos (by omega)
  intro T hT X
  have hc0 : H[a0]? = some (vp_cell cI (n0, .inl f)) := hP0 q0 _ ha0
  have hc1 : H[a]? = some (vp_cell cI (n1, .inl g)) := hP1 q1 _ ha1
  obtain ⟨-, k0, hk0, cm0, hkk0⟩ := (hK.2 t0 _ ht0).1 n0 (fun j => .int (f j))
  obtain ⟨-, k1, hk1, cm1, hkk1⟩ := (hK.2 t0 _ ht0).1 n1 (fun j => .int (g j))
  obtain ⟨vm', X', step⟩ := X.arraycopy hexec hown hlink hnat hstat hini (src := a0) (dst := a) (cs := vp_cell cI (n0, .inl f)) (cd := vp_cell cI (n1, .inl g)) (srcPos := sp) (destPos := dp) (n := n) (by rw [hT]; exact hc0) (by rw [hT]; exact hc1)
    (fun _ h => by cases h) (fun _ h => by cases h) (fun h => by cases h) (fun h => by cases h) hk0 hk1 hkk0 hkk1 (by simp [show refKind FieldType.int = false from rfl]) g1 g2 g3
    (by rw [z_clampInt g1, z_clampInt g3, e1, e3]; show ¬ _ > ((arrV cI n0 (fun j => .int (f j))).slots.size : Int); rw [arrV_size]; omega)
    (by rw [z_clampInt g2, z_clampInt g3, e2, e3]; show ¬ _ > ((arrV cI n1 (fun j => .int (g j))).slots.size : Int); rw [arrV_size]; omega)
    (fun vm₁ _ i hi => by
      have e : (vp_cell cI (n0, .inl f)).slots.getD (sp.toNatClampNeg + i) .null = .int (f (sp.toNatClampNeg + i)) := by
        show (arrV cI n0 (fun j => .int (f j))).slots.getD _ _ = _
        rw [Array.getD_eq_getD_getElem?, arrV_read _ _ (by omega)]
        rfl
      refine ⟨?_, ?_⟩
      · rw [e]; rfl
      · rw [e]; exact trivial)
    (g := F0 m pc ls (.int n :: .int dp :: .ref a :: .int sp :: .ref a0 :: rest)) rfl (by rw [hml]) (rest := rest) rfl (by rw [hb]; exact hdg) hframes (by show 2 * 0 + _ + _ ≤ _; omega)
  have ec : copied (vp_cell cI (n0, .inl f)) (vp_cell cI (n1, .inl g)) sp dp n = vp_cell cI (n1, .inl (va_cpy f g sp.toNatClampNeg dp.toNatClampNeg n.toNatClampNeg)) := va_copied (fun z => .int z) cI cI f g (by omega)
  rw [ec, e1, e2, e3] at X' step
  have hl : a < H.size := (Array.getElem?_eq_some_iff.mp hc1).1
  have hheap : ((T.setVm vm').setCell a (vp_cell cI (n1, .inl (va_cpy f g sj dj k)))).heap = H.setIfInBounds a (vp_cell cI (n1, .inl (va_cpy f g sj dj k))) := by rw [← hT]; rfl
  have oq : ∀ q : Nat, q ≠ a → (H.setIfInBounds a (vp_cell cI (n1, .inl (va_cpy f g sj dj k))))[q]? = H[q]? := fun q hq => by simp [Array.getElem?_setIfInBounds, Ne.symm hq]
  obtain ⟨t, a1, b1⟩ := kk _ _ (z_one (show (H.setIfInBounds a _)[a]? = some _ by simp [Array.getElem?_setIfInBounds, hl])) (by simp) oq ⟨by simp; exact hS.1, fun q g1 g2 => by
      rw [oq q (fun e => g2 (by rw [e]; exact hA))]
      exact hS.2.1 q g1 g2, fun q hq => by
      rcases List.mem_append.mp hq with h | h
      · exact hS.2.2 q h
      · obtain ⟨z, -, hz⟩ := List.mem_map.mp h
        rw [← hz]
        exact hA⟩ _ hheap X'
  exact ⟨t, step t a1, b1⟩
end ZX
end
section
/-! more of worlds -/
def zu (f : Nat → Nat) (k x : Nat) : Nat → Nat := fun j => if j = k then x else f j
theorem zn_u (f : Nat → Nat) (k x : Nat) : upd (zn f) k (nI x) = zn (zu f k x) := zn_upd f k x
theorem z7 {P : Nat → Prop} (h0 : P 0) (h1 : P 1) (h2 : P 2) (h3 : P 3) (h4 : P 4) (h5 : P 5) (h6 : P 6) : ∀ k, k < 7 → P k := fun k hk => by
  rcases (show k = 0 ∨ k = 1 ∨ k = 2 ∨ k = 3 ∨ k = 4 ∨ k = 5 ∨ k = 6 by omega) with rfl | rfl | rfl | rfl | rfl | rfl | rfl <;> assumption
section ZV
variable {D : va_G} {cI : ClassId} {H H1 : Heap}
theorem zT_hF {b p : Nat} {rd tk x y z : Int32} {g : zG} (h : va_P D vwCl (zTalk cI b rd tk g) H) (hr : va_P D vwCl (zHalves cI (b + 3) (upd (g 0) p x) (upd (g 2) p y) (upd (g 4) p z)) H1) (hf : ∀ q, q < H.size → ¬ zF (b + 3) (b + 10) q → H1[q]? = H[q]?) : va_P D vwCl (zTalk cI b rd tk (z2 (z2 (z2 g 0 p x) 2 p y) 4 p z)) H1 :=
  zT_to (zT_subF h hr hf) rfl rfl (z7 rfl rfl rfl rfl rfl rfl rfl)
theorem zT_hL {b p : Nat} {rd tk x y z : Int32} {g : zG} (h : va_P D vwCl (zTalk cI b rd tk g) H) (hr : va_P D vwCl (zHalves cI (b + 10) (upd (g 1) p x) (upd (g 3) p y) (upd (g 5) p z)) H1) (hf : ∀ q, q < H.size → ¬ zF (b + 10) (b + 17) q → H1[q]? = H[q]?) : va_P D vwCl (zTalk cI b rd tk (z2 (z2 (z2 g 1 p x) 3 p y) 5 p z)) H1 :=
  zT_to (zT_subL h hr hf) rfl rfl (z7 rfl rfl rfl rfl rfl rfl rfl)
end ZV
theorem zd_po {e : Nat → Nat} {p o : Nat} {j : Nat} : ∀ {k m : Nat}, po e p o k = some j → k ≤ m → po e p o m = some j
  | k, 0, h, hm => by
    have : k = 0 := by omega
    subst this; exact h
  | k, m + 1, h, hm => by
    by_cases hk : k = m + 1
    · subst hk; exact h
    · have := zd_po (k := k) (m := m) h (by omega)
      simp only [po, this]
theorem zd_poS {e : Nat → Nat} {p o k : Nat} (h : po e p o k = none) (h2 : e (p * 4 + k) = o) : po e p o (k + 1) = some k := by simp only [po, h]; rw [if_pos h2]
theorem zd_poN {e : Nat → Nat} {p o k : Nat} (h : po e p o k = none) (h2 : ¬ e (p * 4 + k) = o) : po e p o (k + 1) = none := by simp only [po, h]; rw [if_neg h2]
theorem zd_po_lt {e : Nat → Nat} {p o j : Nat} : ∀ {k : Nat}, po e p o k = some j → j < k ∧ e (p * 4 + j) = o
  | 0, h => by simp [po] at h
  | k + 1, h => by
    cases hq : po e p o k with
    | some i =>
      simp only [po, hq] at h
      cases h
      have := zd_po_lt hq
      exact ⟨by omega, this.2⟩
    | none =>
      simp only [po, hq] at h
      by_cases h2 : e (p * 4 + k) = o
      · rw [if_pos h2] at h; cases h; exact ⟨by omega, h2⟩
      · rw [if_neg h2] at h; cases h
theorem zo_m1 {r : Option Nat} (hr : ∀ q, r = some q → q < 100000) : zo r = -1 ↔ r = none := by
  cases r with
  | none => simp [zo]
  | some q =>
    have hq := hr q rfl
    constructor
    · intro h
      have h2 : nI q = -1 := h
      exact absurd (by rw [h2]; decide : nI q < 0) (nI_pos (by omega))
    · intro h; cases h
theorem zmin_id (x : Int32) : zmin x x = x := by simp [zmin]
end
section
set_option maxHeartbeats 4000000 in
set_option maxRecDepth 100000 in
/-- Row.at within the row -/
theorem zcX1_at (l : Launch) (D : va_G) (cI : ClassId) (H : Heap) (a : Nat) (n : Nat) (f : Nat → Int32) (p : Nat) (hR : va_P D vwCl (zRow cI a n f) H) (hp : p < n) (hn : n < 100000) : Met l yX1_at wsX1_at ({ frames := 0, cells := 0, slots := 0, locals := 0 } : Room) (zPc D [(cI, .int)] H [.ref a, .int (nI p)]) (zQ (some (.int (f p))) H) 0 0 (fun _ => False) := by
  refine z_enter (cc := cX1_at) (maxL := 2) (ret := (some .int)) (by decide) rfl (Nat.le_of_ble_eq_true rfl) ?_
  intro pg ev s m args below meth cd hfix hr hlocks hname hK hHs ls hl
  obtain ⟨hx, hb, hml, hown, hts⟩ := id hfix
  have hl : lv_has ls 2 [(0, .ref a), (1, .int (nI p))] := hl
  have hinX1 : ∀ w ∈ wsX10, w ∈ wsX1_at := by decide +kernel
  refine lv_iload_n hx hb dX1_at_0 rfl (lv_at hl 1 rfl) ?_
  refine lv_if_lt (tgt := 22) hx hb dX1_at_1 (by decide) (fun c1 => ?_) (fun c1 => ?_)
  · have c1 := z_lt (a := p) (b := 0) c1 (by omega) (by omega)
    omega
  · have c1 := z_nlt (a := p) (b := 0) c1 (by omega) (by omega)
    refine lv_iload_n hx hb dX1_at_4 rfl (lv_at hl 1 rfl) ?_
    refine lv_aload_n hx hb dX1_at_5 rfl (lv_at hl 0 rfl) ?_
    refine va_get (D := D) (ci := 1) (v := .ref (a + 1)) (C := RX1) (T := TX1) (N := 1) hx hb hts hinX1 hown hK hR 0 rfl rfl 0 (by decide) (hts _ (List.mem_of_getElem? (i := 1) rfl)) (fun _ h9 => h9) rfl dX1_at_6 ?_
    refine z_alen (n := n) (f := f) hx hb hK hR 1 0 rfl rfl dX1_at_9 ?_
    refine lv_icmp_ge (tgt := 22) hx hb dX1_at_10 (by decide) (fun c10 => ?_) (fun c10 => ?_)
    · have c10 := z_le (a := n) (b := p) c10 (by omega) (by omega)
      omega
    · have c10 := z_nle (a := n) (b := p) c10 (by omega) (by omega)
      refine lv_aload_n hx hb dX1_at_13 rfl (lv_at hl 0 rfl) ?_
      refine va_get (D := D) (ci := 1) (v := .ref (a + 1)) (C := RX1) (T := TX1) (N := 1) hx hb hts hinX1 hown hK hR 0 rfl rfl 0 (by decide) (hts _ (List.mem_of_getElem? (i := 1) rfl)) (fun _ h9 => h9) rfl dX1_at_14 ?_
      refine lv_iload_n hx hb dX1_at_17 rfl (lv_at hl 1 rfl) ?_
      refine z_iald (a := (a + 1)) (n := n) (f := f) (j := p) hx hb hK hR 1 0 rfl rfl rfl (by omega) (by omega) dX1_at_18 ?_
      refine lv_goto (tgt := 23) hx hb dX1_at_19 (by decide) ?_
      exact z_iret hx hb hr hlocks dX1_at_23
set_option maxHeartbeats 4000000 in
set_option maxRecDepth 100000 in
/-- Row.put within the row -/
theorem zcX1_put (l : Launch) (D : va_G) (cI : ClassId) (H : Heap) (a : Nat) (n : Nat) (f : Nat → Int32) (p : Nat) (x : Int32) (hR : va_P D vwCl (zRow cI a n f) H) (hp : p < n) (hn : n < 100000) : Met l yX1_put wsX1_put ({ frames := 0, cells := 0, slots := 0, locals := 0 } : Room) (zPc D [(cI, .int)] H [.ref a, .int (nI p), .int x]) (zM (fun H1 => va_P D vwCl (zRow cI a n (upd f p x)) H1 ∧ H1.size = H.size) none (zF (a + 1) (a + 2))) 0 0 (zF (a + 1) (a + 2)) := by
  refine z_enter (cc := cX1_put) (maxL := 3) (ret := none) (by decide) rfl (Nat.le_of_ble_eq_true rfl) ?_
  intro pg ev s m args below meth cd hfix hr hlocks hname hK hHs ls hl
  obtain ⟨hx, hb, hml, hown, hts⟩ := id hfix
  have hl : lv_has ls 3 [(0, .ref a), (1, .int (nI p)), (2, .int x)] := hl
  have hS : va_S (zF (a + 1) (a + 2)) s.heap H [] := by rw [hHs]; exact va_S.rf
  have hz : H.size = H.size := rfl
  have hinX1 : ∀ w ∈ wsX10, w ∈ wsX1_put := by decide +kernel
  refine lv_iload_n hx hb dX1_put_0 rfl (lv_at hl 1 rfl) ?_
  refine lv_if_lt (tgt := 20) hx hb dX1_put_1 (by decide) (fun c1 => ?_) (fun c1 => ?_)
  · have c1 := z_lt (a := p) (b := 0) c1 (by omega) (by omega)
    omega
  · have c1 := z_nlt (a := p) (b := 0) c1 (by omega) (by omega)
    refine lv_iload_n hx hb dX1_put_4 rfl (lv_at hl 1 rfl) ?_
    refine lv_aload_n hx hb dX1_put_5 rfl (lv_at hl 0 rfl) ?_
    refine va_get (D := D) (ci := 1) (v := .ref (a + 1)) (C := RX1) (T := TX1) (N := 1) hx hb hts hinX1 hown hK hR 0 rfl rfl 0 (by decide) (hts _ (List.mem_of_getElem? (i := 1) rfl)) (fun _ h9 => h9) rfl dX1_put_6 ?_
    refine z_alen (n := n) (f := f) hx hb hK hR 1 0 rfl rfl dX1_put_9 ?_
    refine lv_icmp_ge (tgt := 20) hx hb dX1_put_10 (by decide) (fun c10 => ?_) (fun c10 => ?_)
    · have c10 := z_le (a := n) (b := p) c10 (by omega) (by omega)
      omega
    · have c10 := z_nle (a := n) (b := p) c10 (by omega) (by omega)
      refine lv_aload_n hx hb dX1_put_13 rfl (lv_at hl 0 rfl) ?_
      refine va_get (D := D) (ci := 1) (v := .ref (a + 1)) (C := RX1) (T := TX1) (N := 1) hx hb hts hinX1 hown hK hR 0 rfl rfl 0 (by decide) (hts _ (List.mem_of_getElem? (i := 1) rfl)) (fun _ h9 => h9) rfl dX1_put_14 ?_
      refine lv_iload_n hx hb dX1_put_17 rfl (lv_at hl 1 rfl) ?_
      refine lv_iload_n hx hb dX1_put_18 rfl (lv_at hl 2 rfl) ?_
      refine z_iast (n := n) (f := f) (x := x) (j := p) hx hb hK hR (by simp only [zF]; omega) hS 1 0 rfl rfl rfl (by omega) (by omega) dX1_put_19 (fun H1 lo2 hP1 hz1 hk1 hS => ?_)
      have hz : H1.size = H.size := by omega
      have hR3 : va_P D vwCl (zRow cI a n (upd f p x)) H1 := z_set zR_c hR 1 rfl hP1 (fun q _ h => hk1 q h)
      exact z_vretM (⟨hR3, hz⟩) hx hb hr hlocks hS dX1_put_20
set_option maxHeartbeats 4000000 in
set_option maxRecDepth 100000 in
/-- Row.copyFrom of a row of the same length -/
theorem zcX1_copyFrom (l : Launch) (D : va_G) (cI : ClassId) (H : Heap) (a : Nat) (a2 : Nat) (n : Nat) (f : Nat → Int32) (f2 : Nat → Int32) (hR : va_P D vwCl (zRow cI a n f) H) (hQ : va_P D vwCl (zRow cI a2 n f2) H) (hd : a + 2 ≤ a2 ∨ a2 + 2 ≤ a) (hn : n < 100000) : Met l yX1_copyFrom wsX1_copyFrom ({ frames := 1, cells := 0, slots := 0, locals := 18 } : Room) (zPc D [(cI, .int)] H [.ref a, .ref a2]) (zM (fun H1 => va_P D vwCl (zRow cI a n f2) H1 ∧ H1.size = H.size) none (zF (a + 1) (a + 2))) 0 0 (zF (a + 1) (a + 2)) := by
  refine z_enter (cc := cX1_copyFrom) (maxL := 2) (ret := none) (by decide) rfl (Nat.le_of_ble_eq_true rfl) ?_
  intro pg ev s m args below meth cd hfix hr hlocks hname hK hHs ls hl
  obtain ⟨hx, hb, hml, hown, hts⟩ := id hfix
  have hl : lv_has ls 2 [(0, .ref a), (1, .ref a2)] := hl
  have hS : va_S (zF (a + 1) (a + 2)) s.heap H [] := by rw [hHs]; exact va_S.rf
  have hz : H.size = H.size := rfl
  have hinX1 : ∀ w ∈ wsX10, w ∈ wsX1_copyFrom := by decide +kernel
  refine lv_aload_n hx hb dX1_copyFrom_0 rfl (lv_at hl 1 rfl) ?_
  refine va_get (D := D) (ci := 1) (v := .ref (a2 + 1)) (C := RX1) (T := TX1) (N := 1) hx hb hts hinX1 hown hK hQ 0 rfl rfl 0 (by decide) (hts _ (List.mem_of_getElem? (i := 1) rfl)) (fun _ h9 => h9) rfl dX1_copyFrom_1 ?_
  refine lv_iconst (v := 0) hx hb dX1_copyFrom_4 (by decide) ?_
  refine lv_aload_n hx hb dX1_copyFrom_5 rfl (lv_at hl 0 rfl) ?_
  refine va_get (D := D) (ci := 1) (v := .ref (a + 1)) (C := RX1) (T := TX1) (N := 1) hx hb hts hinX1 hown hK hR 0 rfl rfl 0 (by decide) (hts _ (List.mem_of_getElem? (i := 1) rfl)) (fun _ h9 => h9) rfl dX1_copyFrom_6 ?_
  refine lv_iconst (v := 0) hx hb dX1_copyFrom_9 (by decide) ?_
  refine lv_aload_n hx hb dX1_copyFrom_10 rfl (lv_at hl 1 rfl) ?_
  refine va_get (D := D) (ci := 1) (v := .ref (a2 + 1)) (C := RX1) (T := TX1) (N := 1) hx hb hts hinX1 hown hK hQ 0 rfl rfl 0 (by decide) (hts _ (List.mem_of_getElem? (i := 1) rfl)) (fun _ h9 => h9) rfl dX1_copyFrom_11 ?_
  refine z_alen (n := n) (f := f2) hx hb hK hQ 1 0 rfl rfl dX1_copyFrom_14 ?_
  refine lv_aload_n hx hb dX1_copyFrom_15 rfl (lv_at hl 0 rfl) ?_
  refine va_get (D := D) (ci := 1) (v := .ref (a + 1)) (C := RX1) (T := TX1) (N := 1) hx hb hts hinX1 hown hK hR 0 rfl rfl 0 (by decide) (hts _ (List.mem_of_getElem? (i := 1) rfl)) (fun _ h9 => h9) rfl dX1_copyFrom_16 ?_
  refine z_alen (n := n) (f := f) hx hb hK hR 1 0 rfl rfl dX1_copyFrom_19 ?_
  refine va_mmin hx hb (by rw [hml]; exact hl.1.symm) hown (hts _ (List.mem_of_getElem? (i := 2) rfl)) (hts _ (List.mem_of_getElem? (i := 3) rfl)) (hts _ (List.mem_of_getElem? (i := 4) rfl)) (hts _ (List.mem_of_getElem? (i := 5) rfl)) (Nat.le_of_ble_eq_true rfl) (Nat.le_of_ble_eq_true rfl) (by omega) (by omega) dX1_copyFrom_20 ?_
  refine z_toi (y := zmin (nI n) (nI n)) rfl ?_
  refine z_toi (y := nI n) (zmin_id _) ?_
  refine z_copyi hx hb (by rw [hml]; exact hl.1.symm) hown (hts _ (List.mem_of_getElem? (i := 6) rfl)) (hts _ (List.mem_of_getElem? (i := 7) rfl)) (hts _ (List.mem_of_getElem? (i := 8) rfl)) (hts _ (List.mem_of_getElem? (i := 9) rfl)) hK hQ hR (by simp only [zF]; omega) hS 1 1 0 rfl rfl rfl (sj := 0) (dj := 0) (k := n) rfl rfl rfl (by omega) (by omega) (by omega) (by omega) (Nat.le_of_ble_eq_true rfl) (Nat.le_of_ble_eq_true rfl) dX1_copyFrom_23 (fun H1 lo2 hP1 hz1 hk1 hS => ?_)
  have hz : H1.size = H.size := by omega
  have hR3 : va_P D vwCl (zRow cI a n f2) H1 := z_set zR_c hR 1 rfl (z_arr_ext hP1 (fun j hj => sb_cpy0 hj)) (fun q _ h => hk1 q h)
  have hQ4 := zR_kept hQ (fun q h1 h2 h3 => (fun q _ h => hk1 q h) q h1 (by omega))
  exact z_vretM (⟨hR3, hz⟩) hx hb hr hlocks hS dX1_copyFrom_26
end
section
set_option maxHeartbeats 4000000 in
set_option maxRecDepth 100000 in
/-- Halves.value -/
theorem zcX0_value (l : Launch) (D : va_G) (cI : ClassId) (H : Heap) (a : Nat) (v : Nat → Int32) (f : Nat → Int32) (w : Nat → Int32) (p : Nat) (hH : va_P D vwCl (zHalves cI a v f w) H) (hp : p < 12) : Met l yX0_value wsX0_value ({ frames := 1, cells := 0, slots := 0, locals := 21 } : Room) (zPc D [(cI, .int)] H [.ref a, .int (nI p)]) (zQ (some (.int (v p))) H) 0 0 (fun _ => False) := by
  refine z_enter (cc := cX0_value) (maxL := 2) (ret := (some .int)) (by decide) rfl (Nat.le_of_ble_eq_true rfl) ?_
  intro pg ev s m args below meth cd hfix hr hlocks hname hK hHs ls hl
  obtain ⟨hx, hb, hml, hown, hts⟩ := id hfix
  have hl : lv_has ls 2 [(0, .ref a), (1, .int (nI p))] := hl
  have hinX0 : ∀ w ∈ wsX00, w ∈ wsX0_value := by decide +kernel
  refine lv_aload_n hx hb dX0_value_0 rfl (lv_at hl 0 rfl) ?_
  refine va_get (D := D) (ci := 0) (v := .ref (a + 1)) (C := RX0) (T := TX0) (N := 3) hx hb hts hinX0 hown hK hH 0 rfl rfl 0 (by decide) (hts _ (List.mem_of_getElem? (i := 1) rfl)) (fun _ h9 => h9) rfl dX0_value_1 ?_
  refine lv_iload_n hx hb dX0_value_4 rfl (lv_at hl 1 rfl) ?_
  refine z_ki (va_runV (As := [.int (nI p)]) (rest := []) hfix (zcX1_at l D cI H (a + 1) 12 v p (va_P.sub (ws' := (zRow cI (a + 1) 12 v)) hH [1, 2] rfl) (by omega) (by omega)) (cwV 1 hts gX0_value_X1_at rfl rfl rfl (by decide +kernel) ⟨Nat.le_of_ble_eq_true rfl, Nat.le_of_ble_eq_true rfl⟩) (z_preV hK hK hH (ci := 1) (q0 := 1) rfl rfl rfl) rfl rfl hl.1 rfl (lv_room (Nat.le_of_ble_eq_true rfl)) dX0_value_5 ⟨by omega, by omega⟩) ?_
  exact z_iret hx hb hr hlocks dX0_value_8
set_option maxHeartbeats 4000000 in
set_option maxRecDepth 100000 in
/-- Halves.from -/
theorem zcX0_from (l : Launch) (D : va_G) (cI : ClassId) (H : Heap) (a : Nat) (v : Nat → Int32) (f : Nat → Int32) (w : Nat → Int32) (p : Nat) (hH : va_P D vwCl (zHalves cI a v f w) H) (hp : p < 12) : Met l yX0_from wsX0_from ({ frames := 1, cells := 0, slots := 0, locals := 21 } : Room) (zPc D [(cI, .int)] H [.ref a, .int (nI p)]) (zQ (some (.int (f p))) H) 0 0 (fun _ => False) := by
  refine z_enter (cc := cX0_from) (maxL := 2) (ret := (some .int)) (by decide) rfl (Nat.le_of_ble_eq_true rfl) ?_
  intro pg ev s m args below meth cd hfix hr hlocks hname hK hHs ls hl
  obtain ⟨hx, hb, hml, hown, hts⟩ := id hfix
  have hl : lv_has ls 2 [(0, .ref a), (1, .int (nI p))] := hl
  have hinX0 : ∀ w ∈ wsX00, w ∈ wsX0_from := by decide +kernel
  refine lv_aload_n hx hb dX0_from_0 rfl (lv_at hl 0 rfl) ?_
  refine va_get (D := D) (ci := 0) (v := .ref (a + 3)) (C := RX0) (T := TX0) (N := 3) hx hb hts hinX0 hown hK hH 0 rfl rfl 1 (by decide) (hts _ (List.mem_of_getElem? (i := 1) rfl)) (fun _ h9 => h9) rfl dX0_from_1 ?_
  refine lv_iload_n hx hb dX0_from_4 rfl (lv_at hl 1 rfl) ?_
  refine z_ki (va_runV (As := [.int (nI p)]) (rest := []) hfix (zcX1_at l D cI H (a + 3) 12 f p (va_P.sub (ws' := (zRow cI (a + 3) 12 f)) hH [3, 4] rfl) (by omega) (by omega)) (cwV 1 hts gX0_from_X1_at rfl rfl rfl (by decide +kernel) ⟨Nat.le_of_ble_eq_true rfl, Nat.le_of_ble_eq_true rfl⟩) (z_preV hK hK hH (ci := 1) (q0 := 3) rfl rfl rfl) rfl rfl hl.1 rfl (lv_room (Nat.le_of_ble_eq_true rfl)) dX0_from_5 ⟨by omega, by omega⟩) ?_
  exact z_iret hx hb hr hlocks dX0_from_8
set_option maxHeartbeats 4000000 in
set_option maxRecDepth 100000 in
/-- Halves.over -/
theorem zcX0_over (l : Launch) (D : va_G) (cI : ClassId) (H : Heap) (a : Nat) (v : Nat → Int32) (f : Nat → Int32) (w : Nat → Int32) (p : Nat) (hH : va_P D vwCl (zHalves cI a v f w) H) (hp : p < 12) : Met l yX0_over wsX0_over ({ frames := 1, cells := 0, slots := 0, locals := 21 } : Room) (zPc D [(cI, .int)] H [.ref a, .int (nI p)]) (zQ (some (.int (w p))) H) 0 0 (fun _ => False) := by
  refine z_enter (cc := cX0_over) (maxL := 2) (ret := (some .int)) (by decide) rfl (Nat.le_of_ble_eq_true rfl) ?_
  intro pg ev s m args below meth cd hfix hr hlocks hname hK hHs ls hl
  obtain ⟨hx, hb, hml, hown, hts⟩ := id hfix
  have hl : lv_has ls 2 [(0, .ref a), (1, .int (nI p))] := hl
  have hinX0 : ∀ w ∈ wsX00, w ∈ wsX0_over := by decide +kernel
  refine lv_aload_n hx hb dX0_over_0 rfl (lv_at hl 0 rfl) ?_
  refine va_get (D := D) (ci := 0) (v := .ref (a + 5)) (C := RX0) (T := TX0) (N := 3) hx hb hts hinX0 hown hK hH 0 rfl rfl 2 (by decide) (hts _ (List.mem_of_getElem? (i := 1) rfl)) (fun _ h9 => h9) rfl dX0_over_1 ?_
  refine lv_iload_n hx hb dX0_over_4 rfl (lv_at hl 1 rfl) ?_
  refine z_ki (va_runV (As := [.int (nI p)]) (rest := []) hfix (zcX1_at l D cI H (a + 5) 12 w p (va_P.sub (ws' := (zRow cI (a + 5) 12 w)) hH [5, 6] rfl) (by omega) (by omega)) (cwV 1 hts gX0_over_X1_at rfl rfl rfl (by decide +kernel) ⟨Nat.le_of_ble_eq_true rfl, Nat.le_of_ble_eq_true rfl⟩) (z_preV hK hK hH (ci := 1) (q0 := 5) rfl rfl rfl) rfl rfl hl.1 rfl (lv_room (Nat.le_of_ble_eq_true rfl)) dX0_over_5 ⟨by omega, by omega⟩) ?_
  exact z_iret hx hb hr hlocks dX0_over_8
set_option maxHeartbeats 4000000 in
set_option maxRecDepth 100000 in
/-- Halves.takeFromCourt -/
theorem zcX0_takeFromCourt (l : Launch) (D : va_G) (cI : ClassId) (H : Heap) (a : Nat) (v : Nat → Int32) (f : Nat → Int32) (w : Nat → Int32) (p : Nat) (x : Int32) (hH : va_P D vwCl (zHalves cI a v f w) H) (hp : p < 12) : Met l yX0_takeFromCourt wsX0_takeFromCourt ({ frames := 1, cells := 0, slots := 0, locals := 22 } : Room) (zPc D [(cI, .int)] H [.ref a, .int (nI p), .int x]) (zM (fun H1 => va_P D vwCl (zHalves cI a (upd v p x) (upd f p (-1)) (upd w p 0)) H1 ∧ H1.size = H.size) none (zF (a + 1) (a + 7))) 0 0 (zF (a + 1) (a + 7)) := by
  refine z_enter (cc := cX0_takeFromCourt) (maxL := 3) (ret := none) (by decide) rfl (Nat.le_of_ble_eq_true rfl) ?_
  intro pg ev s m args below meth cd hfix hr hlocks hname hK hHs ls hl
  obtain ⟨hx, hb, hml, hown, hts⟩ := id hfix
  have hl : lv_has ls 3 [(0, .ref a), (1, .int (nI p)), (2, .int x)] := hl
  have hS : va_S (zF (a + 1) (a + 7)) s.heap H [] := by rw [hHs]; exact va_S.rf
  have hz : H.size = H.size := rfl
  have hinX0 : ∀ w ∈ wsX00, w ∈ wsX0_takeFromCourt := by decide +kernel
  refine lv_aload_n hx hb dX0_takeFromCourt_0 rfl (lv_at hl 0 rfl) ?_
  refine va_get (D := D) (ci := 0) (v := .ref (a + 1)) (C := RX0) (T := TX0) (N := 3) hx hb hts hinX0 hown hK hH 0 rfl rfl 0 (by decide) (hts _ (List.mem_of_getElem? (i := 1) rfl)) (fun _ h9 => h9) rfl dX0_takeFromCourt_1 ?_
  refine lv_iload_n hx hb dX0_takeFromCourt_4 rfl (lv_at hl 1 rfl) ?_
  refine lv_iload_n hx hb dX0_takeFromCourt_5 rfl (lv_at hl 2 rfl) ?_
  refine z_mv (va_runV (As := [.int (nI p), .int x]) (rest := []) hfix (zcX1_put l D cI H (a + 1) 12 v p x (va_P.sub (ws' := (zRow cI (a + 1) 12 v)) hH [1, 2] rfl) (by omega) (by omega)) (cwV 2 hts gX0_takeFromCourt_X1_put rfl rfl rfl (by decide +kernel) ⟨Nat.le_of_ble_eq_true rfl, Nat.le_of_ble_eq_true rfl⟩) (z_preV hK hK hH (ci := 1) (q0 := 1) rfl rfl rfl) rfl rfl hl.1 rfl (lv_room (Nat.le_of_ble_eq_true rfl)) dX0_takeFromCourt_6 ⟨by omega, by omega⟩) hS (fun q _ h => by simp only [zF] at h ⊢; omega) (fun q h => by simp only [zF] at h ⊢; omega) (fun H1 lo2 hB hz1 hk1 hS => ?_)
  have hz : H1.size = H.size := (hB.2).trans hz
  have hH3 : va_P D vwCl (zHalves cI a (upd v p x) f w) H1 := zH_sub 0 hH (by decide) hB.1 (fun q h1 h2 => hk1 q h1 (fun h3 => h2 (by simp only [zF] at h3 ⊢; omega)))
  refine lv_aload_n hx hb dX0_takeFromCourt_9 rfl (lv_at hl 0 rfl) ?_
  refine va_get (D := D) (ci := 0) (v := .ref (a + 3)) (C := RX0) (T := TX0) (N := 3) hx hb hts hinX0 hown hK hH3 0 rfl rfl 1 (by decide) (hts _ (List.mem_of_getElem? (i := 2) rfl)) (fun _ h9 => h9) rfl dX0_takeFromCourt_10 ?_
  refine lv_iload_n hx hb dX0_takeFromCourt_13 rfl (lv_at hl 1 rfl) ?_
  refine lv_iconst (v := (-1)) hx hb dX0_takeFromCourt_14 (by decide) ?_
  refine z_mv (va_runV (As := [.int (nI p), .int (-1)]) (rest := []) hfix (zcX1_put l D cI H1 (a + 3) 12 f p (-1) (va_P.sub (ws' := (zRow cI (a + 3) 12 f)) hH3 [3, 4] rfl) (by omega) (by omega)) (cwV 2 hts gX0_takeFromCourt_X1_put rfl rfl rfl (by decide +kernel) ⟨Nat.le_of_ble_eq_true rfl, Nat.le_of_ble_eq_true rfl⟩) (z_preV hK hK hH3 (ci := 1) (q0 := 3) rfl rfl rfl) rfl rfl hl.1 rfl (lv_room (Nat.le_of_ble_eq_true rfl)) dX0_takeFromCourt_15 ⟨by omega, by omega⟩) hS (fun q _ h => by simp only [zF] at h ⊢; omega) (fun q h => by simp only [zF] at h ⊢; omega) (fun H4 lo5 hB hz1 hk1 hS => ?_)
  have hz : H4.size = H.size := (hB.2).trans hz
  have hH6 : va_P D vwCl (zHalves cI a (upd v p x) (upd f p (-1)) w) H4 := zH_sub 1 hH3 (by decide) hB.1 (fun q h1 h2 => hk1 q h1 (fun h3 => h2 (by simp only [zF] at h3 ⊢; omega)))
  refine lv_aload_n hx hb dX0_takeFromCourt_18 rfl (lv_at hl 0 rfl) ?_
  refine va_get (D := D) (ci := 0) (v := .ref (a + 5)) (C := RX0) (T := TX0) (N := 3) hx hb hts hinX0 hown hK hH6 0 rfl rfl 2 (by decide) (hts _ (List.mem_of_getElem? (i := 3) rfl)) (fun _ h9 => h9) rfl dX0_takeFromCourt_19 ?_
  refine lv_iload_n hx hb dX0_takeFromCourt_22 rfl (lv_at hl 1 rfl) ?_
  refine lv_iconst (v := 0) hx hb dX0_takeFromCourt_23 (by decide) ?_
  refine z_mv (va_runV (As := [.int (nI p), .int 0]) (rest := []) hfix (zcX1_put l D cI H4 (a + 5) 12 w p 0 (va_P.sub (ws' := (zRow cI (a + 5) 12 w)) hH6 [5, 6] rfl) (by omega) (by omega)) (cwV 2 hts gX0_takeFromCourt_X1_put rfl rfl rfl (by decide +kernel) ⟨Nat.le_of_ble_eq_true rfl, Nat.le_of_ble_eq_true rfl⟩) (z_preV hK hK hH6 (ci := 1) (q0 := 5) rfl rfl rfl) rfl rfl hl.1 rfl (lv_room (Nat.le_of_ble_eq_true rfl)) dX0_takeFromCourt_24 ⟨by omega, by omega⟩) hS (fun q _ h => by simp only [zF] at h ⊢; omega) (fun q h => by simp only [zF] at h ⊢; omega) (fun H7 lo8 hB hz1 hk1 hS => ?_)
  have hz : H7.size = H.size := (hB.2).trans hz
  have hH9 : va_P D vwCl (zHalves cI a (upd v p x) (upd f p (-1)) (upd w p 0)) H7 := zH_sub 2 hH6 (by decide) hB.1 (fun q h1 h2 => hk1 q h1 (fun h3 => h2 (by simp only [zF] at h3 ⊢; omega)))
  exact z_vretM (⟨hH9, hz⟩) hx hb hr hlocks hS dX0_takeFromCourt_27
set_option maxHeartbeats 4000000 in
set_option maxRecDepth 100000 in
/-- Halves.takeFrom another -/
theorem zcX0_takeFrom (l : Launch) (D : va_G) (cI : ClassId) (H : Heap) (a : Nat) (v : Nat → Int32) (f : Nat → Int32) (w : Nat → Int32) (a2 : Nat) (v2 : Nat → Int32) (f2 : Nat → Int32) (w2 : Nat → Int32) (p : Nat) (o : Nat) (hH : va_P D vwCl (zHalves cI a v f w) H) (hH2 : va_P D vwCl (zHalves cI a2 v2 f2 w2) H) (hp : p < 12) (ho : o < 12) (hd : a + 7 ≤ a2 ∨ a2 + 7 ≤ a) : Met l yX0_takeFrom wsX0_takeFrom ({ frames := 1, cells := 0, slots := 0, locals := 22 } : Room) (zPc D [(cI, .int)] H [.ref a, .int (nI p), .int (nI o), .ref a2]) (zM (fun H1 => va_P D vwCl (zHalves cI a (upd v p (v2 o)) (upd f p (nI o)) (upd w p (zmin (w2 o + 1) 99))) H1 ∧ H1.size = H.size) none (zF (a + 1) (a + 7))) 0 0 (zF (a + 1) (a + 7)) := by
  refine z_enter (cc := cX0_takeFrom) (maxL := 4) (ret := none) (by decide) rfl (Nat.le_of_ble_eq_true rfl) ?_
  intro pg ev s m args below meth cd hfix hr hlocks hname hK hHs ls hl
  obtain ⟨hx, hb, hml, hown, hts⟩ := id hfix
  have hl : lv_has ls 4 [(0, .ref a), (1, .int (nI p)), (2, .int (nI o)), (3, .ref a2)] := hl
  have hS : va_S (zF (a + 1) (a + 7)) s.heap H [] := by rw [hHs]; exact va_S.rf
  have hz : H.size = H.size := rfl
  have hinX0 : ∀ w ∈ wsX00, w ∈ wsX0_takeFrom := by decide +kernel
  have hI := hH2
  refine lv_aload_n hx hb dX0_takeFrom_0 rfl (lv_at hl 0 rfl) ?_
  refine va_get (D := D) (ci := 0) (v := .ref (a + 1)) (C := RX0) (T := TX0) (N := 3) hx hb hts hinX0 hown hK hH 0 rfl rfl 0 (by decide) (hts _ (List.mem_of_getElem? (i := 1) rfl)) (fun _ h9 => h9) rfl dX0_takeFrom_1 ?_
  refine lv_iload_n hx hb dX0_takeFrom_4 rfl (lv_at hl 1 rfl) ?_
  refine lv_aload_n hx hb dX0_takeFrom_5 rfl (lv_at hl 3 rfl) ?_
  refine va_get (D := D) (ci := 0) (v := .ref (a2 + 1)) (C := RX0) (T := TX0) (N := 3) hx hb hts hinX0 hown hK hI 0 rfl rfl 0 (by decide) (hts _ (List.mem_of_getElem? (i := 1) rfl)) (fun _ h9 => h9) rfl dX0_takeFrom_6 ?_
  refine lv_iload_n hx hb dX0_takeFrom_9 rfl (lv_at hl 2 rfl) ?_
  refine z_ki (va_runV (As := [.int (nI o)]) (rest := [.int (nI p), .ref (a + 1)]) hfix (zcX1_at l D cI H (a2 + 1) 12 v2 o (va_P.sub (ws' := (zRow cI (a2 + 1) 12 v2)) hI [1, 2] rfl) (by omega) (by omega)) (cwV 1 hts gX0_takeFrom_X1_at rfl rfl rfl (by decide +kernel) ⟨Nat.le_of_ble_eq_true rfl, Nat.le_of_ble_eq_true rfl⟩) (z_preV hK hK hI (ci := 1) (q0 := 1) rfl rfl rfl) rfl rfl hl.1 rfl (lv_room (Nat.le_of_ble_eq_true rfl)) dX0_takeFrom_10 ⟨by omega, by omega⟩) ?_
  refine z_mv (va_runV (As := [.int (nI p), .int (v2 o)]) (rest := []) hfix (zcX1_put l D cI H (a + 1) 12 v p (v2 o) (va_P.sub (ws' := (zRow cI (a + 1) 12 v)) hH [1, 2] rfl) (by omega) (by omega)) (cwV 2 hts gX0_takeFrom_X1_put rfl rfl rfl (by decide +kernel) ⟨Nat.le_of_ble_eq_true rfl, Nat.le_of_ble_eq_true rfl⟩) (z_preV hK hK hH (ci := 1) (q0 := 1) rfl rfl rfl) rfl rfl hl.1 rfl (lv_room (Nat.le_of_ble_eq_true rfl)) dX0_takeFrom_13 ⟨by omega, by omega⟩) hS (fun q _ h => by simp only [zF] at h ⊢; omega) (fun q h => by simp only [zF] at h ⊢; omega) (fun H1 lo2 hB hz1 hk1 hS => ?_)
  have hz : H1.size = H.size := (hB.2).trans hz
  have hH3 : va_P D vwCl (zHalves cI a (upd v p (v2 o)) f w) H1 := zH_sub 0 hH (by decide) hB.1 (fun q h1 h2 => hk1 q h1 (fun h3 => h2 (by simp only [zF] at h3 ⊢; omega)))
  have hI4 := zH_kept hI (fun q h1 h2 h3 => hk1 q h1 (z_nF (by omega)))
  refine lv_aload_n hx hb dX0_takeFrom_16 rfl (lv_at hl 0 rfl) ?_
  refine va_get (D := D) (ci := 0) (v := .ref (a + 3)) (C := RX0) (T := TX0) (N := 3) hx hb hts hinX0 hown hK hH3 0 rfl rfl 1 (by decide) (hts _ (List.mem_of_getElem? (i := 2) rfl)) (fun _ h9 => h9) rfl dX0_takeFrom_17 ?_
  refine lv_iload_n hx hb dX0_takeFrom_20 rfl (lv_at hl 1 rfl) ?_
  refine lv_iload_n hx hb dX0_takeFrom_21 rfl (lv_at hl 2 rfl) ?_
  refine z_mv (va_runV (As := [.int (nI p), .int (nI o)]) (rest := []) hfix (zcX1_put l D cI H1 (a + 3) 12 f p (nI o) (va_P.sub (ws' := (zRow cI (a + 3) 12 f)) hH3 [3, 4] rfl) (by omega) (by omega)) (cwV 2 hts gX0_takeFrom_X1_put rfl rfl rfl (by decide +kernel) ⟨Nat.le_of_ble_eq_true rfl, Nat.le_of_ble_eq_true rfl⟩) (z_preV hK hK hH3 (ci := 1) (q0 := 3) rfl rfl rfl) rfl rfl hl.1 rfl (lv_room (Nat.le_of_ble_eq_true rfl)) dX0_takeFrom_22 ⟨by omega, by omega⟩) hS (fun q _ h => by simp only [zF] at h ⊢; omega) (fun q h => by simp only [zF] at h ⊢; omega) (fun H5 lo6 hB hz1 hk1 hS => ?_)
  have hz : H5.size = H.size := (hB.2).trans hz
  have hH7 : va_P D vwCl (zHalves cI a (upd v p (v2 o)) (upd f p (nI o)) w) H5 := zH_sub 1 hH3 (by decide) hB.1 (fun q h1 h2 => hk1 q h1 (fun h3 => h2 (by simp only [zF] at h3 ⊢; omega)))
  have hI8 := zH_kept hI4 (fun q h1 h2 h3 => hk1 q h1 (z_nF (by omega)))
  refine lv_aload_n hx hb dX0_takeFrom_25 rfl (lv_at hl 0 rfl) ?_
  refine va_get (D := D) (ci := 0) (v := .ref (a + 5)) (C := RX0) (T := TX0) (N := 3) hx hb hts hinX0 hown hK hH7 0 rfl rfl 2 (by decide) (hts _ (List.mem_of_getElem? (i := 3) rfl)) (fun _ h9 => h9) rfl dX0_takeFrom_26 ?_
  refine lv_iload_n hx hb dX0_takeFrom_29 rfl (lv_at hl 1 rfl) ?_
  refine lv_aload_n hx hb dX0_takeFrom_30 rfl (lv_at hl 3 rfl) ?_
  refine va_get (D := D) (ci := 0) (v := .ref (a2 + 5)) (C := RX0) (T := TX0) (N := 3) hx hb hts hinX0 hown hK hI8 0 rfl rfl 2 (by decide) (hts _ (List.mem_of_getElem? (i := 3) rfl)) (fun _ h9 => h9) rfl dX0_takeFrom_31 ?_
  refine lv_iload_n hx hb dX0_takeFrom_34 rfl (lv_at hl 2 rfl) ?_
  refine z_ki (va_runV (As := [.int (nI o)]) (rest := [.int (nI p), .ref (a + 5)]) hfix (zcX1_at l D cI H5 (a2 + 5) 12 w2 o (va_P.sub (ws' := (zRow cI (a2 + 5) 12 w2)) hI8 [5, 6] rfl) (by omega) (by omega)) (cwV 1 hts gX0_takeFrom_X1_at rfl rfl rfl (by decide +kernel) ⟨Nat.le_of_ble_eq_true rfl, Nat.le_of_ble_eq_true rfl⟩) (z_preV hK hK hI8 (ci := 1) (q0 := 5) rfl rfl rfl) rfl rfl hl.1 rfl (lv_room (Nat.le_of_ble_eq_true rfl)) dX0_takeFrom_35 ⟨by omega, by omega⟩) ?_
  refine lv_iconst (v := 1) hx hb dX0_takeFrom_38 (by decide) ?_
  refine lv_iadd hx hb dX0_takeFrom_39 ?_
  refine lv_bipush (v := 99) hx hb dX0_takeFrom_40 (by decide) ?_
  refine va_mmin hx hb (by rw [hml]; exact hl.1.symm) hown (hts _ (List.mem_of_getElem? (i := 4) rfl)) (hts _ (List.mem_of_getElem? (i := 5) rfl)) (hts _ (List.mem_of_getElem? (i := 6) rfl)) (hts _ (List.mem_of_getElem? (i := 7) rfl)) (Nat.le_of_ble_eq_true rfl) (Nat.le_of_ble_eq_true rfl) (by omega) (by omega) dX0_takeFrom_42 ?_
  refine z_toi (y := zmin ((w2 o) + 1) 99) rfl ?_
  refine z_mv (va_runV (As := [.int (nI p), .int (zmin ((w2 o) + 1) 99)]) (rest := []) hfix (zcX1_put l D cI H5 (a + 5) 12 w p (zmin ((w2 o) + 1) 99) (va_P.sub (ws' := (zRow cI (a + 5) 12 w)) hH7 [5, 6] rfl) (by omega) (by omega)) (cwV 2 hts gX0_takeFrom_X1_put rfl rfl rfl (by decide +kernel) ⟨Nat.le_of_ble_eq_true rfl, Nat.le_of_ble_eq_true rfl⟩) (z_preV hK hK hH7 (ci := 1) (q0 := 5) rfl rfl rfl) rfl rfl hl.1 rfl (lv_room (Nat.le_of_ble_eq_true rfl)) dX0_takeFrom_45 ⟨by omega, by omega⟩) hS (fun q _ h => by simp only [zF] at h ⊢; omega) (fun q h => by simp only [zF] at h ⊢; omega) (fun H9 lo10 hB hz1 hk1 hS => ?_)
  have hz : H9.size = H.size := (hB.2).trans hz
  have hH11 : va_P D vwCl (zHalves cI a (upd v p (v2 o)) (upd f p (nI o)) (upd w p (zmin ((w2 o) + 1) 99))) H9 := zH_sub 2 hH7 (by decide) hB.1 (fun q h1 h2 => hk1 q h1 (fun h3 => h2 (by simp only [zF] at h3 ⊢; omega)))
  have hI12 := zH_kept hI8 (fun q h1 h2 h3 => hk1 q h1 (z_nF (by omega)))
  exact z_vretM (⟨hH11, hz⟩) hx hb hr hlocks hS dX0_takeFrom_48
set_option maxHeartbeats 4000000 in
set_option maxRecDepth 100000 in
/-- Halves.copyFrom another -/
theorem zcX0_copyFrom (l : Launch) (D : va_G) (cI : ClassId) (H : Heap) (a : Nat) (v : Nat → Int32) (f : Nat → Int32) (w : Nat → Int32) (a2 : Nat) (v2 : Nat → Int32) (f2 : Nat → Int32) (w2 : Nat → Int32) (hH : va_P D vwCl (zHalves cI a v f w) H) (hH2 : va_P D vwCl (zHalves cI a2 v2 f2 w2) H) (hd : a + 7 ≤ a2 ∨ a2 + 7 ≤ a) : Met l yX0_copyFrom wsX0_copyFrom ({ frames := 2, cells := 0, slots := 0, locals := 39 } : Room) (zPc D [(cI, .int)] H [.ref a, .ref a2]) (zM (fun H1 => va_P D vwCl (zHalves cI a v2 f2 w2) H1 ∧ H1.size = H.size) none (zF (a + 1) (a + 7))) 0 0 (zF (a + 1) (a + 7)) := by
  refine z_enter (cc := cX0_copyFrom) (maxL := 2) (ret := none) (by decide) rfl (Nat.le_of_ble_eq_true rfl) ?_
  intro pg ev s m args below meth cd hfix hr hlocks hname hK hHs ls hl
  obtain ⟨hx, hb, hml, hown, hts⟩ := id hfix
  have hl : lv_has ls 2 [(0, .ref a), (1, .ref a2)] := hl
  have hS : va_S (zF (a + 1) (a + 7)) s.heap H [] := by rw [hHs]; exact va_S.rf
  have hz : H.size = H.size := rfl
  have hinX0 : ∀ w ∈ wsX00, w ∈ wsX0_copyFrom := by decide +kernel
  have hI := hH2
  refine lv_aload_n hx hb dX0_copyFrom_0 rfl (lv_at hl 0 rfl) ?_
  refine va_get (D := D) (ci := 0) (v := .ref (a + 1)) (C := RX0) (T := TX0) (N := 3) hx hb hts hinX0 hown hK hH 0 rfl rfl 0 (by decide) (hts _ (List.mem_of_getElem? (i := 1) rfl)) (fun _ h9 => h9) rfl dX0_copyFrom_1 ?_
  refine lv_aload_n hx hb dX0_copyFrom_4 rfl (lv_at hl 1 rfl) ?_
  refine va_get (D := D) (ci := 0) (v := .ref (a2 + 1)) (C := RX0) (T := TX0) (N := 3) hx hb hts hinX0 hown hK hI 0 rfl rfl 0 (by decide) (hts _ (List.mem_of_getElem? (i := 1) rfl)) (fun _ h9 => h9) rfl dX0_copyFrom_5 ?_
  refine z_mv (va_runV (As := [.ref (a2 + 1)]) (rest := []) hfix (zcX1_copyFrom l D cI H (a + 1) (a2 + 1) 12 v v2 (va_P.sub (ws' := (zRow cI (a + 1) 12 v)) hH [1, 2] rfl) (va_P.sub (ws' := (zRow cI (a2 + 1) 12 v2)) hI [1, 2] rfl) (by omega) (by omega)) (cwV 1 hts gX0_copyFrom_X1_copyFrom rfl rfl rfl (by decide +kernel) ⟨Nat.le_of_ble_eq_true rfl, Nat.le_of_ble_eq_true rfl⟩) (z_preV hK hK hH (ci := 1) (q0 := 1) rfl rfl rfl) rfl rfl hl.1 rfl (lv_room (Nat.le_of_ble_eq_true rfl)) dX0_copyFrom_8 ⟨by omega, by omega⟩) hS (fun q _ h => by simp only [zF] at h ⊢; omega) (fun q h => by simp only [zF] at h ⊢; omega) (fun H1 lo2 hB hz1 hk1 hS => ?_)
  have hz : H1.size = H.size := (hB.2).trans hz
  have hH3 : va_P D vwCl (zHalves cI a v2 f w) H1 := zH_sub 0 hH (by decide) hB.1 (fun q h1 h2 => hk1 q h1 (fun h3 => h2 (by simp only [zF] at h3 ⊢; omega)))
  have hI4 := zH_kept hI (fun q h1 h2 h3 => hk1 q h1 (z_nF (by omega)))
  refine lv_aload_n hx hb dX0_copyFrom_11 rfl (lv_at hl 0 rfl) ?_
  refine va_get (D := D) (ci := 0) (v := .ref (a + 3)) (C := RX0) (T := TX0) (N := 3) hx hb hts hinX0 hown hK hH3 0 rfl rfl 1 (by decide) (hts _ (List.mem_of_getElem? (i := 2) rfl)) (fun _ h9 => h9) rfl dX0_copyFrom_12 ?_
  refine lv_aload_n hx hb dX0_copyFrom_15 rfl (lv_at hl 1 rfl) ?_
  refine va_get (D := D) (ci := 0) (v := .ref (a2 + 3)) (C := RX0) (T := TX0) (N := 3) hx hb hts hinX0 hown hK hI4 0 rfl rfl 1 (by decide) (hts _ (List.mem_of_getElem? (i := 2) rfl)) (fun _ h9 => h9) rfl dX0_copyFrom_16 ?_
  refine z_mv (va_runV (As := [.ref (a2 + 3)]) (rest := []) hfix (zcX1_copyFrom l D cI H1 (a + 3) (a2 + 3) 12 f f2 (va_P.sub (ws' := (zRow cI (a + 3) 12 f)) hH3 [3, 4] rfl) (va_P.sub (ws' := (zRow cI (a2 + 3) 12 f2)) hI4 [3, 4] rfl) (by omega) (by omega)) (cwV 1 hts gX0_copyFrom_X1_copyFrom rfl rfl rfl (by decide +kernel) ⟨Nat.le_of_ble_eq_true rfl, Nat.le_of_ble_eq_true rfl⟩) (z_preV hK hK hH3 (ci := 1) (q0 := 3) rfl rfl rfl) rfl rfl hl.1 rfl (lv_room (Nat.le_of_ble_eq_true rfl)) dX0_copyFrom_19 ⟨by omega, by omega⟩) hS (fun q _ h => by simp only [zF] at h ⊢; omega) (fun q h => by simp only [zF] at h ⊢; omega) (fun H5 lo6 hB hz1 hk1 hS => ?_)
  have hz : H5.size = H.size := (hB.2).trans hz
  have hH7 : va_P D vwCl (zHalves cI a v2 f2 w) H5 := zH_sub 1 hH3 (by decide) hB.1 (fun q h1 h2 => hk1 q h1 (fun h3 => h2 (by simp only [zF] at h3 ⊢; omega)))
  have hI8 := zH_kept hI4 (fun q h1 h2 h3 => hk1 q h1 (z_nF (by omega)))
  refine lv_aload_n hx hb dX0_copyFrom_22 rfl (lv_at hl 0 rfl) ?_
  refine va_get (D := D) (ci := 0) (v := .ref (a + 5)) (C := RX0) (T := TX0) (N := 3) hx hb hts hinX0 hown hK hH7 0 rfl rfl 2 (by decide) (hts _ (List.mem_of_getElem? (i := 3) rfl)) (fun _ h9 => h9) rfl dX0_copyFrom_23 ?_
  refine lv_aload_n hx hb dX0_copyFrom_26 rfl (lv_at hl 1 rfl) ?_
  refine va_get (D := D) (ci := 0) (v := .ref (a2 + 5)) (C := RX0) (T := TX0) (N := 3) hx hb hts hinX0 hown hK hI8 0 rfl rfl 2 (by decide) (hts _ (List.mem_of_getElem? (i := 3) rfl)) (fun _ h9 => h9) rfl dX0_copyFrom_27 ?_
  refine z_mv (va_runV (As := [.ref (a2 + 5)]) (rest := []) hfix (zcX1_copyFrom l D cI H5 (a + 5) (a2 + 5) 12 w w2 (va_P.sub (ws' := (zRow cI (a + 5) 12 w)) hH7 [5, 6] rfl) (va_P.sub (ws' := (zRow cI (a2 + 5) 12 w2)) hI8 [5, 6] rfl) (by omega) (by omega)) (cwV 1 hts gX0_copyFrom_X1_copyFrom rfl rfl rfl (by decide +kernel) ⟨Nat.le_of_ble_eq_true rfl, Nat.le_of_ble_eq_true rfl⟩) (z_preV hK hK hH7 (ci := 1) (q0 := 5) rfl rfl rfl) rfl rfl hl.1 rfl (lv_room (Nat.le_of_ble_eq_true rfl)) dX0_copyFrom_30 ⟨by omega, by omega⟩) hS (fun q _ h => by simp only [zF] at h ⊢; omega) (fun q h => by simp only [zF] at h ⊢; omega) (fun H9 lo10 hB hz1 hk1 hS => ?_)
  have hz : H9.size = H.size := (hB.2).trans hz
  have hH11 : va_P D vwCl (zHalves cI a v2 f2 w2) H9 := zH_sub 2 hH7 (by decide) hB.1 (fun q h1 h2 => hk1 q h1 (fun h3 => h2 (by simp only [zF] at h3 ⊢; omega)))
  have hI12 := zH_kept hI8 (fun q h1 h2 h3 => hk1 q h1 (z_nF (by omega)))
  exact z_vretM (⟨hH11, hz⟩) hx hb hr hlocks hS dX0_copyFrom_33
end
section
theorem zz_end : True := trivial
end
