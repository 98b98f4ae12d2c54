section
-- ===== PART A: goes FIRST, ahead of the names: the tables' words, and 'selects' of the private methods out of them =====
/-- a private method of a class that the tables say can be made, by its rows of tables_1 -/
def lw_okq (q : MethodName × Nat) : Prop := (q.1.cls ≠ "java/lang/invoke/MethodHandle" ∧ q.1.cls ≠ "java/lang/invoke/VarHandle") ∧ Cond.instantiable q.1.cls q.2 ∈ tables_1 ∧ Cond.privateMethod q.1 ∈ tables_1 ∧ Cond.instanceMethod q.1 ∈ tables_1
theorem lw_p0 : lw_okq (⟨"WholeNumbers", "keepResult", "(I)I"⟩, 6) := ⟨⟨by decide +kernel, by decide +kernel⟩, List.mem_of_getElem? (i := 17) (by decide +kernel), List.mem_of_getElem? (i := 208) (by decide +kernel), List.mem_of_getElem? (i := 209) (by decide +kernel)⟩
theorem lw_p1 : lw_okq (⟨"WholeNumbers$Natural", "addRow", "(LWholeNumbers$Natural;JI)I"⟩, 2) := ⟨⟨by decide +kernel, by decide +kernel⟩, List.mem_of_getElem? (i := 32) (by decide +kernel), List.mem_of_getElem? (i := 244) (by decide +kernel), List.mem_of_getElem? (i := 245) (by decide +kernel)⟩
theorem lw_p2 : lw_okq (⟨"WholeNumbers$Euclid", "foreseeSteps", "()Z"⟩, 7) := ⟨⟨by decide +kernel, by decide +kernel⟩, List.mem_of_getElem? (i := 82) (by decide +kernel), List.mem_of_getElem? (i := 259) (by decide +kernel), List.mem_of_getElem? (i := 260) (by decide +kernel)⟩
theorem lw_p3 : lw_okq (⟨"WholeNumbers$Euclid", "takeForeseenSteps", "()V"⟩, 7) := ⟨⟨by decide +kernel, by decide +kernel⟩, List.mem_of_getElem? (i := 82) (by decide +kernel), List.mem_of_getElem? (i := 272) (by decide +kernel), List.mem_of_getElem? (i := 273) (by decide +kernel)⟩
theorem lw_p4 : lw_okq (⟨"WholeNumbers$Euclid", "takeStep", "()V"⟩, 7) := ⟨⟨by decide +kernel, by decide +kernel⟩, List.mem_of_getElem? (i := 82) (by decide +kernel), List.mem_of_getElem? (i := 282) (by decide +kernel), List.mem_of_getElem? (i := 283) (by decide +kernel)⟩
theorem lw_p5 : lw_okq (⟨"WholeNumbers$LongDivision", "takeDigit", "(I)I"⟩, 3) := ⟨⟨by decide +kernel, by decide +kernel⟩, List.mem_of_getElem? (i := 61) (by decide +kernel), List.mem_of_getElem? (i := 298) (by decide +kernel), List.mem_of_getElem? (i := 299) (by decide +kernel)⟩
theorem lw_p6 : lw_okq (⟨"WholeNumbers$LongDivision", "guessDigit", "(I)I"⟩, 3) := ⟨⟨by decide +kernel, by decide +kernel⟩, List.mem_of_getElem? (i := 61) (by decide +kernel), List.mem_of_getElem? (i := 302) (by decide +kernel), List.mem_of_getElem? (i := 303) (by decide +kernel)⟩
theorem lw_p7 : lw_okq (⟨"WholeNumbers$LongDivision", "subtractAt", "(IJ)Z"⟩, 3) := ⟨⟨by decide +kernel, by decide +kernel⟩, List.mem_of_getElem? (i := 61) (by decide +kernel), List.mem_of_getElem? (i := 308) (by decide +kernel), List.mem_of_getElem? (i := 309) (by decide +kernel)⟩
theorem lw_p8 : lw_okq (⟨"WholeNumbers$LongDivision", "addBackAt", "(I)V"⟩, 3) := ⟨⟨by decide +kernel, by decide +kernel⟩, List.mem_of_getElem? (i := 61) (by decide +kernel), List.mem_of_getElem? (i := 313) (by decide +kernel), List.mem_of_getElem? (i := 314) (by decide +kernel)⟩
theorem lw_p9 : lw_okq (⟨"WholeNumbers", "takePower", "(LWholeNumbers$Whole;I)Z"⟩, 6) := ⟨⟨by decide +kernel, by decide +kernel⟩, List.mem_of_getElem? (i := 17) (by decide +kernel), List.mem_of_getElem? (i := 336) (by decide +kernel), List.mem_of_getElem? (i := 337) (by decide +kernel)⟩
theorem lw_p10 : lw_okq (⟨"WholeNumbers", "multiplyResult", "(LWholeNumbers$Whole;)Z"⟩, 6) := ⟨⟨by decide +kernel, by decide +kernel⟩, List.mem_of_getElem? (i := 17) (by decide +kernel), List.mem_of_getElem? (i := 340) (by decide +kernel), List.mem_of_getElem? (i := 341) (by decide +kernel)⟩
theorem lw_p11 : lw_okq (⟨"WholeNumbers$Text", "appendDigitsBackwards", "(LWholeNumbers$Natural;I)V"⟩, 2) := ⟨⟨by decide +kernel, by decide +kernel⟩, List.mem_of_getElem? (i := 112) (by decide +kernel), List.mem_of_getElem? (i := 410) (by decide +kernel), List.mem_of_getElem? (i := 411) (by decide +kernel)⟩
theorem lw_p12 : lw_okq (⟨"WholeNumbers$Text", "reverse", "()V"⟩, 2) := ⟨⟨by decide +kernel, by decide +kernel⟩, List.mem_of_getElem? (i := 112) (by decide +kernel), List.mem_of_getElem? (i := 433) (by decide +kernel), List.mem_of_getElem? (i := 434) (by decide +kernel)⟩
theorem lw_p13 : lw_okq (⟨"WholeNumbers$Text", "firstDigit", "()I"⟩, 2) := ⟨⟨by decide +kernel, by decide +kernel⟩, List.mem_of_getElem? (i := 112) (by decide +kernel), List.mem_of_getElem? (i := 458) (by decide +kernel), List.mem_of_getElem? (i := 459) (by decide +kernel)⟩
theorem lw_p14 : lw_okq (⟨"WholeNumbers$Text", "pieceBetween", "(III)I"⟩, 2) := ⟨⟨by decide +kernel, by decide +kernel⟩, List.mem_of_getElem? (i := 112) (by decide +kernel), List.mem_of_getElem? (i := 473) (by decide +kernel), List.mem_of_getElem? (i := 474) (by decide +kernel)⟩
theorem lw_p15 : lw_okq (⟨"java/lang/Throwable", "fillInStackTrace", "(I)Ljava/lang/Throwable;"⟩, 6) := ⟨⟨by decide +kernel, by decide +kernel⟩, List.mem_of_getElem? (i := 527) (by decide +kernel), List.mem_of_getElem? (i := 525) (by decide +kernel), List.mem_of_getElem? (i := 526) (by decide +kernel)⟩
def lw_privs_1 : List (MethodName × Nat) := [(⟨"WholeNumbers", "keepResult", "(I)I"⟩, 6), (⟨"WholeNumbers$Natural", "addRow", "(LWholeNumbers$Natural;JI)I"⟩, 2), (⟨"WholeNumbers$Euclid", "foreseeSteps", "()Z"⟩, 7), (⟨"WholeNumbers$Euclid", "takeForeseenSteps", "()V"⟩, 7), (⟨"WholeNumbers$Euclid", "takeStep", "()V"⟩, 7), (⟨"WholeNumbers$LongDivision", "takeDigit", "(I)I"⟩, 3), (⟨"WholeNumbers$LongDivision", "guessDigit", "(I)I"⟩, 3), (⟨"WholeNumbers$LongDivision", "subtractAt", "(IJ)Z"⟩, 3), (⟨"WholeNumbers$LongDivision", "addBackAt", "(I)V"⟩, 3), (⟨"WholeNumbers", "takePower", "(LWholeNumbers$Whole;I)Z"⟩, 6), (⟨"WholeNumbers", "multiplyResult", "(LWholeNumbers$Whole;)Z"⟩, 6), (⟨"WholeNumbers$Text", "appendDigitsBackwards", "(LWholeNumbers$Natural;I)V"⟩, 2), (⟨"WholeNumbers$Text", "reverse", "()V"⟩, 2), (⟨"WholeNumbers$Text", "firstDigit", "()I"⟩, 2), (⟨"WholeNumbers$Text", "pieceBetween", "(III)I"⟩, 2), (⟨"java/lang/Throwable", "fillInStackTrace", "(I)Ljava/lang/Throwable;"⟩, 6)]
theorem lw_r1 : ∀ q ∈ lw_privs_1, lw_okq q := List.forall_mem_cons.mpr ⟨lw_p0, List.forall_mem_cons.mpr ⟨lw_p1, List.forall_mem_cons.mpr ⟨lw_p2, List.forall_mem_cons.mpr ⟨lw_p3, List.forall_mem_cons.mpr ⟨lw_p4, List.forall_mem_cons.mpr ⟨lw_p5, List.forall_mem_cons.mpr ⟨lw_p6, List.forall_mem_cons.mpr ⟨lw_p7, List.forall_mem_cons.mpr ⟨lw_p8, List.forall_mem_cons.mpr ⟨lw_p9, List.forall_mem_cons.mpr ⟨lw_p10, List.forall_mem_cons.mpr ⟨lw_p11, List.forall_mem_cons.mpr ⟨lw_p12, List.forall_mem_cons.mpr ⟨lw_p13, List.forall_mem_cons.mpr ⟨lw_p14, List.forall_mem_cons.mpr ⟨lw_p15, fun _ h => absurd h List.not_mem_nil⟩⟩⟩⟩⟩⟩⟩⟩⟩⟩⟩⟩⟩⟩⟩⟩
theorem lw_p16 : lw_okq (⟨"WholeNumbers", "cutQuotient", "(LWholeNumbers$Whole;LWholeNumbers$Whole;)V"⟩, 6) := ⟨⟨by decide +kernel, by decide +kernel⟩, List.mem_of_getElem? (i := 17) (by decide +kernel), List.mem_of_getElem? (i := 557) (by decide +kernel), List.mem_of_getElem? (i := 558) (by decide +kernel)⟩
theorem lw_p17 : lw_okq (⟨"WholeNumbers", "stepDown", "(LWholeNumbers$Whole;)V"⟩, 6) := ⟨⟨by decide +kernel, by decide +kernel⟩, List.mem_of_getElem? (i := 17) (by decide +kernel), List.mem_of_getElem? (i := 562) (by decide +kernel), List.mem_of_getElem? (i := 563) (by decide +kernel)⟩
theorem lw_p18 : lw_okq (⟨"WholeNumbers", "takeRoot", "(LWholeNumbers$Natural;)V"⟩, 6) := ⟨⟨by decide +kernel, by decide +kernel⟩, List.mem_of_getElem? (i := 17) (by decide +kernel), List.mem_of_getElem? (i := 592) (by decide +kernel), List.mem_of_getElem? (i := 593) (by decide +kernel)⟩
theorem lw_p19 : lw_okq (⟨"WholeNumbersModel", "toX", "(I)V"⟩, 14) := ⟨⟨by decide +kernel, by decide +kernel⟩, List.mem_of_getElem? (i := 598) (by decide +kernel), List.mem_of_getElem? (i := 669) (by decide +kernel), List.mem_of_getElem? (i := 670) (by decide +kernel)⟩
theorem lw_p20 : lw_okq (⟨"WholeNumbersModel", "toY", "(I)V"⟩, 14) := ⟨⟨by decide +kernel, by decide +kernel⟩, List.mem_of_getElem? (i := 598) (by decide +kernel), List.mem_of_getElem? (i := 673) (by decide +kernel), List.mem_of_getElem? (i := 674) (by decide +kernel)⟩
theorem lw_p21 : lw_okq (⟨"WholeNumbersModel", "multiply", "()V"⟩, 14) := ⟨⟨by decide +kernel, by decide +kernel⟩, List.mem_of_getElem? (i := 598) (by decide +kernel), List.mem_of_getElem? (i := 677) (by decide +kernel), List.mem_of_getElem? (i := 678) (by decide +kernel)⟩
theorem lw_p22 : lw_okq (⟨"WholeNumbersModel", "put", "(I[III)I"⟩, 14) := ⟨⟨by decide +kernel, by decide +kernel⟩, List.mem_of_getElem? (i := 598) (by decide +kernel), List.mem_of_getElem? (i := 684) (by decide +kernel), List.mem_of_getElem? (i := 685) (by decide +kernel)⟩
theorem lw_p23 : lw_okq (⟨"WholeNumbersModel", "isWithin", "([II)Z"⟩, 14) := ⟨⟨by decide +kernel, by decide +kernel⟩, List.mem_of_getElem? (i := 598) (by decide +kernel), List.mem_of_getElem? (i := 688) (by decide +kernel), List.mem_of_getElem? (i := 689) (by decide +kernel)⟩
theorem lw_p24 : lw_okq (⟨"WholeNumbersModel", "bitsOf", "(I)I"⟩, 14) := ⟨⟨by decide +kernel, by decide +kernel⟩, List.mem_of_getElem? (i := 598) (by decide +kernel), List.mem_of_getElem? (i := 695) (by decide +kernel), List.mem_of_getElem? (i := 696) (by decide +kernel)⟩
theorem lw_p25 : lw_okq (⟨"WholeNumbersModel", "sum", "(II)I"⟩, 14) := ⟨⟨by decide +kernel, by decide +kernel⟩, List.mem_of_getElem? (i := 598) (by decide +kernel), List.mem_of_getElem? (i := 702) (by decide +kernel), List.mem_of_getElem? (i := 703) (by decide +kernel)⟩
theorem lw_p26 : lw_okq (⟨"WholeNumbersModel", "split", "()V"⟩, 14) := ⟨⟨by decide +kernel, by decide +kernel⟩, List.mem_of_getElem? (i := 598) (by decide +kernel), List.mem_of_getElem? (i := 716) (by decide +kernel), List.mem_of_getElem? (i := 717) (by decide +kernel)⟩
theorem lw_p27 : lw_okq (⟨"WholeNumbersModel", "isOne", "()Z"⟩, 14) := ⟨⟨by decide +kernel, by decide +kernel⟩, List.mem_of_getElem? (i := 598) (by decide +kernel), List.mem_of_getElem? (i := 731) (by decide +kernel), List.mem_of_getElem? (i := 732) (by decide +kernel)⟩
theorem lw_p28 : lw_okq (⟨"WholeNumbersModel", "anyBelow", "(II)Z"⟩, 14) := ⟨⟨by decide +kernel, by decide +kernel⟩, List.mem_of_getElem? (i := 598) (by decide +kernel), List.mem_of_getElem? (i := 763) (by decide +kernel), List.mem_of_getElem? (i := 764) (by decide +kernel)⟩
theorem lw_p29 : lw_okq (⟨"WholeNumbersModel", "isLong", "(I)Z"⟩, 14) := ⟨⟨by decide +kernel, by decide +kernel⟩, List.mem_of_getElem? (i := 598) (by decide +kernel), List.mem_of_getElem? (i := 771) (by decide +kernel), List.mem_of_getElem? (i := 772) (by decide +kernel)⟩
def lw_privs_2 : List (MethodName × Nat) := [(⟨"WholeNumbers", "cutQuotient", "(LWholeNumbers$Whole;LWholeNumbers$Whole;)V"⟩, 6), (⟨"WholeNumbers", "stepDown", "(LWholeNumbers$Whole;)V"⟩, 6), (⟨"WholeNumbers", "takeRoot", "(LWholeNumbers$Natural;)V"⟩, 6), (⟨"WholeNumbersModel", "toX", "(I)V"⟩, 14), (⟨"WholeNumbersModel", "toY", "(I)V"⟩, 14), (⟨"WholeNumbersModel", "multiply", "()V"⟩, 14), (⟨"WholeNumbersModel", "put", "(I[III)I"⟩, 14), (⟨"WholeNumbersModel", "isWithin", "([II)Z"⟩, 14), (⟨"WholeNumbersModel", "bitsOf", "(I)I"⟩, 14), (⟨"WholeNumbersModel", "sum", "(II)I"⟩, 14), (⟨"WholeNumbersModel", "split", "()V"⟩, 14), (⟨"WholeNumbersModel", "isOne", "()Z"⟩, 14), (⟨"WholeNumbersModel", "anyBelow", "(II)Z"⟩, 14), (⟨"WholeNumbersModel", "isLong", "(I)Z"⟩, 14)]
theorem lw_r2 : ∀ q ∈ lw_privs_2, lw_okq q := List.forall_mem_cons.mpr ⟨lw_p16, List.forall_mem_cons.mpr ⟨lw_p17, List.forall_mem_cons.mpr ⟨lw_p18, List.forall_mem_cons.mpr ⟨lw_p19, List.forall_mem_cons.mpr ⟨lw_p20, List.forall_mem_cons.mpr ⟨lw_p21, List.forall_mem_cons.mpr ⟨lw_p22, List.forall_mem_cons.mpr ⟨lw_p23, List.forall_mem_cons.mpr ⟨lw_p24, List.forall_mem_cons.mpr ⟨lw_p25, List.forall_mem_cons.mpr ⟨lw_p26, List.forall_mem_cons.mpr ⟨lw_p27, List.forall_mem_cons.mpr ⟨lw_p28, List.forall_mem_cons.mpr ⟨lw_p29, fun _ h => absurd h List.not_mem_nil⟩⟩⟩⟩⟩⟩⟩⟩⟩⟩⟩⟩⟩⟩
def lw_privs : List (MethodName × Nat) := lw_privs_1 ++ (lw_privs_2)
def lw_tbl : List Cond := k2_sels lw_privs ++ tables_1
theorem lw_privs_ok : ∀ q ∈ lw_privs, lw_okq q := by
  show ∀ q ∈ lw_privs_1 ++ (lw_privs_2), lw_okq q
  exact List.forall_mem_append.mpr ⟨lw_r1, lw_r2⟩
/-! ===== BEGIN words of one list among another's, by their places ===== -/
theorem goodIn_r {big : List Cond} (ws : List Cond) (ps : List Nat) (hp : ws = ps.filterMap (fun i => big[i]?)) (h : ws.all goodWord = true) : GoodIn big ws := by
  intro w hw
  have h1 := List.all_eq_true.mp h w hw
  rw [hp] at hw
  obtain ⟨i, -, hi⟩ := List.mem_filterMap.mp hw
  have hm : w ∈ big := by first | exact List.mem_of_getElem? hi | exact List.getElem?_mem hi
  exact ⟨hm, good_of_word h1⟩
theorem goodIn_app {big a b : List Cond} (ha : GoodIn big a) (hb : GoodIn big b) : GoodIn big (a ++ b) := fun w h => (List.mem_append.mp h).elim (ha w) (hb w)
theorem goodIn_ca {big a b : List Cond} {c : Cond} (ha : GoodIn big (c :: a)) (hb : GoodIn big b) : GoodIn big (c :: (a ++ b)) := fun w h => (List.mem_cons.mp h).elim (fun e => ha w (List.mem_cons.mpr (Or.inl e))) (fun h => (List.mem_append.mp h).elim (fun h => ha w (List.mem_cons.mpr (Or.inr h))) (hb w))
theorem goodIn_sub {big ws : List Cond} (hm : ∀ w ∈ ws, w ∈ big) (h : ws.all goodWord = true) : GoodIn big ws := fun w hw => ⟨hm w hw, good_of_word (List.all_eq_true.mp h w hw)⟩
/-! ===== END ===== -/

/-! ===== BEGIN exceptions that leave a method, and their catching by the caller (launches without stack traces) ===== -/
section VXA
/-! The laws vx_back, vx_callV, vx_callS, vx_callSW, vx_throw0, vx_throwS follow proofs of the library, with one case more: JvmDerived/Free/Laws.lean (Back.of_free), Shelf42/LK1.lean (callV, callS), Shelf/KitTraced.lean (throwNew0V, throwNewS). -/
/-- where a method has thrown q: the class by its name, the cell, what was written, the world -/
def vx_T (XC : String → State → State → Prop) (st : State) (q : Addr) (t : State) (mc ms : Nat) (free : Addr → Prop) : Prop :=
  ∃ (E : String) (ce : Cell) (L : List Loc), XC E st t ∧ t.heap[q]? = some ce ∧ ce.vm = .none ∧ st.vm.findClass E = some ce.cls ∧ st.WarmedH t.vm ∧ st.sameButNew ({ t with vm := st.vm } : State) L mc ms ∧ ∀ z ∈ L, free z.base
def vx_Q (Qc : Array Value → State → Outcome → State → Prop) (XC : String → State → State → Prop) (mc ms : Nat) (free : Addr → Prop) : Array Value → State → Outcome → State → Prop := fun a st o t =>
  (Qc a st o t ∧ ∃ L, FrameEnd st o t L mc ms ∧ ∀ q ∈ L, free q.base) ∨ ∃ q, o = .threw q ∧ vx_T XC st q t mc ms free
/-- a callee that returns or throws -/
def vx_Met (l : Launch) (y : MethodName) (ws : List Cond) (rm : Room) (Pc : Array Value → State → Prop) (Qc : Array Value → State → Outcome → State → Prop) (XC : String → State → State → Prop) (mc ms : Nat) (free : Addr → Prop) : Prop :=
  MetFree l y (headSpec ws rm) Pc (fun _ _ _ _ _ => True) (vx_Q Qc XC mc ms free)
def vx_Post (XC : String → State → State → Prop) (mc ms : Nat) (free : Addr → Prop) : Pt → Array Value → Addr → Pt → Prop := fun A a q B =>
  ∃ (g : JFrame) (mk : MethodId) (t : State) (L : List Loc) (E : String) (ce : Cell), B.U.heap = t.heap ∧ B.U.vm = t.vm ∧ XC E (A.U.calling g mk a) t ∧ t.heap[q]? = some ce ∧ ce.vm = .none ∧ A.U.vm.findClass E = some ce.cls ∧ B.locs = A.locs ++ L ∧ (∀ z ∈ L, free z.base) ∧ B.cells = A.cells + mc ∧ B.slots = A.slots + ms
def vx_Back (l : Launch) (R : Room) (p : Program) (e : Env) (below : List Frame) (s : State) (sargs : Array Value) (y : MethodName) (len W9 : Nat)
    (Pre : Pt → Array Value → Prop) (Post : Pt → Array Value → Option Value → Pt → Prop) (PostX : Pt → Array Value → Addr → Pt → Prop) : Prop :=
  ∀ (m : MethodId) (meth : Method) (c : Code) (A : Pt) (g : JFrame) (ig : Instr) (mk : MethodId) (a : Array Value),
    Stand p l e R s m sargs below meth c A.U A.locs A.cells A.slots → g.method = m → g.locals.size = c.maxLocals → decode c.code g.pc = .ok (ig, len) →
    2 * g.monitorRoom + (g.stack.map fun v => v.category).sum ≤ W9 → A.U.methodNamed? y = some mk → Pre A a →
    (∃ (v : Option Value) (B : Pt), Stand p l e R s m sargs below meth c B.U B.locs B.cells B.slots ∧ Post A a v B ∧
      Steps p.tables e below (doInvoke e (A.U.setTop g) [] mk a).1 (B.U.setTop { g with pc := g.pc + len, stack := v.toList ++ g.stack })) ∨
    (∃ (q : Addr) (B : Pt), Stand p l e R s m sargs below meth c B.U B.locs B.cells B.slots ∧ PostX A a q B ∧
      Steps p.tables e below (doInvoke e (A.U.setTop g) [] mk a).1 ((B.U.setTop g).pushFrame (.throwing q)))
section Payer
variable {l : Launch} {R : Room} {p : Program} {e : Env} {below : List Frame} {s : State} {sargs : Array Value} {y : MethodName} {len W9 : Nat}
theorem vx_back {ws : List Cond} {rm : Room} {Pc : Array Value → State → Prop} {Qc : Array Value → State → Outcome → State → Prop} {XC : String → State → State → Prop} {mc ms : Nat} {free : Addr → Prop} {bytes : ByteArray} {maxL : Nat} {ret : Option FieldType}
    (hM : vx_Met l y ws rm Pc Qc XC mc ms free) (hblind : FrameBlind Pc) (hrc : rm.cells = mc) (hrs : rm.slots = ms)
    (hframes : rm.frames + 1 ≤ R.frames) (hlocals : W9 + (maxL + 11) + rm.locals ≤ R.locals)
    (hws : ∀ w ∈ ws, ∀ a' U, s.WarmedH U.vm → w.before a' U = true) (hcode : Cond.code y bytes maxL ret ∈ ws) (hinit : ∀ a' U, s.WarmedH U.vm → (Cond.initialized y.cls).before a' U = true) :
    vx_Back l R p e below s sargs y len W9 (PreOf R mc ms Pc) (PostOf Qc mc ms free) (vx_Post XC mc ms free) := by
  intro m meth c A g ig mk a X hg hsize hdg hW hn hp
  have h1 : (headSpec ws rm).pre.before a A.U = true := atoms_intro fun w hw => hws w hw _ _ X.warmed
  have h2 : (Cond.code y bytes maxL ret).before a A.U = true := hws _ hcode _ _ X.warmed
  have h3 : (Cond.initialized y.cls).before a A.U = true := hinit _ _ X.warmed
  have h4 : A.cells + (headSpec ws rm).room.cells ≤ R.cells := by rw [show (headSpec ws rm).room.cells = mc from hrc]; exact hp.1
  have h5 : A.slots + (headSpec ws rm).room.slots ≤ R.slots := by rw [show (headSpec ws rm).room.slots = ms from hrs]; exact hp.2.1
  have hPc : Pc a (A.U.calling g mk a) := hblind _ _ _ _ hp.2.2
  obtain ⟨U, Ls, c0, s0⟩ := A
  dsimp only [Pt.U, Pt.locs, Pt.cells, Pt.slots] at h1 h2 h3 h4 h5 X hn hPc ⊢
  obtain ⟨methY, cY, hmY, hcY, -, hlY, -, -, -, -⟩ := Cond.code_spec hn h2
  obtain ⟨kY, hkY, -⟩ := className_of_methodNamed hn
  have hinitY : kY.init = .initialized := Cond.initialized_spec (findClass_of_methodNamed hn) hkY h3
  have h : At U g.method c below := by rw [hg]; exact X.here
  have hlocals9 : W9 + (maxL + 11) + (headSpec ws rm).room.locals ≤ R.locals := hlocals
  have happ : (headSpec ws rm).appliesLoose y e.platform (U.calling g mk a) = true :=
    Spec.appliesLoose_calling (g := g) h hdg hn hkY hinitY
      (X.room_calling (g := g) (R' := (headSpec ws rm).room) hsize hmY hcY hframes (by rw [hlY]; omega) h4 h5) h1
  obtain ⟨mid, hmid⟩ := h.above
  have hfr : (U.setTop g).frames = (.java g :: mid) ++ below := by rw [State.frames_setTop' g h.top, hmid]; rfl
  obtain ⟨o, s₂, hsteps, -, hend, hq⟩ := Steps.callFree hM p X.admits X.cas X.clock (acts := []) hfr happ hPc trivial
  have hq' : vx_Q Qc XC mc ms free a (U.calling g mk a) o s₂ := hq
  rw [State.frames_setTop' g h.top] at hend
  obtain ⟨g₀, hg0⟩ := Option.isSome_iff_exists.mp h.top
  obtain ⟨r, hr⟩ := State.topJava?_eq_some.mp hg0
  have hr' : (({ U with heap := s₂.heap, slotsUsed := s₂.slotsUsed } : State).setVm s₂.vm).frames = .java g₀ :: r := hr
  rcases hq' with ⟨hqc, L, hfe, hL⟩ | ⟨q, rfl, E, ce, L, hx, hce, hcv, hcl, hW₂, hsm, hL⟩
  · obtain ⟨⟨v, rfl⟩, hW₂, e2, q2, q3, q4, q5, q6⟩ := id hfe
    have e3 : s₂ = ({ (U.calling g mk a).setFrames s₂.frames with heap := s₂.heap, slotsUsed := s₂.slotsUsed } : State).setVm s₂.vm := by
      have : s₂ = ({ s₂ with vm := (U.calling g mk a).vm } : State).setVm s₂.vm := rfl
      rw [e2] at this
      exact this
    obtain ⟨c₂, i₂, len₂, hc₂, hd₂, hf₂⟩ := hend
    have hW' : U.WarmedH s₂.vm := hW₂
    have hcc : c₂ = c := by
      have h1 : s₂.code? g.method = U.code? g.method := by
        rw [State.code?_eq, State.code?_eq, hW'.alike.method?]
      exact Option.some.inj (hc₂.symm.trans (h1.trans h.code))
    subst hcc
    have hlen : len₂ = len := by rw [hdg] at hd₂; cases hd₂; rfl
    subst hlen
    have hs₂ : s₂ = (({ U with heap := s₂.heap, slotsUsed := s₂.slotsUsed } : State).setVm s₂.vm).setTop { g with pc := g.pc + len₂, stack := v.toList ++ g.stack } := by
      refine e3.trans ?_
      rw [hf₂, State.calling_eq h.top, State.setFrames_setFrames, State.setTop_of_frames _ hr', hr]
      rfl
    have hsame : U.sameButNew ({ U with heap := s₂.heap, slotsUsed := s₂.slotsUsed } : State) L mc ms := by
      refine ⟨?_, q2, q3, q4, q5, q6⟩
      obtain ⟨t, ht, -⟩ := State.frames_cons hr
      show ({ U with heap := s₂.heap, slotsUsed := s₂.slotsUsed } : State) = { U.setFrames U.frames with heap := s₂.heap, slotsUsed := s₂.slotsUsed }
      rw [State.setFrames_self ht]
    subst hg
    refine Or.inl ⟨v, ⟨(({ U with heap := s₂.heap, slotsUsed := s₂.slotsUsed } : State).setVm s₂.vm), Ls ++ L, c0 + mc, s0 + ms⟩,
      ⟨X.admits, X.cas, X.clock, X.frames, X.room, X.hears, X.method, X.code, (X.here.setHeapUsed s₂.heap s₂.slotsUsed).setVm hW'.alike, X.tail, State.WarmedH.trans X.warmed hW', X.limits, X.bytes, X.same.trans (hsame.setVm s.vm)⟩,
      ⟨g, mk, s₂, L, rfl, rfl, hqc, rfl, hL, rfl, rfl⟩, ?_⟩
    show Steps p.tables e below _ ((({ U with heap := s₂.heap, slotsUsed := s₂.slotsUsed } : State).setVm s₂.vm).setTop { g with pc := g.pc + len₂, stack := v.toList ++ g.stack })
    rw [← hs₂]
    exact hsteps
  · obtain ⟨e2, q2, q3, q4, q5, q6⟩ := id hsm
    have e3 : s₂ = ({ (U.calling g mk a).setFrames s₂.frames with heap := s₂.heap, slotsUsed := s₂.slotsUsed } : State).setVm s₂.vm := by
      have : s₂ = ({ s₂ with vm := (U.calling g mk a).vm } : State).setVm s₂.vm := rfl
      rw [e2] at this
      exact this
    have hf₂ : s₂.frames = .throwing q :: .java g :: U.frames.tail := hend
    have hW' : U.WarmedH s₂.vm := hW₂
    have hs₂ : s₂ = ((({ U with heap := s₂.heap, slotsUsed := s₂.slotsUsed } : State).setVm s₂.vm).setTop g).pushFrame (.throwing q) := by
      refine e3.trans ?_
      rw [hf₂, State.calling_eq h.top, State.setFrames_setFrames, State.pushFrame, State.frames_setTop _ hr', State.setTop_of_frames _ hr', State.setFrames_setFrames, hr]
      rfl
    have hsame : U.sameButNew ({ U with heap := s₂.heap, slotsUsed := s₂.slotsUsed } : State) L mc ms := by
      refine ⟨?_, q2, q3, q4, q5, q6⟩
      obtain ⟨t, ht, -⟩ := State.frames_cons hr
      show ({ U with heap := s₂.heap, slotsUsed := s₂.slotsUsed } : State) = { U.setFrames U.frames with heap := s₂.heap, slotsUsed := s₂.slotsUsed }
      rw [State.setFrames_self ht]
    subst hg
    refine Or.inr ⟨q, ⟨(({ U with heap := s₂.heap, slotsUsed := s₂.slotsUsed } : State).setVm s₂.vm), Ls ++ L, c0 + mc, s0 + ms⟩,
      ⟨X.admits, X.cas, X.clock, X.frames, X.room, X.hears, X.method, X.code, (X.here.setHeapUsed s₂.heap s₂.slotsUsed).setVm hW'.alike, X.tail, State.WarmedH.trans X.warmed hW', X.limits, X.bytes, X.same.trans (hsame.setVm s.vm)⟩,
      ⟨g, mk, s₂, L, E, ce, rfl, rfl, hx, hce, hcv, hcl, rfl, hL, rfl, rfl⟩, ?_⟩
    show Steps p.tables e below _ (((({ U with heap := s₂.heap, slotsUsed := s₂.slotsUsed } : State).setVm s₂.vm).setTop g).pushFrame (.throwing q))
    rw [← hs₂]
    exact hsteps
end Payer
section Calls
variable {p : Program} {l : Launch} {e : Env} {R : Room} {s : State} {m : MethodId} {args : Array Value} {below : List Frame} {meth : Method} {c : Code} {T : State} {locs : List Loc} {cells slots : Nat}
theorem vx_callV (X : Stand p l e R s m args below meth c T locs cells slots) (hexec : p.tables.exec = Jvm.exec) {own C : String} {index : Nat} {y : MethodName} {bytes : ByteArray} {maxL : Nat} {ret : Option FieldType}
    (hown : s.vm.findClass own = some m.cls) (hlink : (Cond.methodLink own index y).before args s = true) (hinst : (Cond.instanceMethod y).before args s = true) (hsel : (Cond.selects C y y).before args s = true)
    (hcode : (Cond.code y bytes maxL ret).before args s = true) (hy : y.cls ≠ "java/lang/invoke/MethodHandle" ∧ y.cls ≠ "java/lang/invoke/VarHandle")
    {W9 : Nat} {Pre : Pt → Array Value → Prop} {Post : Pt → Array Value → Option Value → Pt → Prop} {PostX : Pt → Array Value → Addr → Pt → Prop} (hK : vx_Back l R p e below s args y 3 W9 Pre Post PostX)
    {b : Addr} {cellB : Cell} (hcell : T.heap[b]? = some cellB) (hobj : cellB.vm.isStatics = false) (hcls : s.vm.findClass C = some cellB.cls)
    {g : JFrame} (hg : g.method = m) (hsize : g.locals.size = c.maxLocals) {argsL rest : List Value} (hlen : ∀ sig, parseMethodDescriptor y.desc = some sig → argsL.length = sig.parameters.length)
    (hstack : g.stack = argsL.reverse ++ .ref b :: rest) (hW : 2 * g.monitorRoom + (rest.map fun v => v.category).sum ≤ W9) (hdg : decode c.code g.pc = .ok (.invokevirtual index, 3))
    (hpre : ∀ vm₁, s.WarmedH vm₁ → Pre ⟨T.setVm vm₁, locs, cells, slots⟩ (Value.ref b :: argsL).toArray) :
    (∃ (v : Option Value) (vm₁ : Vm) (B : Pt), s.WarmedH vm₁ ∧ Stand p l e R s m args below meth c B.U B.locs B.cells B.slots ∧ Post ⟨T.setVm vm₁, locs, cells, slots⟩ (Value.ref b :: argsL).toArray v B ∧
      ∀ target, Steps p.tables e below (B.U.setTop { g with pc := g.pc + 3, stack := v.toList ++ rest }) target → Steps p.tables e below (T.setTop g) target) ∨
    (∃ (q : Addr) (vm₁ : Vm) (B : Pt), s.WarmedH vm₁ ∧ Stand p l e R s m args below meth c B.U B.locs B.cells B.slots ∧ PostX ⟨T.setVm vm₁, locs, cells, slots⟩ (Value.ref b :: argsL).toArray q B ∧
      Steps p.tables e below (T.setTop g) ((B.U.setTop { g with stack := rest }).pushFrame (.throwing q))) := by
  obtain ⟨mk, methM, hnamed, hmethM, hstM, habM⟩ := Cond.instanceMethod_spec hinst
  obtain ⟨methM', cM, hmethM', -, -, -, -, -, -, hsigM⟩ := Cond.code_spec hnamed hcode
  cases hmethM.symm.trans hmethM'
  obtain ⟨c2, r2, m2, q1, q2, q3, q4, kP, hkP, hkPi⟩ := Cond.selects_spec hsel
  cases hcls.symm.trans q1
  cases (State.methodFound?_of_named hnamed hy).symm.trans q2
  cases hnamed.symm.trans q3
  have hselP : selectMethod e.platform s.vm cellB.cls mk = .method mk := by rw [Launch.admits_selectMethod X.admits]; exact q4
  obtain ⟨vm₁, X₁, hstep₁⟩ := X.invokevirtual hexec hown hlink hnamed hmethM hstM hkP hkPi hy (a := b) (cell := cellB) hcell
    (fun z h => by rw [h] at hobj; cases hobj) hselP hmethM habM hkP hkPi (g := g) hg (argsL := argsL) (rest := rest) (hlen _ hsigM) hstack hdg
  rcases hK m meth c ⟨T.setVm vm₁, locs, cells, slots⟩ { g with stack := rest } (.invokevirtual index) mk (Value.ref b :: argsL).toArray X₁ hg hsize hdg hW (X₁.named hnamed) (hpre vm₁ X₁.warmed) with ⟨v, B, X', hpost, hsteps⟩ | ⟨q, B, X', hpost, hsteps⟩
  · exact Or.inl ⟨v, vm₁, B, X₁.warmed, X', hpost, fun target h => hstep₁ _ fun acts => by rw [doInvoke_state]; exact hsteps.trans h⟩
  · exact Or.inr ⟨q, vm₁, B, X₁.warmed, X', hpost, hstep₁ _ fun acts => by rw [doInvoke_state]; exact hsteps⟩
theorem vx_callS (X : Stand p l e R s m args below meth c T locs cells slots) (hexec : p.tables.exec = Jvm.exec) {own : String} {index : Nat} {y : MethodName} {bytes : ByteArray} {maxL : Nat} {ret : Option FieldType}
    (hown : s.vm.findClass own = some m.cls) (hlink : (Cond.methodLink own index y).before args s = true) (hstat : (Cond.static y).before args s = true) (hinit : (Cond.initialized y.cls).before args s = true)
    (hcode : (Cond.code y bytes maxL ret).before args s = true) (hy : y.cls ≠ "java/lang/invoke/MethodHandle" ∧ y.cls ≠ "java/lang/invoke/VarHandle")
    {W9 : Nat} {Pre : Pt → Array Value → Prop} {Post : Pt → Array Value → Option Value → Pt → Prop} {PostX : Pt → Array Value → Addr → Pt → Prop} (hK : vx_Back l R p e below s args y 3 W9 Pre Post PostX)
    {g : JFrame} (hg : g.method = m) (hsize : g.locals.size = c.maxLocals) {argsL rest : List Value} (hlen : ∀ sig, parseMethodDescriptor y.desc = some sig → argsL.length = sig.parameters.length)
    (hstack : g.stack = argsL.reverse ++ rest) (hW : 2 * g.monitorRoom + (rest.map fun v => v.category).sum ≤ W9) (hdg : decode c.code g.pc = .ok (.invokestatic index, 3))
    (hpre : ∀ vm₁, s.WarmedH vm₁ → Pre ⟨T.setVm vm₁, locs, cells, slots⟩ argsL.toArray) :
    (∃ (v : Option Value) (vm₁ : Vm) (B : Pt), s.WarmedH vm₁ ∧ Stand p l e R s m args below meth c B.U B.locs B.cells B.slots ∧ Post ⟨T.setVm vm₁, locs, cells, slots⟩ argsL.toArray v B ∧
      ∀ target, Steps p.tables e below (B.U.setTop { g with pc := g.pc + 3, stack := v.toList ++ rest }) target → Steps p.tables e below (T.setTop g) target) ∨
    (∃ (q : Addr) (vm₁ : Vm) (B : Pt), s.WarmedH vm₁ ∧ Stand p l e R s m args below meth c B.U B.locs B.cells B.slots ∧ PostX ⟨T.setVm vm₁, locs, cells, slots⟩ argsL.toArray q B ∧
      Steps p.tables e below (T.setTop g) ((B.U.setTop { g with stack := rest }).pushFrame (.throwing q))) := by
  obtain ⟨mk, hnamed⟩ := Cond.code_named hcode
  obtain ⟨methM, cM, hmethM, -, -, -, -, -, -, hsigM⟩ := Cond.code_spec hnamed hcode
  have hstatic : methM.isStatic = true := Cond.static_spec hnamed hmethM hstat
  obtain ⟨kP, hkP, -⟩ := className_of_methodNamed hnamed
  have hinitP : kP.init = .initialized := Cond.initialized_spec (findClass_of_methodNamed hnamed) hkP hinit
  obtain ⟨vm₁, X₁, hstep₁⟩ := X.invokestatic hexec hown hlink hnamed hmethM hstatic hkP hinitP hy (g := g) hg (argsL := argsL) (rest := rest) (hlen _ hsigM) hstack hdg
  rcases hK m meth c ⟨T.setVm vm₁, locs, cells, slots⟩ { g with stack := rest } (.invokestatic index) mk argsL.toArray X₁ hg hsize hdg hW (X₁.named hnamed) (hpre vm₁ X₁.warmed) with ⟨v, B, X', hpost, hsteps⟩ | ⟨q, B, X', hpost, hsteps⟩
  · exact Or.inl ⟨v, vm₁, B, X₁.warmed, X', hpost, fun target h => hstep₁ _ fun acts => by rw [doInvoke_state]; exact hsteps.trans h⟩
  · exact Or.inr ⟨q, vm₁, B, X₁.warmed, X', hpost, hstep₁ _ fun acts => by rw [doInvoke_state]; exact hsteps⟩
end Calls
theorem vx_cls {s : State} {T : State} {vm₁ : Vm} {E : String} {k : ClassId} (hW : s.WarmedH vm₁) (h : (T.setVm vm₁).vm.findClass E = some k) : s.vm.findClass E = some k := by
  have h1 : vm₁.findClass E = some k := h
  rw [hW.alike.findClass] at h1
  exact h1
/-- the method's frame g, with q thrown over it -/
def vx_W (p : Program) (l : Launch) (e : Env) (R : Room) (s : State) (m : MethodId) (args : Array Value) (below : List Frame) (meth : Method) (c : Code) (H : Heap) (locs : List Loc) (cells slots : Nat) (Q : State → Prop) (g : JFrame) (q : Addr) : Prop :=
  ∀ T : State, T.heap = H → Stand p l e R s m args below meth c T locs cells slots → ∃ t, Steps p.tables e below ((T.setTop g).pushFrame (.throwing q)) t ∧ Q t
def vx_Run (p : Program) (l : Launch) (e : Env) (R : Room) (s : State) (m : MethodId) (args : Array Value) (below : List Frame) (meth : Method) (c : Code) (H : Heap) (locs : List Loc) (cells slots mc ms : Nat) (g : JFrame) (rest : List Value) (Qa : State → Outcome → State → Prop) (XC : String → State → State → Prop) (free : Addr → Prop) : Prop :=
  ∀ T : State, T.heap = H → Stand p l e R s m args below meth c T locs cells slots →
    (∃ (v : Option Value) (st₀ t T' : State) (L : List Loc), st₀.heap = H ∧ Stand p l e R s m args below meth c T' (locs ++ L) (cells + mc) (slots + ms) ∧ (∀ q ∈ L, free q.base) ∧ T'.heap = t.heap ∧ T'.vm = t.vm ∧ Qa st₀ (.returned v) t ∧
      Goes p e below T g T' { g with pc := g.pc + 3, stack := v.toList ++ rest }) ∨
    (∃ (q : Addr) (st₀ t T' : State) (L : List Loc) (E : String) (ce : Cell), st₀.heap = H ∧ Stand p l e R s m args below meth c T' (locs ++ L) (cells + mc) (slots + ms) ∧ (∀ z ∈ L, free z.base) ∧ T'.heap = t.heap ∧ T'.vm = t.vm ∧ XC E st₀ t ∧ t.heap[q]? = some ce ∧ ce.vm = .none ∧ s.vm.findClass E = some ce.cls ∧
      Steps p.tables e below (T.setTop g) ((T'.setTop { g with stack := rest }).pushFrame (.throwing q)))
def vx_X {S : Type} (px : S → Prop) (B : String → S → State → Prop) (A : Nat → Prop) : String → State → State → Prop := fun E st t => ∃ u : S, px u ∧ B E u t ∧ va_F A st t
section Runs
variable {p : Program} {l : Launch} {e : Env} {R : Room} {s : State} {m : MethodId} {args : Array Value} {below : List Frame} {meth : Method} {c : Code} {H : Heap} {locs : List Loc} {cells slots : Nat}
variable {y : MethodName} {bytes cc : ByteArray} {maxL nL mc ms n index : Nat} {ret : Option FieldType} {ws : List Cond} {rm : Room} {Pc : Array Value → State → Prop} {Qc : Array Value → State → Outcome → State → Prop} {XC : String → State → State → Prop} {free : Addr → Prop} {Ts : List Cond} {own C : String} {b : Addr} {As rest : List Value} {g : JFrame}
theorem vx_callBack (cb : CallB R s args own index y bytes maxL ret ws rm mc ms n) (hM : vx_Met l y ws rm Pc Qc XC mc ms free) (hbl : FrameBlind Pc) : vx_Back l R p e below s args y 3 8 (PreOf R mc ms Pc) (PostOf Qc mc ms free) (vx_Post XC mc ms free) := by
  obtain ⟨hrc, hrs, hfr, hlo, hws, hcw, -, hini, -⟩ := cb
  exact vx_back (bytes := bytes) (maxL := maxL) (ret := ret) hM hbl hrc hrs hfr hlo hws hcw (fun a' U hW => word_at hW (Or.inl (by first | rfl | simp [Cond.onTables, Cond.keeps, Cond.steady])) hini)
theorem vx_runV (S : CallFix p m c cc nL s args Ts own) (hM : vx_Met l y ws rm Pc Qc XC mc ms free) (cw : CallW R s args own C index y bytes maxL ret ws rm mc ms n) (hp : PreV s H C b Pc As)
    (hg : g.method = m) (hn : As.length = n) (hsize : g.locals.size = nL) (hstack : g.stack = As.reverse ++ .ref b :: rest) (hW : 2 * g.monitorRoom + (rest.map fun v => v.category).sum ≤ 8) (hdg : decode cc g.pc = .ok (.invokevirtual index, 3)) (hf : cells + mc ≤ R.cells ∧ slots + ms ≤ R.slots) :
    vx_Run p l e R s m args below meth c H locs cells slots mc ms g rest (Qc (Value.ref b :: As).toArray) XC free := by
  have hK : vx_Back l R p e below s args y 3 8 (PreOf R mc ms Pc) (PostOf Qc mc ms free) (vx_Post XC mc ms free) := vx_callBack cw.1 hM hp.1
  obtain ⟨⟨-, -, -, -, -, -, hcode, -, hy, hlen, hl⟩, hin, hse⟩ := cw
  obtain ⟨hx, hb, hml, ho, -⟩ := S
  obtain ⟨-, ⟨cellB, hcB, hoB, hclB⟩, hPc⟩ := hp
  intro T hT X
  rcases vx_callV X hx (C := C) (bytes := bytes) (maxL := maxL) (ret := ret) ho hl hin hse hcode hy hK (by rw [hT]; exact hcB) hoB hclB hg (hsize.trans hml.symm) (argsL := As) (rest := rest) (fun sig h => hn.trans (hlen sig h)) hstack hW (by rw [hb]; exact hdg)
    (fun vm₁ hW₁ => ⟨hf.1, hf.2, hPc (T.setVm vm₁) hT hW₁⟩) with ⟨v, vm₁, ⟨U', l2, c2, s2⟩, hW₁, X', ⟨g', mk, t, L, e1, e2, hq, h1, hL, h2, h3⟩, st⟩ | ⟨q, vm₁, ⟨U', l2, c2, s2⟩, hW₁, X', ⟨g', mk, t, L, E, ce, e1, e2, hq, hce, hcv, hcl, h1, hL, h2, h3⟩, st⟩
  · dsimp only [Pt.U, Pt.locs, Pt.cells, Pt.slots] at X' e1 e2 h1 h2 h3 st
    subst h1; subst h2; subst h3
    exact Or.inl ⟨v, (T.setVm vm₁).calling g' mk (Value.ref b :: As).toArray, t, U', L, hT, X', hL, e1, e2, hq, st⟩
  · dsimp only [Pt.U, Pt.locs, Pt.cells, Pt.slots] at X' e1 e2 h1 h2 h3 st hcl
    subst h1; subst h2; subst h3
    exact Or.inr ⟨q, (T.setVm vm₁).calling g' mk (Value.ref b :: As).toArray, t, U', L, E, ce, hT, X', hL, e1, e2, hq, hce, hcv, vx_cls hW₁ hcl, st⟩
theorem vx_runS (S : CallFix p m c cc nL s args Ts own) (hM : vx_Met l y ws rm Pc Qc XC mc ms free) (cw : CallB R s args own index y bytes maxL ret ws rm mc ms n ∧ (Cond.static y).before args s = true) (hp : PreS s H Pc As)
    (hg : g.method = m) (hn : As.length = n) (hsize : g.locals.size = nL) (hstack : g.stack = As.reverse ++ rest) (hW : 2 * g.monitorRoom + (rest.map fun v => v.category).sum ≤ 8) (hdg : decode cc g.pc = .ok (.invokestatic index, 3)) (hf : cells + mc ≤ R.cells ∧ slots + ms ≤ R.slots) :
    vx_Run p l e R s m args below meth c H locs cells slots mc ms g rest (Qc As.toArray) XC free := by
  have hK : vx_Back l R p e below s args y 3 8 (PreOf R mc ms Pc) (PostOf Qc mc ms free) (vx_Post XC mc ms free) := vx_callBack cw.1 hM hp.1
  obtain ⟨⟨-, -, -, -, -, -, hcode, hini, hy, hlen, hl⟩, hstt⟩ := cw
  obtain ⟨hx, hb, hml, ho, -⟩ := S
  intro T hT X
  rcases vx_callS X hx (bytes := bytes) (maxL := maxL) (ret := ret) ho hl hstt hini hcode hy hK hg (hsize.trans hml.symm) (argsL := As) (rest := rest) (fun sig h => hn.trans (hlen sig h)) hstack hW (by rw [hb]; exact hdg)
    (fun vm₁ hW₁ => ⟨hf.1, hf.2, hp.2 (T.setVm vm₁) hT hW₁⟩) with ⟨v, vm₁, ⟨U', l2, c2, s2⟩, hW₁, X', ⟨g', mk, t, L, e1, e2, hq, h1, hL, h2, h3⟩, st⟩ | ⟨q, vm₁, ⟨U', l2, c2, s2⟩, hW₁, X', ⟨g', mk, t, L, E, ce, e1, e2, hq, hce, hcv, hcl, h1, hL, h2, h3⟩, st⟩
  · dsimp only [Pt.U, Pt.locs, Pt.cells, Pt.slots] at X' e1 e2 h1 h2 h3 st
    subst h1; subst h2; subst h3
    exact Or.inl ⟨v, (T.setVm vm₁).calling g' mk As.toArray, t, U', L, hT, X', hL, e1, e2, hq, st⟩
  · dsimp only [Pt.U, Pt.locs, Pt.cells, Pt.slots] at X' e1 e2 h1 h2 h3 st hcl
    subst h1; subst h2; subst h3
    exact Or.inr ⟨q, (T.setVm vm₁).calling g' mk As.toArray, t, U', L, E, ce, hT, X', hL, e1, e2, hq, hce, hcv, vx_cls hW₁ hcl, st⟩
end Runs
section Rows
variable {p : Program} {l : Launch} {e : Env} {R : Room} {s : State} {m : MethodId} {args : Array Value} {below : List Frame} {meth : Method} {c : Code} {H : Heap} {locs : List Loc} {cells slots : Nat} {Q : State → Prop}
variable {mc ms : Nat} {free : Addr → Prop} {A0 A1 : Nat → Prop} {H0 : Heap} {a : Array Value} {pc : Nat} {ls : Array Slot} {st0 rest : List Value}
theorem vx_keep {st₀ t T' : State} {L : List Loc} (h0 : st₀.heap = H) (e1 : T'.heap = t.heap) (hS : va_S A0 H0 H locs) (hA : ∀ q, q < H.size → A1 q → A0 q) (hf : ∀ q, free q → A0 q) (hL : ∀ q ∈ L, free q.base) (hF : va_F A1 st₀ t) :
    H.size ≤ T'.heap.size ∧ (∀ q : Nat, q < H.size → ¬ A1 q → T'.heap[q]? = H[q]?) ∧ va_S A0 H0 T'.heap (locs ++ L) := by
  obtain ⟨hz, hk⟩ := hF
  rw [h0] at hz hk
  exact ⟨by rw [e1]; exact hz, fun q h1 h2 => by rw [e1]; exact hk q h1 h2,
    ⟨Nat.le_trans hS.1 (by rw [e1]; exact hz), fun q h1 h2 => by rw [e1, hk q (Nat.lt_of_lt_of_le h1 hS.1) (fun z => h2 (hA q (Nat.lt_of_lt_of_le h1 hS.1) z))]; exact hS.2.1 q h1 h2, fun q hq => by
      rcases List.mem_append.mp hq with h | h
      · exact hS.2.2 q h
      · exact hf _ (hL q h)⟩⟩
theorem vx_calli {S SX : Type} {post : Int32 → S → Prop} {px : SX → Prop} {B : S → State → Prop} {BX : String → SX → State → Prop} {AX : Nat → Prop} (hr : vx_Run p l e R s m args below meth c H locs cells slots mc ms (F0 m pc ls st0) rest (va_Qi post B A1 a) (vx_X px BX AX) free) (hS : va_S A0 H0 H locs) (hA : ∀ q, q < H.size → A1 q → A0 q) (hf : ∀ q, free q → A0 q) (hAX : ∀ q, q < H.size → AX q → A0 q)
    (kx : ∀ (E : String) (ce : Cell) (q9 : Addr) (u : SX) (t : State) (H1 : Heap) (locs1 : List Loc), t.heap = H1 → s.vm.Alike t.vm → px u → BX E u t → H.size ≤ H1.size → (∀ q : Nat, q < H.size → ¬ AX q → H1[q]? = H[q]?) → va_S A0 H0 H1 locs1 → H1[q9]? = some ce → ce.vm = .none → s.vm.findClass E = some ce.cls → vx_W p l e R s m args below meth c H1 locs1 (cells + mc) (slots + ms) Q (F0 m pc ls rest) q9)
    (kk : ∀ (r : Int32) (u : S) (t : State) (H1 : Heap) (locs1 : List Loc), t.heap = H1 → s.vm.Alike t.vm → post r u → B u t → H.size ≤ H1.size → (∀ q : Nat, q < H.size → ¬ A1 q → H1[q]? = H[q]?) → va_S A0 H0 H1 locs1 → W p l e R s m args below meth c H1 locs1 (cells + mc) (slots + ms) Q (F0 m (pc + 3) ls (.int r :: rest))) : W p l e R s m args below meth c H locs cells slots Q (F0 m pc ls st0) := by
  intro T hT X
  rcases hr T hT X with ⟨v, st₀, t, T', L, h0, X', hL, e1, e2, ⟨⟨r, u, hv, hp, hb⟩, hF⟩, st⟩ | ⟨q, st₀, t, T', L, E, ce, h0, X', hL, e1, e2, ⟨u, hp, hb, hF⟩, hce, hcv, hcl, st⟩
  · cases hv
    obtain ⟨k1, k2, k3⟩ := vx_keep h0 e1 hS hA hf hL hF
    obtain ⟨t2, a1, b1⟩ := kk r u t T'.heap (locs ++ L) e1.symm (by rw [← e2]; exact X'.warmed.alike) hp hb k1 k2 k3 T' rfl X'
    exact ⟨t2, st t2 a1, b1⟩
  · obtain ⟨k1, k2, k3⟩ := vx_keep h0 e1 hS hAX hf hL hF
    obtain ⟨t2, a1, b1⟩ := kx E ce q u t T'.heap (locs ++ L) e1.symm (by rw [← e2]; exact X'.warmed.alike) hp hb k1 k2 k3 (by rw [e1]; exact hce) hcv hcl T' rfl X'
    exact ⟨t2, st.trans a1, b1⟩
theorem vx_calll {S SX : Type} {post : Int64 → S → Prop} {px : SX → Prop} {B : S → State → Prop} {BX : String → SX → State → Prop} {AX : Nat → Prop} (hr : vx_Run p l e R s m args below meth c H locs cells slots mc ms (F0 m pc ls st0) rest (va_Ql post B A1 a) (vx_X px BX AX) free) (hS : va_S A0 H0 H locs) (hA : ∀ q, q < H.size → A1 q → A0 q) (hf : ∀ q, free q → A0 q) (hAX : ∀ q, q < H.size → AX q → A0 q)
    (kx : ∀ (E : String) (ce : Cell) (q9 : Addr) (u : SX) (t : State) (H1 : Heap) (locs1 : List Loc), t.heap = H1 → s.vm.Alike t.vm → px u → BX E u t → H.size ≤ H1.size → (∀ q : Nat, q < H.size → ¬ AX q → H1[q]? = H[q]?) → va_S A0 H0 H1 locs1 → H1[q9]? = some ce → ce.vm = .none → s.vm.findClass E = some ce.cls → vx_W p l e R s m args below meth c H1 locs1 (cells + mc) (slots + ms) Q (F0 m pc ls rest) q9)
    (kk : ∀ (r : Int64) (u : S) (t : State) (H1 : Heap) (locs1 : List Loc), t.heap = H1 → s.vm.Alike t.vm → post r u → B u t → H.size ≤ H1.size → (∀ q : Nat, q < H.size → ¬ A1 q → H1[q]? = H[q]?) → va_S A0 H0 H1 locs1 → W p l e R s m args below meth c H1 locs1 (cells + mc) (slots + ms) Q (F0 m (pc + 3) ls (.long r :: rest))) : W p l e R s m args below meth c H locs cells slots Q (F0 m pc ls st0) := by
  intro T hT X
  rcases hr T hT X with ⟨v, st₀, t, T', L, h0, X', hL, e1, e2, ⟨⟨r, u, hv, hp, hb⟩, hF⟩, st⟩ | ⟨q, st₀, t, T', L, E, ce, h0, X', hL, e1, e2, ⟨u, hp, hb, hF⟩, hce, hcv, hcl, st⟩
  · cases hv
    obtain ⟨k1, k2, k3⟩ := vx_keep h0 e1 hS hA hf hL hF
    obtain ⟨t2, a1, b1⟩ := kk r u t T'.heap (locs ++ L) e1.symm (by rw [← e2]; exact X'.warmed.alike) hp hb k1 k2 k3 T' rfl X'
    exact ⟨t2, st t2 a1, b1⟩
  · obtain ⟨k1, k2, k3⟩ := vx_keep h0 e1 hS hAX hf hL hF
    obtain ⟨t2, a1, b1⟩ := kx E ce q u t T'.heap (locs ++ L) e1.symm (by rw [← e2]; exact X'.warmed.alike) hp hb k1 k2 k3 (by rw [e1]; exact hce) hcv hcl T' rfl X'
    exact ⟨t2, st.trans a1, b1⟩
theorem vx_callf {S SX : Type} {post : UInt32 → S → Prop} {px : SX → Prop} {B : S → State → Prop} {BX : String → SX → State → Prop} {AX : Nat → Prop} (hr : vx_Run p l e R s m args below meth c H locs cells slots mc ms (F0 m pc ls st0) rest (va_Qf post B A1 a) (vx_X px BX AX) free) (hS : va_S A0 H0 H locs) (hA : ∀ q, q < H.size → A1 q → A0 q) (hf : ∀ q, free q → A0 q) (hAX : ∀ q, q < H.size → AX q → A0 q)
    (kx : ∀ (E : String) (ce : Cell) (q9 : Addr) (u : SX) (t : State) (H1 : Heap) (locs1 : List Loc), t.heap = H1 → s.vm.Alike t.vm → px u → BX E u t → H.size ≤ H1.size → (∀ q : Nat, q < H.size → ¬ AX q → H1[q]? = H[q]?) → va_S A0 H0 H1 locs1 → H1[q9]? = some ce → ce.vm = .none → s.vm.findClass E = some ce.cls → vx_W p l e R s m args below meth c H1 locs1 (cells + mc) (slots + ms) Q (F0 m pc ls rest) q9)
    (kk : ∀ (r : UInt32) (u : S) (t : State) (H1 : Heap) (locs1 : List Loc), t.heap = H1 → s.vm.Alike t.vm → post r u → B u t → H.size ≤ H1.size → (∀ q : Nat, q < H.size → ¬ A1 q → H1[q]? = H[q]?) → va_S A0 H0 H1 locs1 → W p l e R s m args below meth c H1 locs1 (cells + mc) (slots + ms) Q (F0 m (pc + 3) ls (.float r :: rest))) : W p l e R s m args below meth c H locs cells slots Q (F0 m pc ls st0) := by
  intro T hT X
  rcases hr T hT X with ⟨v, st₀, t, T', L, h0, X', hL, e1, e2, ⟨⟨r, u, hv, hp, hb⟩, hF⟩, st⟩ | ⟨q, st₀, t, T', L, E, ce, h0, X', hL, e1, e2, ⟨u, hp, hb, hF⟩, hce, hcv, hcl, st⟩
  · cases hv
    obtain ⟨k1, k2, k3⟩ := vx_keep h0 e1 hS hA hf hL hF
    obtain ⟨t2, a1, b1⟩ := kk r u t T'.heap (locs ++ L) e1.symm (by rw [← e2]; exact X'.warmed.alike) hp hb k1 k2 k3 T' rfl X'
    exact ⟨t2, st t2 a1, b1⟩
  · obtain ⟨k1, k2, k3⟩ := vx_keep h0 e1 hS hAX hf hL hF
    obtain ⟨t2, a1, b1⟩ := kx E ce q u t T'.heap (locs ++ L) e1.symm (by rw [← e2]; exact X'.warmed.alike) hp hb k1 k2 k3 (by rw [e1]; exact hce) hcv hcl T' rfl X'
    exact ⟨t2, st.trans a1, b1⟩
theorem vx_calld {S SX : Type} {post : UInt64 → S → Prop} {px : SX → Prop} {B : S → State → Prop} {BX : String → SX → State → Prop} {AX : Nat → Prop} (hr : vx_Run p l e R s m args below meth c H locs cells slots mc ms (F0 m pc ls st0) rest (va_Qd post B A1 a) (vx_X px BX AX) free) (hS : va_S A0 H0 H locs) (hA : ∀ q, q < H.size → A1 q → A0 q) (hf : ∀ q, free q → A0 q) (hAX : ∀ q, q < H.size → AX q → A0 q)
    (kx : ∀ (E : String) (ce : Cell) (q9 : Addr) (u : SX) (t : State) (H1 : Heap) (locs1 : List Loc), t.heap = H1 → s.vm.Alike t.vm → px u → BX E u t → H.size ≤ H1.size → (∀ q : Nat, q < H.size → ¬ AX q → H1[q]? = H[q]?) → va_S A0 H0 H1 locs1 → H1[q9]? = some ce → ce.vm = .none → s.vm.findClass E = some ce.cls → vx_W p l e R s m args below meth c H1 locs1 (cells + mc) (slots + ms) Q (F0 m pc ls rest) q9)
    (kk : ∀ (r : UInt64) (u : S) (t : State) (H1 : Heap) (locs1 : List Loc), t.heap = H1 → s.vm.Alike t.vm → post r u → B u t → H.size ≤ H1.size → (∀ q : Nat, q < H.size → ¬ A1 q → H1[q]? = H[q]?) → va_S A0 H0 H1 locs1 → W p l e R s m args below meth c H1 locs1 (cells + mc) (slots + ms) Q (F0 m (pc + 3) ls (.double r :: rest))) : W p l e R s m args below meth c H locs cells slots Q (F0 m pc ls st0) := by
  intro T hT X
  rcases hr T hT X with ⟨v, st₀, t, T', L, h0, X', hL, e1, e2, ⟨⟨r, u, hv, hp, hb⟩, hF⟩, st⟩ | ⟨q, st₀, t, T', L, E, ce, h0, X', hL, e1, e2, ⟨u, hp, hb, hF⟩, hce, hcv, hcl, st⟩
  · cases hv
    obtain ⟨k1, k2, k3⟩ := vx_keep h0 e1 hS hA hf hL hF
    obtain ⟨t2, a1, b1⟩ := kk r u t T'.heap (locs ++ L) e1.symm (by rw [← e2]; exact X'.warmed.alike) hp hb k1 k2 k3 T' rfl X'
    exact ⟨t2, st t2 a1, b1⟩
  · obtain ⟨k1, k2, k3⟩ := vx_keep h0 e1 hS hAX hf hL hF
    obtain ⟨t2, a1, b1⟩ := kx E ce q u t T'.heap (locs ++ L) e1.symm (by rw [← e2]; exact X'.warmed.alike) hp hb k1 k2 k3 (by rw [e1]; exact hce) hcv hcl T' rfl X'
    exact ⟨t2, st.trans a1, b1⟩
theorem vx_callv {S SX : Type} {post : S → Prop} {px : SX → Prop} {B : S → State → Prop} {BX : String → SX → State → Prop} {AX : Nat → Prop} (hr : vx_Run p l e R s m args below meth c H locs cells slots mc ms (F0 m pc ls st0) rest (va_Qv post B A1 a) (vx_X px BX AX) free) (hS : va_S A0 H0 H locs) (hA : ∀ q, q < H.size → A1 q → A0 q) (hf : ∀ q, free q → A0 q) (hAX : ∀ q, q < H.size → AX q → A0 q)
    (kx : ∀ (E : String) (ce : Cell) (q9 : Addr) (u : SX) (t : State) (H1 : Heap) (locs1 : List Loc), t.heap = H1 → s.vm.Alike t.vm → px u → BX E u t → H.size ≤ H1.size → (∀ q : Nat, q < H.size → ¬ AX q → H1[q]? = H[q]?) → va_S A0 H0 H1 locs1 → H1[q9]? = some ce → ce.vm = .none → s.vm.findClass E = some ce.cls → vx_W p l e R s m args below meth c H1 locs1 (cells + mc) (slots + ms) Q (F0 m pc ls rest) q9)
    (kk : ∀ (u : S) (t : State) (H1 : Heap) (locs1 : List Loc), t.heap = H1 → s.vm.Alike t.vm → post u → B u t → H.size ≤ H1.size → (∀ q : Nat, q < H.size → ¬ A1 q → H1[q]? = H[q]?) → va_S A0 H0 H1 locs1 → W p l e R s m args below meth c H1 locs1 (cells + mc) (slots + ms) Q (F0 m (pc + 3) ls (rest))) : W p l e R s m args below meth c H locs cells slots Q (F0 m pc ls st0) := by
  intro T hT X
  rcases hr T hT X with ⟨v, st₀, t, T', L, h0, X', hL, e1, e2, ⟨⟨u, hv, hp, hb⟩, hF⟩, st⟩ | ⟨q, st₀, t, T', L, E, ce, h0, X', hL, e1, e2, ⟨u, hp, hb, hF⟩, hce, hcv, hcl, st⟩
  · cases hv
    obtain ⟨k1, k2, k3⟩ := vx_keep h0 e1 hS hA hf hL hF
    obtain ⟨t2, a1, b1⟩ := kk u t T'.heap (locs ++ L) e1.symm (by rw [← e2]; exact X'.warmed.alike) hp hb k1 k2 k3 T' rfl X'
    exact ⟨t2, st t2 a1, b1⟩
  · obtain ⟨k1, k2, k3⟩ := vx_keep h0 e1 hS hAX hf hL hF
    obtain ⟨t2, a1, b1⟩ := kx E ce q u t T'.heap (locs ++ L) e1.symm (by rw [← e2]; exact X'.warmed.alike) hp hb k1 k2 k3 (by rw [e1]; exact hce) hcv hcl T' rfl X'
    exact ⟨t2, st.trans a1, b1⟩
end Rows
section Ends
variable {p : Program} {l : Launch} {e : Env} {R : Room} {s : State} {m : MethodId} {args : Array Value} {below : List Frame} {meth : Method} {c : Code} {H : Heap} {locs : List Loc} {cells slots : Nat} {Q : State → Prop}
variable {mc ms : Nat} {free : Addr → Prop} {A0 A1 : Nat → Prop} {H0 : Heap} {a : Array Value} {ls : Array Slot} {st0 rest : List Value}
variable {Qc : Array Value → State → Outcome → State → Prop} {XC : String → State → State → Prop}
/-- what a body that may throw owes at its end -/
def vx_MQ (below : List Frame) (Qc : Array Value → State → Outcome → State → Prop) (XC : String → State → State → Prop) (a : Array Value) (s : State) (mc ms : Nat) (free : Addr → Prop) : State → Prop := fun t =>
  ∃ o, t.status = .running ∧ Ended t below o ∧ vx_Q Qc XC mc ms free a s o t
theorem vx_ret {g : JFrame} {mc ms : Nat} (k : W p l e R s m args below meth c H locs cells slots (MQ below Qc args s mc ms free) g) : W p l e R s m args below meth c H locs cells slots (vx_MQ below Qc XC args s mc ms free) g := by
  intro T hT X
  obtain ⟨t, a1, o, b1, b2, b3, b4⟩ := k T hT X
  exact ⟨t, a1, o, b1, b2, Or.inl ⟨b3, b4⟩⟩
/-- not caught here: it goes on to the caller -/
theorem vx_widen {g : JFrame} {q : Addr} {k n : Nat} (h1 : cells ≤ k) (h2 : slots ≤ n) (kk : vx_W p l e R s m args below meth c H locs k n Q g q) : vx_W p l e R s m args below meth c H locs cells slots Q g q := fun T hT X => kk T hT (stand_widen X h1 h2)
theorem vx_out {pc : Nat} {E : String} {ce : Cell} {q : Addr} {mc ms : Nat} (hout : ∀ x ∈ c.exceptionTable.toList, covers x pc = false) (hlocks : meth.locks = false) (hcell : H[q]? = some ce) (hv : ce.vm = .none) (hcl : s.vm.findClass E = some ce.cls)
    (hx : ∀ t : State, t.heap = H → s.vm.Alike t.vm → XC E s t) (hf : ∀ z ∈ locs, free z.base) (hc : cells ≤ mc) (hs : slots ≤ ms) :
    vx_W p l e R s m args below meth c H locs cells slots (vx_MQ below Qc XC args s mc ms free) (F0 m pc ls rest) q := by
  intro T hT X
  obtain ⟨st1, hrun, hend, hW, hsm⟩ := X.leaveThrown q (g := F0 m pc ls rest) rfl rfl rfl hout hlocks
  have hcell9 : (T.setFrames (.throwing q :: below)).heap[q]? = some ce := by
    show T.heap[q]? = some ce
    rw [hT]; exact hcell
  exact ⟨_, st1, .threw q, hrun, hend, Or.inr ⟨q, rfl, E, ce, locs, hx _ hT hW.alike, hcell9, hv, hcl, hW, hsm.mono hc hs, hf⟩⟩
theorem vx_frame {U : State} {k n : Nat} (h : s.sameButNew ({ U with vm := s.vm } : State) locs k n) : s.heap.size ≤ U.heap.size ∧ ∀ q : Nat, q < s.heap.size → (∀ z ∈ locs, z.base ≠ q) → U.heap[q]? = s.heap[q]? := by
  obtain ⟨-, h2, -, -, -, h6⟩ := h
  refine ⟨h2, fun q hq hz => ?_⟩
  obtain ⟨c9, e1, e2, e3, e4⟩ := h6 q _ (Array.getElem?_eq_getElem hq)
  have hs : c9.slots = (s.heap[q]).slots := Array.ext_getElem? fun i => e4 i fun hm => hz _ hm rfl
  have h9 : c9 = s.heap[q] := by
    rw [hs] at e2
    exact e2
  have e5 : U.heap[q]? = some c9 := e1
  rw [e5, h9, Array.getElem?_eq_getElem hq]
/-- the words of a throw but the four that speak of the heap -/
def vx_no (w : Cond) : Bool := decide (w ≠ .isRef (.static Bundle.tN "UNASSIGNED_STACK" Bundle.steD)) && decide (w ≠ .isRef (.static Bundle.tN "SUPPRESSED_SENTINEL" Bundle.listD)) && decide (w ≠ .laysStatic Bundle.tN "UNASSIGNED_STACK" Bundle.steD) && decide (w ≠ .laysStatic Bundle.tN "SUPPRESSED_SENTINEL" Bundle.listD)
def vx_at0 (own : String) (ic : Nat) (X : String) (names : List String) : List Cond := (Bundle.ownAtoms0 own ic X names).filter vx_no
def vx_atS (own : String) (ic : Nat) (X : String) (names : List String) : List Cond := (Bundle.ownAtoms own ic X names).filter vx_no
/-- a word that the tables alone decide, or a good one -/
def vx_ot (w : Cond) : Bool := w.onTables || goodWord w
theorem vx_ot_at {args a' : Array Value} {s U : State} {w : Cond} (hW : s.WarmedH U.vm) (hvm : s.vm = U.vm) (hg : vx_ot w = true) (h : w.before args s = true) : w.before a' U = true := by
  simp only [vx_ot, Bool.or_eq_true] at hg
  rcases hg with hg | hg
  · exact va_tabs hg hvm h
  · exact word_at hW (good_of_word hg) h
/-- a list's words: the good ones out of the method's own list, the others by premises of their own -/
theorem vx_hat {args : Array Value} {s : State} {L B : List Cond} (h1 : ∀ w ∈ L.filter goodWord, w.before args s = true) (h2 : ∀ w ∈ L.filter (fun w => !goodWord w), w ∈ B) (h3 : ∀ w ∈ B, w.before args s = true) : ∀ w ∈ L, w.before args s = true := by
  intro w hw
  by_cases g : goodWord w = true
  · exact h1 w (List.mem_filter.mpr ⟨hw, g⟩)
  · refine h3 w (h2 w (List.mem_filter.mpr ⟨hw, ?_⟩))
    show (!goodWord w) = true
    cases hgw : goodWord w
    · rfl
    · exact absurd hgw g
theorem vx_c {args : Array Value} {s : State} {w : Cond} {B : List Cond} (h : w.before args s = true) (t : ∀ w ∈ B, w.before args s = true) : ∀ w' ∈ w :: B, w'.before args s = true := fun w' h' => (List.mem_cons.mp h').elim (fun e => by rw [e]; exact h) (t w')
theorem vx_n {args : Array Value} {s : State} : ∀ w ∈ ([] : List Cond), w.before args s = true := fun _ h => nomatch h
theorem vx_own {args : Array Value} {s : State} {L : List Cond} (h1 : ∀ w ∈ L.filter vx_no, w.before args s = true)
    (hU : (Cond.isRef (.static Bundle.tN "UNASSIGNED_STACK" Bundle.steD)).before args s = true) (hN : (Cond.isRef (.static Bundle.tN "SUPPRESSED_SENTINEL" Bundle.listD)).before args s = true)
    (lU : (Cond.laysStatic Bundle.tN "UNASSIGNED_STACK" Bundle.steD).before args s = true) (lN : (Cond.laysStatic Bundle.tN "SUPPRESSED_SENTINEL" Bundle.listD).before args s = true) : ∀ w ∈ L, w.before args s = true := by
  intro w hw
  by_cases e1 : w = .isRef (.static Bundle.tN "UNASSIGNED_STACK" Bundle.steD)
  · rw [e1]; exact hU
  · by_cases e2 : w = .isRef (.static Bundle.tN "SUPPRESSED_SENTINEL" Bundle.listD)
    · rw [e2]; exact hN
    · by_cases e3 : w = .laysStatic Bundle.tN "UNASSIGNED_STACK" Bundle.steD
      · rw [e3]; exact lU
      · by_cases e4 : w = .laysStatic Bundle.tN "SUPPRESSED_SENTINEL" Bundle.listD
        · rw [e4]; exact lN
        · exact h1 w (List.mem_filter.mpr ⟨hw, by unfold vx_no; rw [decide_eq_true e1, decide_eq_true e2, decide_eq_true e3, decide_eq_true e4]; rfl⟩)
/-- where a static field lies, its class's statics cell in H -/
def vx_L (C n d : String) (A : Nat → Prop) (U : State) (H : Heap) : Prop := ∃ (c : ClassId) (k : Class) (i : Nat) (f : Field) (a : Nat) (cell : Cell), U.vm.findClass C = some c ∧ U.fieldFound? C n d = some (c, k, i, f) ∧ f.isStatic = true ∧ k.statics = some a ∧ H[a]? = some cell ∧ cell.vm.isStatics = true ∧ cell.cls = c ∧ f.slot < cell.slots.size ∧ k.staticTypes[f.slot]? = some f.type ∧ ¬ A a
theorem vx_L.moved {C n d : String} {A : Nat → Prop} {u U : State} {H : Heap} (hvm : u.vm.Alike U.vm) (h : vx_L C n d A u H) : vx_L C n d A U H := by
  obtain ⟨c, k, i, f, a, cell, h1, h2, h3, h4, h5, h6, h7, h8, h9, h10⟩ := h
  obtain ⟨k', hi', he⟩ := State.fieldFound?_setVm hvm h2
  exact ⟨c, k', i, f, a, cell, by rw [hvm.findClass]; exact h1, hi', h3, by rw [he]; exact h4, h5, h6, h7, h8, by rw [he]; exact h9, h10⟩
theorem vx_L.kept {C n d : String} {A : Nat → Prop} {U : State} {H H1 : Heap} (h : vx_L C n d A U H) (hq : ∀ a : Nat, a < H.size → ¬ A a → H1[a]? = H[a]?) : vx_L C n d A U H1 := by
  obtain ⟨c, k, i, f, a, cell, h1, h2, h3, h4, h5, h6, h7, h8, h9, h10⟩ := h
  exact ⟨c, k, i, f, a, cell, h1, h2, h3, h4, by rw [hq a (Array.getElem?_eq_some_iff.mp h5).1 h10]; exact h5, h6, h7, h8, h9, h10⟩
theorem vx_L.narrow {C n d : String} {A B : Nat → Prop} {U : State} {H : Heap} (h : vx_L C n d A U H) (hAB : ∀ q, B q → A q) : vx_L C n d B U H := by
  obtain ⟨c, k, i, f, a, cell, h1, h2, h3, h4, h5, h6, h7, h8, h9, h10⟩ := h
  exact ⟨c, k, i, f, a, cell, h1, h2, h3, h4, h5, h6, h7, h8, h9, fun z => h10 (hAB _ z)⟩
theorem vx_L.word {C n d : String} {A : Nat → Prop} {s : State} {args : Array Value} (h : vx_L C n d A s s.heap) : (Cond.laysStatic C n d).before args s = true := by
  obtain ⟨c, k, i, f, a, cell, h1, h2, h3, h4, h5, h6, h7, h8, h9, -⟩ := h
  show (Cond.laysStatic C n d).holds args s none s [] = true
  exact Cond.laysStatic_of h1 h2 h3 h4 h5 h6 h7 h8 h9
/-- .. and what it holds: null or some reference -/
def vx_Zq (C n d : String) (A : Nat → Prop) (U : State) (H : Heap) : Prop := va_Zq C n d A U H ∧ vx_L C n d A U H
theorem vx_Zq.moved {C n d : String} {A : Nat → Prop} {u U : State} {H : Heap} (hvm : u.vm.Alike U.vm) (h : vx_Zq C n d A u H) : vx_Zq C n d A U H := ⟨va_Zq.moved hvm h.1, vx_L.moved hvm h.2⟩
theorem vx_Zq.kept {C n d : String} {A : Nat → Prop} {U : State} {H H1 : Heap} (h : vx_Zq C n d A U H) (hq : ∀ a : Nat, a < H.size → ¬ A a → H1[a]? = H[a]?) : vx_Zq C n d A U H1 := ⟨va_Zq.kept h.1 hq, vx_L.kept h.2 hq⟩
theorem vx_Zq.narrow {C n d : String} {A B : Nat → Prop} {U : State} {H : Heap} (h : vx_Zq C n d A U H) (hAB : ∀ q, B q → A q) : vx_Zq C n d B U H := ⟨va_Zq.narrow h.1 hAB, vx_L.narrow h.2 hAB⟩
theorem vx_Zqof {args : Array Value} {s : State} {C n d : String} {A : Nat → Prop} (hl : (Cond.laysStatic C n d).before args s = true) (hini : (Cond.initialized C).before args s = true) (h : (Cond.isRef (.static C n d)).before args s = true) (hA : ∀ a : Nat, a < s.heap.size → ¬ A a) : vx_Zq C n d A s s.heap := by
  refine ⟨va_Zqof hl hini h hA, ?_⟩
  obtain ⟨c, k, i, f, a, cell, h1, h2, h3, h4, h5, h6, h7, h8, h9⟩ := Cond.laysStatic_spec hl
  exact ⟨c, k, i, f, a, cell, h1, h2, h3, h4, h5, h6, h7, h8, h9, hA a (Array.getElem?_eq_some_iff.mp h5).1⟩
theorem vx_isRef {C n d : String} {v : Value} {A : Nat → Prop} {s : State} {args : Array Value} (h : va_Z C n d v A s s.heap) (hv : v.isRef = true) : (Cond.isRef (.static C n d)).before args s = true := by
  obtain ⟨cf, kf, fi, f, a, cell, h1, h2, h3, h4, h5, h6, h7, -⟩ := h
  have he : (Term.static C n d).eval args s none [] s = some v := by
    simp [Term.eval, State.fieldNamed?, h1, h2, h4, h5, h6, h7]
  simp only [Cond.before, Cond.holds, Cond.value, he]
  cases v <;> simp_all [Value.isRef]
theorem vx_isRefq {C n d : String} {A : Nat → Prop} {s : State} {args : Array Value} (h : va_Zq C n d A s s.heap) : (Cond.isRef (.static C n d)).before args s = true := by
  rcases h with h | ⟨t, h⟩
  · exact vx_isRef h rfl
  · exact vx_isRef h rfl
/-- the same frame, seen from here: as if the method were called anew in this heap -/
theorem vx_rebase {T : State} (X : Stand p l e R s m args below meth c T locs cells slots) {R' : Room} (hf : R'.frames ≤ R.frames) (hl : R'.locals ≤ R.locals) (hc : cells + R'.cells ≤ R.cells) (hs : slots + R'.slots ≤ R.slots) :
    Stand p l e R' ((T.setVm s.vm).setFrames (.invoking m args :: below)) m args below meth c T [] 0 0 := by
  have htop : (T.setVm s.vm).topJava?.isSome := X.here.top
  have hF : ((T.setVm s.vm).setFrames (.invoking m args :: below)).frames = .invoking m args :: below := State.frames_setFrames _ (State.cur_lt_of_top htop)
  obtain ⟨g₀, hg0⟩ := Option.isSome_iff_exists.mp htop
  obtain ⟨r, hr⟩ := State.topJava?_eq_some.mp hg0
  have hl9 : e.platform.stackLimits (T.setVm s.vm).me = e.platform.stackLimits s.me := X.limits
  have hb9 : (T.setVm s.vm).me.stackBytes = s.me.stackBytes := X.bytes
  refine ⟨X.admits, X.cas, X.clock, hF, ?_, X.hears, X.method, X.code, X.here, X.tail, X.warmed, ?_, ?_, ?_⟩
  · have h := X.room
    have hU : ((T.setVm s.vm).setFrames (.invoking m args :: below)).localsInUse = s.localsInUse := by
      rw [State.localsInUse_invoking hF (meth := meth) (c := c) X.method X.code, State.localsInUse_invoking X.frames X.method X.code]
    simp only [State.hasRoom, Bool.and_eq_true, decide_eq_true_eq] at h ⊢
    obtain ⟨⟨⟨⟨h1, h2, h3, h4, h5, h6⟩, h7⟩, h8⟩, h9⟩ := h
    rw [X.frames, List.length_cons] at h2 h3
    have q1 := X.heapSize
    have q2 := X.used
    simp only [hF, hU, List.length_cons, State.stackLimits_setFrames, State.stackBytes_setFrames, hl9, hb9]
    refine ⟨⟨⟨⟨by omega, by omega, by omega, by omega, by omega, h6⟩, ?_⟩, ?_⟩, X.book⟩
    · show T.heap.size + R'.cells ≤ e.platform.maxCells
      omega
    · show T.slotsUsed + R'.slots ≤ e.platform.maxSlots
      omega
  · rw [State.stackLimits_setFrames]; rfl
  · rw [State.stackBytes_setFrames]; rfl
  · refine ⟨?_, Nat.le_refl _, Nat.le_refl _, ?_, ?_, fun a c9 h9 => ⟨c9, h9, rfl, rfl, fun _ _ => rfl⟩⟩
    · obtain ⟨t, ht, -⟩ := State.frames_cons hr
      show T.setVm s.vm = { ((T.setVm s.vm).setFrames (.invoking m args :: below)).setFrames (T.setVm s.vm).frames with heap := T.heap, slotsUsed := T.slotsUsed }
      rw [State.setFrames_setFrames, State.setFrames_self ht]
      rfl
    · show T.slotsUsed = T.slotsUsed + ((T.heap.toList.drop T.heap.size).map (·.slots.size)).sum
      rw [List.drop_eq_nil_of_le (Nat.le_of_eq Array.length_toList)]
      rfl
    · show ((T.heap.toList.drop T.heap.size).map (·.slots.size)).sum ≤ 0
      rw [List.drop_eq_nil_of_le (Nat.le_of_eq Array.length_toList)]
      exact Nat.le_refl _
/-- 'throw new E()': new; dup; invokespecial; athrow -/
theorem vx_throw0 {cc : ByteArray} {pc : Nat} (hexec : p.tables.exec = Jvm.exec) (hb : c.code = cc) (hl : l.stackTraces = false) {own cls : String} {names : List String} {ik ic mc ms : Nat} {A : Nat → Prop}
    (hown : s.vm.findClass own = some m.cls) (hcls : Bundle.fit cls = true) (hnames : ∀ n ∈ names, Bundle.fit n = true)
    (hk : (Cond.classLink own ik cls).before args s = true) (hini : (Cond.initialized cls).before args s = true) (hat : ∀ w ∈ vx_at0 own ic cls names, w.before args s = true)
    (hgood : ∀ w ∈ Cond.classLink own ik cls :: Cond.initialized cls :: vx_at0 own ic cls names, vx_ot w = true)
    (hU : vx_Zq Bundle.tN "UNASSIGNED_STACK" Bundle.steD A s s.heap) (hN : vx_Zq Bundle.tN "SUPPRESSED_SENTINEL" Bundle.listD A s s.heap) (hS : va_S A s.heap H locs) (hsize : ls.size = c.maxLocals)
    (d0 : decode cc pc = .ok (.new ik, 3)) (d3 : decode cc (pc + 3) = .ok (.dup, 1)) (d4 : decode cc (pc + 4) = .ok (.invokespecial ic, 3)) (d7 : decode cc (pc + 7) = .ok (.athrow, 1))
    (hout : ∀ x ∈ c.exceptionTable.toList, covers x (pc + 7) = false)
    (hRframes : names.length + 3 < R.frames) (hRlocals : (rest.map fun v => v.category).sum + (13 * (names.length + 1) + 42) ≤ R.locals) (hRcells : cells + 1 ≤ R.cells) (hRslots : slots + 6 ≤ R.slots) (hlocks : meth.locks = false)
    (hx : ∀ t : State, s.vm.Alike t.vm → H.size ≤ t.heap.size → (∀ q : Nat, q < H.size → t.heap[q]? = H[q]?) → XC cls s t)
    (hf : ∀ z ∈ locs, free z.base) (hc : cells + 1 ≤ mc) (hs : slots + 6 ≤ ms) :
    W p l e R s m args below meth c H locs cells slots (vx_MQ below Qc XC args s mc ms free) (F0 m pc ls rest) := by
  intro T hT X
  have htr : e.platform.stackTraces = false := (show e.platform.stackTraces = l.stackTraces by rw [X.admits.platform]).trans hl
  have Y := vx_rebase X (R' := { frames := R.frames, locals := R.locals, cells := 1, slots := 6 }) (Nat.le_refl _) (Nat.le_refl _) hRcells hRslots
  obtain ⟨s', hA⟩ : ∃ z, z = (T.setVm s.vm).setFrames (.invoking m args :: below) := ⟨_, rfl⟩
  rw [← hA] at Y
  have hvm : s'.vm = s.vm := by rw [hA]; rfl
  have hhp : s'.heap = H := by rw [hA]; exact hT
  have hW0 : s.WarmedH s'.vm := by rw [hvm]; exact State.WarmedH.refl s
  have hat' : ∀ w ∈ vx_at0 own ic cls names, w.before args s' = true := fun w hw => vx_ot_at hW0 hvm.symm (hgood w (List.mem_cons_of_mem _ (List.mem_cons_of_mem _ hw))) (hat w hw)
  have hk' : (Cond.classLink own ik cls).before args s' = true := vx_ot_at hW0 hvm.symm (hgood _ List.mem_cons_self) hk
  have hini' : (Cond.initialized cls).before args s' = true := vx_ot_at hW0 hvm.symm (hgood _ (List.mem_cons_of_mem _ List.mem_cons_self)) hini
  have hU' : vx_Zq Bundle.tN "UNASSIGNED_STACK" Bundle.steD A s' s'.heap := by rw [hhp]; exact vx_Zq.moved hW0.alike (hU.kept hS.2.1)
  have hN' : vx_Zq Bundle.tN "SUPPRESSED_SENTINEL" Bundle.listD A s' s'.heap := by rw [hhp]; exact vx_Zq.moved hW0.alike (hN.kept hS.2.1)
  have h : ∀ w ∈ Bundle.ownAtoms0 own ic cls names, w.before args s' = true := vx_own hat' (vx_isRefq hU'.1) (vx_isRefq hN'.1) hU'.2.word hN'.2.word
  have hown' : s'.vm.findClass own = some m.cls := by rw [hvm]; exact hown
  have hins : (Cond.instantiable cls 6).before args s' = true := h _ (by simp [Bundle.ownAtoms0])
  obtain ⟨vm₁, cX, kX, hfX, hkX, -, -, X₁, st1⟩ := Y.newCold hexec (own := own) (C := cls) (index := ik) (n := 6) hown' hk' hins hini'
    (g := F0 m pc ls rest) rfl (by rw [hb]; exact d0) (Nat.le_refl _) (Nat.le_refl _)
  generalize hT1 : (T.setVm vm₁).pushCell { cls := cX, slots := kX.instanceTypes.map defaultValue, vm := .none } = T1 at X₁ st1
  have hcat : (Value.ref T.heap.size).category = 1 := rfl
  have hcellA : T1.heap[T.heap.size]? = some (freshCell cX kX) := by rw [← hT1]; exact State.heap_pushCell_size _ _
  have d3' : decode c.code (pc + 3) = .ok (.dup, 1) := by rw [hb]; exact d3
  obtain ⟨U, hsteps, hrun, hend, hW, hsame, ce, hce, hO⟩ := X₁.ctorThrow0 hexec htr (own := own) (cls := cls) (names := names) (ic := ic) hown' hcls hnames h (fun x hx => nomatch hx) hfX hkX hcellA (by rw [hhp, hT]; exact Nat.le_refl _)
    (g := { method := m, pc := pc + 4, locals := ls, stack := .ref T.heap.size :: .ref T.heap.size :: rest, locked := none }) rfl hsize rfl rfl (rest := rest) rfl
    (by rw [hb]; exact d4) (by rw [hb]; exact d7) hout hRframes (by simp only [List.map_cons, List.sum_cons, hcat]; omega) hlocks
  obtain ⟨f1, f2⟩ := vx_frame hsame
  rw [hhp] at f1 f2
  have hWs : s.WarmedH U.vm := State.WarmedH.trans hW0 hW
  have hcl : s.vm.findClass cls = some ce.cls := by
    have h9 := hO.cls
    rw [hvm] at h9
    exact h9
  have hall : s.sameButNew ({ U with vm := s.vm } : State) locs mc ms := by
    subst hA
    obtain ⟨e1, e2⟩ := hsame
    rw [State.setFrames_setFrames] at e1
    have h2 : (T.setVm s.vm).sameButNew ({ U with vm := s.vm } : State) [] (0 + 1) (0 + 6) := ⟨e1, e2⟩
    have h3 := X.same.trans h2
    rw [List.append_nil] at h3
    exact h3.mono hc hs
  refine ⟨U, ?_, .threw T.heap.size, hrun, hend, Or.inr ⟨T.heap.size, rfl, cls, ce, locs, hx U hWs.alike f1 (fun q hq => f2 q hq (fun z hz => nomatch hz)), hce, hO.vm, hcl, hWs, hall, hf⟩⟩
  refine st1 _ ?_
  show Steps p.tables e below (T1.setTop { method := m, pc := pc + 3, locals := ls, stack := .ref T.heap.size :: rest, locked := none }) _
  jvm_step X₁.here [X₁.here.top, hexec, d3', Value.category]
  exact hsteps
/-- 'throw new E("text")': new; dup; ldc; invokespecial; athrow -/
theorem vx_throwS {cc : ByteArray} {pc : Nat} (hexec : p.tables.exec = Jvm.exec) (hb : c.code = cc) (hl : l.stackTraces = false) {own cls text : String} {names : List String} {ik is ic mc ms sa : Nat} {A : Nat → Prop}
    (hown : s.vm.findClass own = some m.cls) (hcls : Bundle.fit cls = true) (hnames : ∀ n ∈ names, Bundle.fit n = true)
    (hk : (Cond.classLink own ik cls).before args s = true) (hini : (Cond.initialized cls).before args s = true) (hstr : vk_R own is text sa s) (hat : ∀ w ∈ vx_atS own ic cls names, w.before args s = true)
    (hgood : ∀ w ∈ Cond.classLink own ik cls :: Cond.initialized cls :: vx_atS own ic cls names, vx_ot w = true)
    (hU : vx_Zq Bundle.tN "UNASSIGNED_STACK" Bundle.steD A s s.heap) (hN : vx_Zq Bundle.tN "SUPPRESSED_SENTINEL" Bundle.listD A s s.heap) (hS : va_S A s.heap H locs) (hsize : ls.size = c.maxLocals)
    (d0 : decode cc pc = .ok (.new ik, 3)) (d3 : decode cc (pc + 3) = .ok (.dup, 1)) (d4 : decode cc (pc + 4) = .ok (.ldc is, 2)) (d6 : decode cc (pc + 6) = .ok (.invokespecial ic, 3)) (d9 : decode cc (pc + 9) = .ok (.athrow, 1))
    (hout : ∀ x ∈ c.exceptionTable.toList, covers x (pc + 9) = false)
    (hRframes : names.length + 3 < R.frames) (hRlocals : (rest.map fun v => v.category).sum + (13 * (names.length + 1) + 43) ≤ R.locals) (hRcells : cells + 1 ≤ R.cells) (hRslots : slots + 6 ≤ R.slots) (hlocks : meth.locks = false)
    (hx : ∀ t : State, s.vm.Alike t.vm → H.size ≤ t.heap.size → (∀ q : Nat, q < H.size → t.heap[q]? = H[q]?) → XC cls s t)
    (hf : ∀ z ∈ locs, free z.base) (hc : cells + 1 ≤ mc) (hs : slots + 6 ≤ ms) :
    W p l e R s m args below meth c H locs cells slots (vx_MQ below Qc XC args s mc ms free) (F0 m pc ls rest) := by
  intro T hT X
  have htr : e.platform.stackTraces = false := (show e.platform.stackTraces = l.stackTraces by rw [X.admits.platform]).trans hl
  have Y := vx_rebase X (R' := { frames := R.frames, locals := R.locals, cells := 1, slots := 6 }) (Nat.le_refl _) (Nat.le_refl _) hRcells hRslots
  obtain ⟨s', hA⟩ : ∃ z, z = (T.setVm s.vm).setFrames (.invoking m args :: below) := ⟨_, rfl⟩
  rw [← hA] at Y
  have hvm : s'.vm = s.vm := by rw [hA]; rfl
  have hhp : s'.heap = H := by rw [hA]; exact hT
  have hW0 : s.WarmedH s'.vm := by rw [hvm]; exact State.WarmedH.refl s
  have hat' : ∀ w ∈ vx_atS own ic cls names, w.before args s' = true := fun w hw => vx_ot_at hW0 hvm.symm (hgood w (List.mem_cons_of_mem _ (List.mem_cons_of_mem _ hw))) (hat w hw)
  have hk' : (Cond.classLink own ik cls).before args s' = true := vx_ot_at hW0 hvm.symm (hgood _ List.mem_cons_self) hk
  have hini' : (Cond.initialized cls).before args s' = true := vx_ot_at hW0 hvm.symm (hgood _ (List.mem_cons_of_mem _ List.mem_cons_self)) hini
  have hU' : vx_Zq Bundle.tN "UNASSIGNED_STACK" Bundle.steD A s' s'.heap := by rw [hhp]; exact vx_Zq.moved hW0.alike (hU.kept hS.2.1)
  have hN' : vx_Zq Bundle.tN "SUPPRESSED_SENTINEL" Bundle.listD A s' s'.heap := by rw [hhp]; exact vx_Zq.moved hW0.alike (hN.kept hS.2.1)
  have h : ∀ w ∈ Bundle.ownAtoms own ic cls names, w.before args s' = true := vx_own hat' (vx_isRefq hU'.1) (vx_isRefq hN'.1) hU'.2.word hN'.2.word
  have hown' : s'.vm.findClass own = some m.cls := by rw [hvm]; exact hown
  have hins : (Cond.instantiable cls 6).before args s' = true := h _ (by simp [Bundle.ownAtoms])
  obtain ⟨vm₁, cX, kX, hfX, hkX, -, -, X₁, st1⟩ := Y.newCold hexec (own := own) (C := cls) (index := ik) (n := 6) hown' hk' hins hini'
    (g := F0 m pc ls rest) rfl (by rw [hb]; exact d0) (Nat.le_refl _) (Nat.le_refl _)
  generalize hT1 : (T.setVm vm₁).pushCell { cls := cX, slots := kX.instanceTypes.map defaultValue, vm := .none } = T1 at X₁ st1
  have hcat : (Value.ref T.heap.size).category = 1 := rfl
  have hcellA : T1.heap[T.heap.size]? = some (freshCell cX kX) := by rw [← hT1]; exact State.heap_pushCell_size _ _
  have d3' : decode c.code (pc + 3) = .ok (.dup, 1) := by rw [hb]; exact d3
  have d4' : decode c.code (pc + 4) = .ok (.ldc is, 2) := by rw [hb]; exact d4
  have hstr' : vk_R own is text sa s' := vk_R.warm hW0 hstr
  obtain ⟨U, hsteps, hrun, hend, hW, hsame, ce, hce, hO⟩ := X₁.ctorThrowS hexec htr (own := own) (cls := cls) (names := names) (ic := ic) hown' hcls hnames h (fun x hx => nomatch hx) hfX hkX hcellA (by rw [hhp, hT]; exact Nat.le_refl _) (msg := .ref sa) rfl
    (g := { method := m, pc := pc + 6, locals := ls, stack := .ref sa :: .ref T.heap.size :: .ref T.heap.size :: rest, locked := none }) rfl hsize rfl rfl (rest := rest) rfl
    (by rw [hb]; exact d6) (by rw [hb]; exact d9) hout hRframes (by simp only [List.map_cons, List.sum_cons, hcat]; omega) hlocks
  obtain ⟨f1, f2⟩ := vx_frame hsame
  rw [hhp] at f1 f2
  have hWs : s.WarmedH U.vm := State.WarmedH.trans hW0 hW
  have hcl : s.vm.findClass cls = some ce.cls := by
    have h9 := hO.cls
    rw [hvm] at h9
    exact h9
  have hall : s.sameButNew ({ U with vm := s.vm } : State) locs mc ms := by
    subst hA
    obtain ⟨e1, e2⟩ := hsame
    rw [State.setFrames_setFrames] at e1
    have h2 : (T.setVm s.vm).sameButNew ({ U with vm := s.vm } : State) [] (0 + 1) (0 + 6) := ⟨e1, e2⟩
    have h3 := X.same.trans h2
    rw [List.append_nil] at h3
    exact h3.mono hc hs
  refine ⟨U, ?_, .threw T.heap.size, hrun, hend, Or.inr ⟨T.heap.size, rfl, cls, ce, locs, hx U hWs.alike f1 (fun q hq => f2 q hq (fun z hz => nomatch hz)), hce, hO.vm, hcl, hWs, hall, hf⟩⟩
  refine st1 _ ?_
  show Steps p.tables e below (T1.setTop { method := m, pc := pc + 3, locals := ls, stack := .ref T.heap.size :: rest, locked := none }) _
  jvm_step X₁.here [X₁.here.top, hexec, d3', Value.category]
  exact X₁.ldcString hexec (own := own) (text := text) (index := is) (a := sa) hown' hstr'.1 hstr'.2
    (g := { method := m, pc := pc + 4, locals := ls, stack := .ref T.heap.size :: .ref T.heap.size :: rest, locked := none }) rfl d4' _ hsteps
/-- 'throw new E("text")', the text by a wide index -/
theorem vx_throwSW {cc : ByteArray} {pc : Nat} (hexec : p.tables.exec = Jvm.exec) (hb : c.code = cc) (hl : l.stackTraces = false) {own cls text : String} {names : List String} {ik is ic mc ms sa : Nat} {A : Nat → Prop}
    (hown : s.vm.findClass own = some m.cls) (hcls : Bundle.fit cls = true) (hnames : ∀ n ∈ names, Bundle.fit n = true)
    (hk : (Cond.classLink own ik cls).before args s = true) (hini : (Cond.initialized cls).before args s = true) (hstr : vk_R own is text sa s) (hat : ∀ w ∈ vx_atS own ic cls names, w.before args s = true)
    (hgood : ∀ w ∈ Cond.classLink own ik cls :: Cond.initialized cls :: vx_atS own ic cls names, vx_ot w = true)
    (hU : vx_Zq Bundle.tN "UNASSIGNED_STACK" Bundle.steD A s s.heap) (hN : vx_Zq Bundle.tN "SUPPRESSED_SENTINEL" Bundle.listD A s s.heap) (hS : va_S A s.heap H locs) (hsize : ls.size = c.maxLocals)
    (d0 : decode cc pc = .ok (.new ik, 3)) (d3 : decode cc (pc + 3) = .ok (.dup, 1)) (d4 : decode cc (pc + 4) = .ok (.ldc_w is, 3)) (d7 : decode cc (pc + 7) = .ok (.invokespecial ic, 3)) (d10 : decode cc (pc + 10) = .ok (.athrow, 1))
    (hout : ∀ x ∈ c.exceptionTable.toList, covers x (pc + 10) = false)
    (hRframes : names.length + 3 < R.frames) (hRlocals : (rest.map fun v => v.category).sum + (13 * (names.length + 1) + 43) ≤ R.locals) (hRcells : cells + 1 ≤ R.cells) (hRslots : slots + 6 ≤ R.slots) (hlocks : meth.locks = false)
    (hx : ∀ t : State, s.vm.Alike t.vm → H.size ≤ t.heap.size → (∀ q : Nat, q < H.size → t.heap[q]? = H[q]?) → XC cls s t)
    (hf : ∀ z ∈ locs, free z.base) (hc : cells + 1 ≤ mc) (hs : slots + 6 ≤ ms) :
    W p l e R s m args below meth c H locs cells slots (vx_MQ below Qc XC args s mc ms free) (F0 m pc ls rest) := by
  intro T hT X
  have htr : e.platform.stackTraces = false := (show e.platform.stackTraces = l.stackTraces by rw [X.admits.platform]).trans hl
  have Y := vx_rebase X (R' := { frames := R.frames, locals := R.locals, cells := 1, slots := 6 }) (Nat.le_refl _) (Nat.le_refl _) hRcells hRslots
  obtain ⟨s', hA⟩ : ∃ z, z = (T.setVm s.vm).setFrames (.invoking m args :: below) := ⟨_, rfl⟩
  rw [← hA] at Y
  have hvm : s'.vm = s.vm := by rw [hA]; rfl
  have hhp : s'.heap = H := by rw [hA]; exact hT
  have hW0 : s.WarmedH s'.vm := by rw [hvm]; exact State.WarmedH.refl s
  have hat' : ∀ w ∈ vx_atS own ic cls names, w.before args s' = true := fun w hw => vx_ot_at hW0 hvm.symm (hgood w (List.mem_cons_of_mem _ (List.mem_cons_of_mem _ hw))) (hat w hw)
  have hk' : (Cond.classLink own ik cls).before args s' = true := vx_ot_at hW0 hvm.symm (hgood _ List.mem_cons_self) hk
  have hini' : (Cond.initialized cls).before args s' = true := vx_ot_at hW0 hvm.symm (hgood _ (List.mem_cons_of_mem _ List.mem_cons_self)) hini
  have hU' : vx_Zq Bundle.tN "UNASSIGNED_STACK" Bundle.steD A s' s'.heap := by rw [hhp]; exact vx_Zq.moved hW0.alike (hU.kept hS.2.1)
  have hN' : vx_Zq Bundle.tN "SUPPRESSED_SENTINEL" Bundle.listD A s' s'.heap := by rw [hhp]; exact vx_Zq.moved hW0.alike (hN.kept hS.2.1)
  have h : ∀ w ∈ Bundle.ownAtoms own ic cls names, w.before args s' = true := vx_own hat' (vx_isRefq hU'.1) (vx_isRefq hN'.1) hU'.2.word hN'.2.word
  have hown' : s'.vm.findClass own = some m.cls := by rw [hvm]; exact hown
  have hins : (Cond.instantiable cls 6).before args s' = true := h _ (by simp [Bundle.ownAtoms])
  obtain ⟨vm₁, cX, kX, hfX, hkX, -, -, X₁, st1⟩ := Y.newCold hexec (own := own) (C := cls) (index := ik) (n := 6) hown' hk' hins hini'
    (g := F0 m pc ls rest) rfl (by rw [hb]; exact d0) (Nat.le_refl _) (Nat.le_refl _)
  generalize hT1 : (T.setVm vm₁).pushCell { cls := cX, slots := kX.instanceTypes.map defaultValue, vm := .none } = T1 at X₁ st1
  have hcat : (Value.ref T.heap.size).category = 1 := rfl
  have hcellA : T1.heap[T.heap.size]? = some (freshCell cX kX) := by rw [← hT1]; exact State.heap_pushCell_size _ _
  have d3' : decode c.code (pc + 3) = .ok (.dup, 1) := by rw [hb]; exact d3
  have d4' : decode c.code (pc + 4) = .ok (.ldc_w is, 3) := by rw [hb]; exact d4
  have hstr' : vk_R own is text sa s' := vk_R.warm hW0 hstr
  obtain ⟨U, hsteps, hrun, hend, hW, hsame, ce, hce, hO⟩ := X₁.ctorThrowS hexec htr (own := own) (cls := cls) (names := names) (ic := ic) hown' hcls hnames h (fun x hx => nomatch hx) hfX hkX hcellA (by rw [hhp, hT]; exact Nat.le_refl _) (msg := .ref sa) rfl
    (g := { method := m, pc := pc + 7, locals := ls, stack := .ref sa :: .ref T.heap.size :: .ref T.heap.size :: rest, locked := none }) rfl hsize rfl rfl (rest := rest) rfl
    (by rw [hb]; exact d7) (by rw [hb]; exact d10) hout hRframes (by simp only [List.map_cons, List.sum_cons, hcat]; omega) hlocks
  obtain ⟨f1, f2⟩ := vx_frame hsame
  rw [hhp] at f1 f2
  have hWs : s.WarmedH U.vm := State.WarmedH.trans hW0 hW
  have hcl : s.vm.findClass cls = some ce.cls := by
    have h9 := hO.cls
    rw [hvm] at h9
    exact h9
  have hall : s.sameButNew ({ U with vm := s.vm } : State) locs mc ms := by
    subst hA
    obtain ⟨e1, e2⟩ := hsame
    rw [State.setFrames_setFrames] at e1
    have h2 : (T.setVm s.vm).sameButNew ({ U with vm := s.vm } : State) [] (0 + 1) (0 + 6) := ⟨e1, e2⟩
    have h3 := X.same.trans h2
    rw [List.append_nil] at h3
    exact h3.mono hc hs
  refine ⟨U, ?_, .threw T.heap.size, hrun, hend, Or.inr ⟨T.heap.size, rfl, cls, ce, locs, hx U hWs.alike f1 (fun q hq => f2 q hq (fun z hz => nomatch hz)), hce, hO.vm, hcl, hWs, hall, hf⟩⟩
  refine st1 _ ?_
  show Steps p.tables e below (T1.setTop { method := m, pc := pc + 3, locals := ls, stack := .ref T.heap.size :: rest, locked := none }) _
  jvm_step X₁.here [X₁.here.top, hexec, d3', Value.category]
  exact X₁.ldcStringW hexec (own := own) (text := text) (index := is) (a := sa) hown' hstr'.1 hstr'.2
    (g := { method := m, pc := pc + 4, locals := ls, stack := .ref T.heap.size :: .ref T.heap.size :: rest, locked := none }) rfl d4' _ hsteps
end Ends
section Bodies
variable {l : Launch}
theorem vx_ofW {y : MethodName} {ws ws' : List Cond} {rm : Room} {Pc : Array Value → State → Prop} {Qc : Array Value → State → Outcome → State → Prop} {XC : String → State → State → Prop} {mc ms : Nat} {free : Addr → Prop} {cc : ByteArray} {maxL : Nat} {ret : Option FieldType}
    (hy : plainName y.cls = true) (hw : ws = Cond.code y cc maxL ret :: ws')
    (body : ∀ p e s m args below meth c s₁, BodyLoose p l y (headSpec ws rm) cc maxL ret e s m args below meth c s₁ → c.maxLocals = maxL → (∀ x ∈ c.exceptionTable.toList, False) → Pc args s →
      W p l e (headSpec ws rm).room s m args below meth c s.heap [] 0 0 (vx_MQ below Qc XC args s mc ms free) (entryFrame m args maxL)) : vx_Met l y ws rm Pc Qc XC mc ms free := by
  refine MetFree.of_bodyS (code := cc) (maxLocals := maxL) (ret := ret) hy ?_ ?_
  · intro args s m h hn
    obtain ⟨meth, c, h1, h2, h3, h4, h5, h6, -, -⟩ := Cond.code_spec hn (atoms_spec (ws := ws) h _ (by rw [hw]; exact List.mem_cons_self))
    exact ⟨meth, c, h1, h2, h3, h4, h5, h6⟩
  · intro p e s m args below meth c s₁ B hml hP _
    have hh0 : s₁.heap = s.heap := by rw [B.state]; rfl
    have ht : ∀ x ∈ c.exceptionTable.toList, False := by
      obtain ⟨meth9, c9, h1, h2, -, -, -, -, h7, -⟩ := Cond.code_spec B.named (atoms_spec (ws := ws) B.pre _ (by rw [hw]; exact List.mem_cons_self))
      cases Option.some.inj (h1.symm.trans B.method)
      cases Option.some.inj (h2.symm.trans (Stand.of_body B).code)
      intro x hx
      rw [Array.isEmpty_iff.mp h7] at hx
      cases hx
    obtain ⟨t, a1, o, b1, b2, b3⟩ := body p e s m args below meth c s₁ B hml ht hP s₁ hh0 (Stand.of_body B)
    exact ⟨t, o, a1, b1, b2, b3⟩
/-- the table of a body with handlers -/
theorem vx_table {p : Program} {x y : MethodName} {S : Spec} {cc bytes : ByteArray} {maxL maxL' : Nat} {ret ret' : Option FieldType} {e : Env} {s s₁ : State} {m : MethodId} {args : Array Value} {below : List Frame} {meth : Method} {c : Code} {hh : List (Nat × Nat × Nat × Nat)}
    (B : BodyLoose p l y S cc maxL ret e s m args below meth c s₁) (h : (Cond.codeWith y bytes maxL' ret' hh).before args s = true) : c.exceptionTable.toList = tableOf hh := by
  obtain ⟨m9, meth9, c9, hn9, h1, h2, -, -, h6, -⟩ := Cond.codeWith_spec h
  cases Option.some.inj (hn9.symm.trans B.named)
  cases Option.some.inj (h1.symm.trans B.method)
  cases Option.some.inj (h2.symm.trans (Stand.of_body B).code)
  rw [← h6, table_eq]
end Bodies
end VXA
/-! ===== END ===== -/
/-! ===== BEGIN a static call of a method with an exception table ===== -/
section VXS
variable {p : Program} {l : Launch} {e : Env} {R : Room} {s : State} {m : MethodId} {args : Array Value} {below : List Frame} {meth : Method} {c : Code} {T : State} {H : Heap} {locs : List Loc} {cells slots : Nat}
abbrev vx_CSW (R : Room) (s : State) (args : Array Value) (own : String) (index : Nat) (y : MethodName) (bytes : ByteArray) (maxL : Nat) (ret : Option FieldType) (hh : List (Nat × Nat × Nat × Nat)) (ws : List Cond) (rm : Room) (mc ms n : Nat) : Prop :=
  (rm.cells = mc ∧ rm.slots = ms ∧ rm.frames + 1 ≤ R.frames ∧ 8 + (maxL + 11) + rm.locals ≤ R.locals ∧ (∀ w ∈ ws, ∀ (a' : Array Value) (U : State), s.WarmedH U.vm → w.before a' U = true) ∧ Cond.codeWith y bytes maxL ret hh ∈ ws) ∧
  (Cond.codeWith y bytes maxL ret hh).before args s = true ∧ (Cond.initialized y.cls).before args s = true ∧ (y.cls ≠ "java/lang/invoke/MethodHandle" ∧ y.cls ≠ "java/lang/invoke/VarHandle") ∧
  (∀ sig, parseMethodDescriptor y.desc = some sig → n = sig.parameters.length) ∧ (Cond.methodLink own index y).before args s = true ∧ (Cond.static y).before args s = true
theorem vx_cwSW {own : String} {index maxL mc ms : Nat} {y : MethodName} {bytes : ByteArray} {ret : Option FieldType} {hh : List (Nat × Nat × Nat × Nat)} {Ts ws ws' : List Cond} {rm : Room} (n : Nat) (ht : ∀ w ∈ Ts, w.before args s = true) (hT : GoodIn Ts (va_wsS own index y ws)) (hw : ws = Cond.codeWith y bytes maxL ret hh :: ws') (hrc : rm.cells = mc) (hrs : rm.slots = ms)
    (hd : y.cls ≠ "java/lang/invoke/MethodHandle" ∧ y.cls ≠ "java/lang/invoke/VarHandle" ∧ (parseMethodDescriptor y.desc).map (fun d => d.parameters.length) = some n) (hR : rm.frames + 1 ≤ R.frames ∧ 8 + (maxL + 11) + rm.locals ≤ R.locals) :
    vx_CSW R s args own index y bytes maxL ret hh ws rm mc ms n := by
  have ok : ∀ w ∈ va_wsS own index y ws, w.before args s = true := fun w h => ht w (hT w h).1
  have hG : GoodIn Ts ws := fun w h => hT w (by unfold va_wsS; exact List.mem_append_right _ h)
  have hc : Cond.codeWith y bytes maxL ret hh ∈ ws := by rw [hw]; exact List.mem_cons_self
  refine ⟨⟨hrc, hrs, hR.1, hR.2, pay_in ht hG, hc⟩, ht _ (hG _ hc).1, ok _ (by simp [va_wsS]), ⟨hd.1, hd.2.1⟩, fun sig h => ?_, ok _ (by simp [va_wsS]), ok _ (by simp [va_wsS])⟩
  have h2 := hd.2.2
  rw [h] at h2
  exact (Option.some.inj h2).symm
theorem vx_callSW (X : Stand p l e R s m args below meth c T locs cells slots) (hexec : p.tables.exec = Jvm.exec) {own : String} {index : Nat} {y : MethodName} {bytes : ByteArray} {maxL : Nat} {ret : Option FieldType} {hh : List (Nat × Nat × Nat × Nat)}
    (hown : s.vm.findClass own = some m.cls) (hlink : (Cond.methodLink own index y).before args s = true) (hstat : (Cond.static y).before args s = true) (hinit : (Cond.initialized y.cls).before args s = true)
    (hcode : (Cond.codeWith y bytes maxL ret hh).before args s = true) (hy : y.cls ≠ "java/lang/invoke/MethodHandle" ∧ y.cls ≠ "java/lang/invoke/VarHandle")
    {W9 : Nat} {Pre : Pt → Array Value → Prop} {Post : Pt → Array Value → Option Value → Pt → Prop} (hK : Back l R p e below s args y 3 W9 Pre Post)
    {g : JFrame} (hg : g.method = m) (hsize : g.locals.size = c.maxLocals) {argsL rest : List Value} (hlen : ∀ sig, parseMethodDescriptor y.desc = some sig → argsL.length = sig.parameters.length)
    (hstack : g.stack = argsL.reverse ++ rest) (hW : 2 * g.monitorRoom + (rest.map fun v => v.category).sum ≤ W9) (hdg : decode c.code g.pc = .ok (.invokestatic index, 3))
    (hpre : ∀ vm₁, s.WarmedH vm₁ → Pre ⟨T.setVm vm₁, locs, cells, slots⟩ argsL.toArray) :
    ∃ (v : Option Value) (vm₁ : Vm) (B : Pt), s.WarmedH vm₁ ∧ Stand p l e R s m args below meth c B.U B.locs B.cells B.slots ∧ Post ⟨T.setVm vm₁, locs, cells, slots⟩ argsL.toArray v B ∧
      ∀ target, Steps p.tables e below (B.U.setTop { g with pc := g.pc + 3, stack := v.toList ++ rest }) target → Steps p.tables e below (T.setTop g) target := by
  obtain ⟨mk, methM, cM, hnamed, hmethM, -, -, -, -, -, -, hsigM⟩ := Cond.codeWith_spec hcode
  have hstatic : methM.isStatic = true := Cond.static_spec hnamed hmethM hstat
  obtain ⟨kP, hkP, -⟩ := className_of_methodNamed hnamed
  have hinitP : kP.init = .initialized := Cond.initialized_spec (findClass_of_methodNamed hnamed) hkP hinit
  obtain ⟨vm₁, X₁, hstep₁⟩ := X.invokestatic hexec hown hlink hnamed hmethM hstatic hkP hinitP hy (g := g) hg (argsL := argsL) (rest := rest) (hlen _ hsigM) hstack hdg
  obtain ⟨v, B, X', hpost, hsteps⟩ := hK m meth c ⟨T.setVm vm₁, locs, cells, slots⟩ { g with stack := rest } (.invokestatic index) mk argsL.toArray X₁ hg hsize hdg hW (X₁.named hnamed) (hpre vm₁ X₁.warmed)
  exact ⟨v, vm₁, B, X₁.warmed, X', hpost, fun target h => hstep₁ _ fun acts => by rw [doInvoke_state]; exact hsteps.trans h⟩
theorem vx_runSW {y : MethodName} {bytes cc : ByteArray} {maxL nL mc ms n index : Nat} {ret : Option FieldType} {hh : List (Nat × Nat × Nat × Nat)} {ws : List Cond} {rm : Room} {Pc : Array Value → State → Prop} {Qc : Array Value → State → Outcome → State → Prop} {free : Addr → Prop} {Ts : List Cond} {own : String} {As rest : List Value} {g : JFrame}
    (S : CallFix p m c cc nL s args Ts own) (hM : Met l y ws rm Pc Qc mc ms free) (cw : vx_CSW R s args own index y bytes maxL ret hh ws rm mc ms n) (hp : PreS s H Pc As)
    (hg : g.method = m) (hn : As.length = n) (hsize : g.locals.size = nL) (hstack : g.stack = As.reverse ++ rest) (hW : 2 * g.monitorRoom + (rest.map fun v => v.category).sum ≤ 8) (hdg : decode cc g.pc = .ok (.invokestatic index, 3)) (hf : cells + mc ≤ R.cells ∧ slots + ms ≤ R.slots) :
    va_Run p l e R s m args below meth c H locs cells slots mc ms g rest (Qc As.toArray) (free) := by
  obtain ⟨⟨hrc, hrs, hfr, hlo, hws, hcw⟩, hcode, hini, hy, hlen, hl, hstt⟩ := cw
  have hK : Back l R p e below s args y 3 8 (PreOf R mc ms Pc) (PostOf Qc mc ms free) := va_backW (hh := hh) (bytes := bytes) (maxL := maxL) (ret := ret) hM hp.1 hrc hrs hfr hlo hws hcw (fun a' U hW => word_at hW (Or.inl (by first | rfl | simp [Cond.onTables, Cond.keeps, Cond.steady])) hini)
  obtain ⟨hx, hb, hml, ho, -⟩ := S
  intro T hT X
  obtain ⟨v, vm₁, ⟨U', l2, c2, s2⟩, hW₁, X', ⟨g', mk, t, L, e1, e2, hq, h1, hL, h2, h3⟩, st⟩ := vx_callSW X hx (hh := hh) (bytes := bytes) (maxL := maxL) (ret := ret) ho hl hstt hini hcode hy hK hg (hsize.trans hml.symm) (argsL := As) (rest := rest) (fun sig h => hn.trans (hlen sig h)) hstack hW (by rw [hb]; exact hdg)
    (fun vm₁ hW₁ => ⟨hf.1, hf.2, hp.2 (T.setVm vm₁) hT hW₁⟩)
  dsimp only [Pt.U, Pt.locs, Pt.cells, Pt.slots] at X' e1 e2 h1 h2 h3 st
  subst h1; subst h2; subst h3
  exact ⟨v, (T.setVm vm₁).calling g' mk As.toArray, t, U', L, hT, X', hL, e1, e2, hq, st⟩
/-- a thing of a world lies in the heap -/
theorem vx_lt {D : va_G} {cl : List vw_C} {ws : va_W} {H1 : Heap} (h : va_P D cl ws H1) {k : Nat} {q : Nat × va_E} (hk : ws[k]? = some q) : q.1 < H1.size := (h k q hk).lt
end VXS
/-! ===== END ===== -/
/-! ===== BEGIN methods with a table of their own: called by a name, returning or throwing ===== -/
section VXH
/-! vx_backW, vx_callVX, vx_callSX, vx_callVW, vx_runVW, vx_runVX, vx_runSX, vx_ofWH follow the same proofs as their sisters above (Free/Laws.lean, Shelf42/LK1.lean); vx_outP calls Shelf42/NT130.lean (outThrough). -/
section
variable {l : Launch} {R : Room} {p : Program} {e : Env} {below : List Frame} {s : State} {sargs : Array Value} {y : MethodName} {len W9 : Nat}
theorem vx_backW {ws : List Cond} {rm : Room} {Pc : Array Value → State → Prop} {Qc : Array Value → State → Outcome → State → Prop} {XC : String → State → State → Prop} {mc ms : Nat} {free : Addr → Prop} {bytes : ByteArray} {maxL : Nat} {ret : Option FieldType} {hh : List (Nat × Nat × Nat × Nat)}
    (hM : vx_Met l y ws rm Pc Qc XC mc ms free) (hblind : FrameBlind Pc) (hrc : rm.cells = mc) (hrs : rm.slots = ms)
    (hframes : rm.frames + 1 ≤ R.frames) (hlocals : W9 + (maxL + 11) + rm.locals ≤ R.locals)
    (hws : ∀ w ∈ ws, ∀ a' U, s.WarmedH U.vm → w.before a' U = true) (hcode : Cond.codeWith y bytes maxL ret hh ∈ ws) (hinit : ∀ a' U, s.WarmedH U.vm → (Cond.initialized y.cls).before a' U = true) :
    vx_Back l R p e below s sargs y len W9 (PreOf R mc ms Pc) (PostOf Qc mc ms free) (vx_Post XC mc ms free) := by
  intro m meth c A g ig mk a X hg hsize hdg hW hn hp
  have h1 : (headSpec ws rm).pre.before a A.U = true := atoms_intro fun w hw => hws w hw _ _ X.warmed
  have h2 : (Cond.codeWith y bytes maxL ret hh).before a A.U = true := hws _ hcode _ _ X.warmed
  have h3 : (Cond.initialized y.cls).before a A.U = true := hinit _ _ X.warmed
  have h4 : A.cells + (headSpec ws rm).room.cells ≤ R.cells := by rw [show (headSpec ws rm).room.cells = mc from hrc]; exact hp.1
  have h5 : A.slots + (headSpec ws rm).room.slots ≤ R.slots := by rw [show (headSpec ws rm).room.slots = ms from hrs]; exact hp.2.1
  have hPc : Pc a (A.U.calling g mk a) := hblind _ _ _ _ hp.2.2
  obtain ⟨U, Ls, c0, s0⟩ := A
  dsimp only [Pt.U, Pt.locs, Pt.cells, Pt.slots] at h1 h2 h3 h4 h5 X hn hPc ⊢
  obtain ⟨m9, methY, cY, hn9, hmY, hcY, -, hlY, -⟩ := Cond.codeWith_spec h2
  cases Option.some.inj (hn9.symm.trans hn)
  obtain ⟨kY, hkY, -⟩ := className_of_methodNamed hn
  have hinitY : kY.init = .initialized := Cond.initialized_spec (findClass_of_methodNamed hn) hkY h3
  have h : At U g.method c below := by rw [hg]; exact X.here
  have hlocals9 : W9 + (maxL + 11) + (headSpec ws rm).room.locals ≤ R.locals := hlocals
  have happ : (headSpec ws rm).appliesLoose y e.platform (U.calling g mk a) = true :=
    Spec.appliesLoose_calling (g := g) h hdg hn hkY hinitY
      (X.room_calling (g := g) (R' := (headSpec ws rm).room) hsize hmY hcY hframes (by rw [hlY]; omega) h4 h5) h1
  obtain ⟨mid, hmid⟩ := h.above
  have hfr : (U.setTop g).frames = (.java g :: mid) ++ below := by rw [State.frames_setTop' g h.top, hmid]; rfl
  obtain ⟨o, s₂, hsteps, -, hend, hq⟩ := Steps.callFree hM p X.admits X.cas X.clock (acts := []) hfr happ hPc trivial
  have hq' : vx_Q Qc XC mc ms free a (U.calling g mk a) o s₂ := hq
  rw [State.frames_setTop' g h.top] at hend
  obtain ⟨g₀, hg0⟩ := Option.isSome_iff_exists.mp h.top
  obtain ⟨r, hr⟩ := State.topJava?_eq_some.mp hg0
  have hr' : (({ U with heap := s₂.heap, slotsUsed := s₂.slotsUsed } : State).setVm s₂.vm).frames = .java g₀ :: r := hr
  rcases hq' with ⟨hqc, L, hfe, hL⟩ | ⟨q, rfl, E, ce, L, hx, hce, hcv, hcl, hW₂, hsm, hL⟩
  · obtain ⟨⟨v, rfl⟩, hW₂, e2, q2, q3, q4, q5, q6⟩ := id hfe
    have e3 : s₂ = ({ (U.calling g mk a).setFrames s₂.frames with heap := s₂.heap, slotsUsed := s₂.slotsUsed } : State).setVm s₂.vm := by
      have : s₂ = ({ s₂ with vm := (U.calling g mk a).vm } : State).setVm s₂.vm := rfl
      rw [e2] at this
      exact this
    obtain ⟨c₂, i₂, len₂, hc₂, hd₂, hf₂⟩ := hend
    have hW' : U.WarmedH s₂.vm := hW₂
    have hcc : c₂ = c := by
      have h1 : s₂.code? g.method = U.code? g.method := by
        rw [State.code?_eq, State.code?_eq, hW'.alike.method?]
      exact Option.some.inj (hc₂.symm.trans (h1.trans h.code))
    subst hcc
    have hlen : len₂ = len := by rw [hdg] at hd₂; cases hd₂; rfl
    subst hlen
    have hs₂ : s₂ = (({ U with heap := s₂.heap, slotsUsed := s₂.slotsUsed } : State).setVm s₂.vm).setTop { g with pc := g.pc + len₂, stack := v.toList ++ g.stack } := by
      refine e3.trans ?_
      rw [hf₂, State.calling_eq h.top, State.setFrames_setFrames, State.setTop_of_frames _ hr', hr]
      rfl
    have hsame : U.sameButNew ({ U with heap := s₂.heap, slotsUsed := s₂.slotsUsed } : State) L mc ms := by
      refine ⟨?_, q2, q3, q4, q5, q6⟩
      obtain ⟨t, ht, -⟩ := State.frames_cons hr
      show ({ U with heap := s₂.heap, slotsUsed := s₂.slotsUsed } : State) = { U.setFrames U.frames with heap := s₂.heap, slotsUsed := s₂.slotsUsed }
      rw [State.setFrames_self ht]
    subst hg
    refine Or.inl ⟨v, ⟨(({ U with heap := s₂.heap, slotsUsed := s₂.slotsUsed } : State).setVm s₂.vm), Ls ++ L, c0 + mc, s0 + ms⟩,
      ⟨X.admits, X.cas, X.clock, X.frames, X.room, X.hears, X.method, X.code, (X.here.setHeapUsed s₂.heap s₂.slotsUsed).setVm hW'.alike, X.tail, State.WarmedH.trans X.warmed hW', X.limits, X.bytes, X.same.trans (hsame.setVm s.vm)⟩,
      ⟨g, mk, s₂, L, rfl, rfl, hqc, rfl, hL, rfl, rfl⟩, ?_⟩
    show Steps p.tables e below _ ((({ U with heap := s₂.heap, slotsUsed := s₂.slotsUsed } : State).setVm s₂.vm).setTop { g with pc := g.pc + len₂, stack := v.toList ++ g.stack })
    rw [← hs₂]
    exact hsteps
  · obtain ⟨e2, q2, q3, q4, q5, q6⟩ := id hsm
    have e3 : s₂ = ({ (U.calling g mk a).setFrames s₂.frames with heap := s₂.heap, slotsUsed := s₂.slotsUsed } : State).setVm s₂.vm := by
      have : s₂ = ({ s₂ with vm := (U.calling g mk a).vm } : State).setVm s₂.vm := rfl
      rw [e2] at this
      exact this
    have hf₂ : s₂.frames = .throwing q :: .java g :: U.frames.tail := hend
    have hW' : U.WarmedH s₂.vm := hW₂
    have hs₂ : s₂ = ((({ U with heap := s₂.heap, slotsUsed := s₂.slotsUsed } : State).setVm s₂.vm).setTop g).pushFrame (.throwing q) := by
      refine e3.trans ?_
      rw [hf₂, State.calling_eq h.top, State.setFrames_setFrames, State.pushFrame, State.frames_setTop _ hr', State.setTop_of_frames _ hr', State.setFrames_setFrames, hr]
      rfl
    have hsame : U.sameButNew ({ U with heap := s₂.heap, slotsUsed := s₂.slotsUsed } : State) L mc ms := by
      refine ⟨?_, q2, q3, q4, q5, q6⟩
      obtain ⟨t, ht, -⟩ := State.frames_cons hr
      show ({ U with heap := s₂.heap, slotsUsed := s₂.slotsUsed } : State) = { U.setFrames U.frames with heap := s₂.heap, slotsUsed := s₂.slotsUsed }
      rw [State.setFrames_self ht]
    subst hg
    refine Or.inr ⟨q, ⟨(({ U with heap := s₂.heap, slotsUsed := s₂.slotsUsed } : State).setVm s₂.vm), Ls ++ L, c0 + mc, s0 + ms⟩,
      ⟨X.admits, X.cas, X.clock, X.frames, X.room, X.hears, X.method, X.code, (X.here.setHeapUsed s₂.heap s₂.slotsUsed).setVm hW'.alike, X.tail, State.WarmedH.trans X.warmed hW', X.limits, X.bytes, X.same.trans (hsame.setVm s.vm)⟩,
      ⟨g, mk, s₂, L, E, ce, rfl, rfl, hx, hce, hcv, hcl, rfl, hL, rfl, rfl⟩, ?_⟩
    show Steps p.tables e below _ (((({ U with heap := s₂.heap, slotsUsed := s₂.slotsUsed } : State).setVm s₂.vm).setTop g).pushFrame (.throwing q))
    rw [← hs₂]
    exact hsteps
end
variable {p : Program} {l : Launch} {e : Env} {R : Room} {s : State} {m : MethodId} {args : Array Value} {below : List Frame} {meth : Method} {c : Code} {T : State} {H : Heap} {locs : List Loc} {cells slots : Nat}
theorem vx_callVX (X : Stand p l e R s m args below meth c T locs cells slots) (hexec : p.tables.exec = Jvm.exec) {own C : String} {index : Nat} {y : MethodName} {bytes : ByteArray} {maxL : Nat} {ret : Option FieldType} {hh : List (Nat × Nat × Nat × Nat)}
    (hown : s.vm.findClass own = some m.cls) (hlink : (Cond.methodLink own index y).before args s = true) (hinst : (Cond.instanceMethod y).before args s = true) (hsel : (Cond.selects C y y).before args s = true)
    (hcode : (Cond.codeWith y bytes maxL ret hh).before args s = true) (hy : y.cls ≠ "java/lang/invoke/MethodHandle" ∧ y.cls ≠ "java/lang/invoke/VarHandle")
    {W9 : Nat} {Pre : Pt → Array Value → Prop} {Post : Pt → Array Value → Option Value → Pt → Prop} {PostX : Pt → Array Value → Addr → Pt → Prop} (hK : vx_Back l R p e below s args y 3 W9 Pre Post PostX)
    {b : Addr} {cellB : Cell} (hcell : T.heap[b]? = some cellB) (hobj : cellB.vm.isStatics = false) (hcls : s.vm.findClass C = some cellB.cls)
    {g : JFrame} (hg : g.method = m) (hsize : g.locals.size = c.maxLocals) {argsL rest : List Value} (hlen : ∀ sig, parseMethodDescriptor y.desc = some sig → argsL.length = sig.parameters.length)
    (hstack : g.stack = argsL.reverse ++ .ref b :: rest) (hW : 2 * g.monitorRoom + (rest.map fun v => v.category).sum ≤ W9) (hdg : decode c.code g.pc = .ok (.invokevirtual index, 3))
    (hpre : ∀ vm₁, s.WarmedH vm₁ → Pre ⟨T.setVm vm₁, locs, cells, slots⟩ (Value.ref b :: argsL).toArray) :
    (∃ (v : Option Value) (vm₁ : Vm) (B : Pt), s.WarmedH vm₁ ∧ Stand p l e R s m args below meth c B.U B.locs B.cells B.slots ∧ Post ⟨T.setVm vm₁, locs, cells, slots⟩ (Value.ref b :: argsL).toArray v B ∧
      ∀ target, Steps p.tables e below (B.U.setTop { g with pc := g.pc + 3, stack := v.toList ++ rest }) target → Steps p.tables e below (T.setTop g) target) ∨
    (∃ (q : Addr) (vm₁ : Vm) (B : Pt), s.WarmedH vm₁ ∧ Stand p l e R s m args below meth c B.U B.locs B.cells B.slots ∧ PostX ⟨T.setVm vm₁, locs, cells, slots⟩ (Value.ref b :: argsL).toArray q B ∧
      Steps p.tables e below (T.setTop g) ((B.U.setTop { g with stack := rest }).pushFrame (.throwing q))) := by
  obtain ⟨mk, methM, hnamed, hmethM, hstM, habM⟩ := Cond.instanceMethod_spec hinst
  obtain ⟨m8, methM', cM, hn8, hmethM', -, -, -, -, -, -, hsigM⟩ := Cond.codeWith_spec hcode
  cases Option.some.inj (hn8.symm.trans hnamed)
  cases hmethM.symm.trans hmethM'
  obtain ⟨c2, r2, m2, q1, q2, q3, q4, kP, hkP, hkPi⟩ := Cond.selects_spec hsel
  cases hcls.symm.trans q1
  cases (State.methodFound?_of_named hnamed hy).symm.trans q2
  cases hnamed.symm.trans q3
  have hselP : selectMethod e.platform s.vm cellB.cls mk = .method mk := by rw [Launch.admits_selectMethod X.admits]; exact q4
  obtain ⟨vm₁, X₁, hstep₁⟩ := X.invokevirtual hexec hown hlink hnamed hmethM hstM hkP hkPi hy (a := b) (cell := cellB) hcell
    (fun z h => by rw [h] at hobj; cases hobj) hselP hmethM habM hkP hkPi (g := g) hg (argsL := argsL) (rest := rest) (hlen _ hsigM) hstack hdg
  rcases hK m meth c ⟨T.setVm vm₁, locs, cells, slots⟩ { g with stack := rest } (.invokevirtual index) mk (Value.ref b :: argsL).toArray X₁ hg hsize hdg hW (X₁.named hnamed) (hpre vm₁ X₁.warmed) with ⟨v, B, X', hpost, hsteps⟩ | ⟨q, B, X', hpost, hsteps⟩
  · exact Or.inl ⟨v, vm₁, B, X₁.warmed, X', hpost, fun target h => hstep₁ _ fun acts => by rw [doInvoke_state]; exact hsteps.trans h⟩
  · exact Or.inr ⟨q, vm₁, B, X₁.warmed, X', hpost, hstep₁ _ fun acts => by rw [doInvoke_state]; exact hsteps⟩
theorem vx_callSX (X : Stand p l e R s m args below meth c T locs cells slots) (hexec : p.tables.exec = Jvm.exec) {own : String} {index : Nat} {y : MethodName} {bytes : ByteArray} {maxL : Nat} {ret : Option FieldType} {hh : List (Nat × Nat × Nat × Nat)}
    (hown : s.vm.findClass own = some m.cls) (hlink : (Cond.methodLink own index y).before args s = true) (hstat : (Cond.static y).before args s = true) (hinit : (Cond.initialized y.cls).before args s = true)
    (hcode : (Cond.codeWith y bytes maxL ret hh).before args s = true) (hy : y.cls ≠ "java/lang/invoke/MethodHandle" ∧ y.cls ≠ "java/lang/invoke/VarHandle")
    {W9 : Nat} {Pre : Pt → Array Value → Prop} {Post : Pt → Array Value → Option Value → Pt → Prop} {PostX : Pt → Array Value → Addr → Pt → Prop} (hK : vx_Back l R p e below s args y 3 W9 Pre Post PostX)
    {g : JFrame} (hg : g.method = m) (hsize : g.locals.size = c.maxLocals) {argsL rest : List Value} (hlen : ∀ sig, parseMethodDescriptor y.desc = some sig → argsL.length = sig.parameters.length)
    (hstack : g.stack = argsL.reverse ++ rest) (hW : 2 * g.monitorRoom + (rest.map fun v => v.category).sum ≤ W9) (hdg : decode c.code g.pc = .ok (.invokestatic index, 3))
    (hpre : ∀ vm₁, s.WarmedH vm₁ → Pre ⟨T.setVm vm₁, locs, cells, slots⟩ argsL.toArray) :
    (∃ (v : Option Value) (vm₁ : Vm) (B : Pt), s.WarmedH vm₁ ∧ Stand p l e R s m args below meth c B.U B.locs B.cells B.slots ∧ Post ⟨T.setVm vm₁, locs, cells, slots⟩ argsL.toArray v B ∧
      ∀ target, Steps p.tables e below (B.U.setTop { g with pc := g.pc + 3, stack := v.toList ++ rest }) target → Steps p.tables e below (T.setTop g) target) ∨
    (∃ (q : Addr) (vm₁ : Vm) (B : Pt), s.WarmedH vm₁ ∧ Stand p l e R s m args below meth c B.U B.locs B.cells B.slots ∧ PostX ⟨T.setVm vm₁, locs, cells, slots⟩ argsL.toArray q B ∧
      Steps p.tables e below (T.setTop g) ((B.U.setTop { g with stack := rest }).pushFrame (.throwing q))) := by
  obtain ⟨mk, methM, cM, hnamed, hmethM, -, -, -, -, -, -, hsigM⟩ := Cond.codeWith_spec hcode
  have hstatic : methM.isStatic = true := Cond.static_spec hnamed hmethM hstat
  obtain ⟨kP, hkP, -⟩ := className_of_methodNamed hnamed
  have hinitP : kP.init = .initialized := Cond.initialized_spec (findClass_of_methodNamed hnamed) hkP hinit
  obtain ⟨vm₁, X₁, hstep₁⟩ := X.invokestatic hexec hown hlink hnamed hmethM hstatic hkP hinitP hy (g := g) hg (argsL := argsL) (rest := rest) (hlen _ hsigM) hstack hdg
  rcases hK m meth c ⟨T.setVm vm₁, locs, cells, slots⟩ { g with stack := rest } (.invokestatic index) mk argsL.toArray X₁ hg hsize hdg hW (X₁.named hnamed) (hpre vm₁ X₁.warmed) with ⟨v, B, X', hpost, hsteps⟩ | ⟨q, B, X', hpost, hsteps⟩
  · exact Or.inl ⟨v, vm₁, B, X₁.warmed, X', hpost, fun target h => hstep₁ _ fun acts => by rw [doInvoke_state]; exact hsteps.trans h⟩
  · exact Or.inr ⟨q, vm₁, B, X₁.warmed, X', hpost, hstep₁ _ fun acts => by rw [doInvoke_state]; exact hsteps⟩
theorem vx_callVW (X : Stand p l e R s m args below meth c T locs cells slots) (hexec : p.tables.exec = Jvm.exec) {own C : String} {index : Nat} {y : MethodName} {bytes : ByteArray} {maxL : Nat} {ret : Option FieldType} {hh : List (Nat × Nat × Nat × Nat)}
    (hown : s.vm.findClass own = some m.cls) (hlink : (Cond.methodLink own index y).before args s = true) (hinst : (Cond.instanceMethod y).before args s = true) (hsel : (Cond.selects C y y).before args s = true)
    (hcode : (Cond.codeWith y bytes maxL ret hh).before args s = true) (hy : y.cls ≠ "java/lang/invoke/MethodHandle" ∧ y.cls ≠ "java/lang/invoke/VarHandle")
    {W9 : Nat} {Pre : Pt → Array Value → Prop} {Post : Pt → Array Value → Option Value → Pt → Prop} (hK : Back l R p e below s args y 3 W9 Pre Post)
    {b : Addr} {cellB : Cell} (hcell : T.heap[b]? = some cellB) (hobj : cellB.vm.isStatics = false) (hcls : s.vm.findClass C = some cellB.cls)
    {g : JFrame} (hg : g.method = m) (hsize : g.locals.size = c.maxLocals) {argsL rest : List Value} (hlen : ∀ sig, parseMethodDescriptor y.desc = some sig → argsL.length = sig.parameters.length)
    (hstack : g.stack = argsL.reverse ++ .ref b :: rest) (hW : 2 * g.monitorRoom + (rest.map fun v => v.category).sum ≤ W9) (hdg : decode c.code g.pc = .ok (.invokevirtual index, 3))
    (hpre : ∀ vm₁, s.WarmedH vm₁ → Pre ⟨T.setVm vm₁, locs, cells, slots⟩ (Value.ref b :: argsL).toArray) :
    ∃ (v : Option Value) (vm₁ : Vm) (B : Pt), s.WarmedH vm₁ ∧ Stand p l e R s m args below meth c B.U B.locs B.cells B.slots ∧ Post ⟨T.setVm vm₁, locs, cells, slots⟩ (Value.ref b :: argsL).toArray v B ∧
      ∀ target, Steps p.tables e below (B.U.setTop { g with pc := g.pc + 3, stack := v.toList ++ rest }) target → Steps p.tables e below (T.setTop g) target := by
  obtain ⟨mk, methM, hnamed, hmethM, hstM, habM⟩ := Cond.instanceMethod_spec hinst
  obtain ⟨m8, methM', cM, hn8, hmethM', -, -, -, -, -, -, hsigM⟩ := Cond.codeWith_spec hcode
  cases Option.some.inj (hn8.symm.trans hnamed)
  cases hmethM.symm.trans hmethM'
  obtain ⟨c2, r2, m2, q1, q2, q3, q4, kP, hkP, hkPi⟩ := Cond.selects_spec hsel
  cases hcls.symm.trans q1
  cases (State.methodFound?_of_named hnamed hy).symm.trans q2
  cases hnamed.symm.trans q3
  have hselP : selectMethod e.platform s.vm cellB.cls mk = .method mk := by rw [Launch.admits_selectMethod X.admits]; exact q4
  obtain ⟨vm₁, X₁, hstep₁⟩ := X.invokevirtual hexec hown hlink hnamed hmethM hstM hkP hkPi hy (a := b) (cell := cellB) hcell
    (fun z h => by rw [h] at hobj; cases hobj) hselP hmethM habM hkP hkPi (g := g) hg (argsL := argsL) (rest := rest) (hlen _ hsigM) hstack hdg
  obtain ⟨v, B, X', hpost, hsteps⟩ := hK m meth c ⟨T.setVm vm₁, locs, cells, slots⟩ { g with stack := rest } (.invokevirtual index) mk (Value.ref b :: argsL).toArray X₁ hg hsize hdg hW (X₁.named hnamed) (hpre vm₁ X₁.warmed)
  exact ⟨v, vm₁, B, X₁.warmed, X', hpost, fun target h => hstep₁ _ fun acts => by rw [doInvoke_state]; exact hsteps.trans h⟩
abbrev vx_CVW (R : Room) (s : State) (args : Array Value) (own C : String) (index : Nat) (y : MethodName) (bytes : ByteArray) (maxL : Nat) (ret : Option FieldType) (hh : List (Nat × Nat × Nat × Nat)) (ws : List Cond) (rm : Room) (mc ms n : Nat) : Prop :=
  (rm.cells = mc ∧ rm.slots = ms ∧ rm.frames + 1 ≤ R.frames ∧ 8 + (maxL + 11) + rm.locals ≤ R.locals ∧ (∀ w ∈ ws, ∀ (a' : Array Value) (U : State), s.WarmedH U.vm → w.before a' U = true) ∧ Cond.codeWith y bytes maxL ret hh ∈ ws) ∧
  (Cond.codeWith y bytes maxL ret hh).before args s = true ∧ (Cond.initialized y.cls).before args s = true ∧ (y.cls ≠ "java/lang/invoke/MethodHandle" ∧ y.cls ≠ "java/lang/invoke/VarHandle") ∧
  (∀ sig, parseMethodDescriptor y.desc = some sig → n = sig.parameters.length) ∧ (Cond.methodLink own index y).before args s = true ∧ (Cond.instanceMethod y).before args s = true ∧ (Cond.selects C y y).before args s = true
theorem vx_cwVW {own C : String} {index maxL mc ms : Nat} {y : MethodName} {bytes : ByteArray} {ret : Option FieldType} {hh : List (Nat × Nat × Nat × Nat)} {Ts ws ws' : List Cond} {rm : Room} (n : Nat) (ht : ∀ w ∈ Ts, w.before args s = true) (hT : GoodIn Ts (wsV own index C y ws)) (hw : ws = Cond.codeWith y bytes maxL ret hh :: ws') (hrc : rm.cells = mc) (hrs : rm.slots = ms)
    (hd : y.cls = C ∧ y.cls ≠ "java/lang/invoke/MethodHandle" ∧ y.cls ≠ "java/lang/invoke/VarHandle" ∧ (parseMethodDescriptor y.desc).map (fun d => d.parameters.length) = some n) (hR : rm.frames + 1 ≤ R.frames ∧ 8 + (maxL + 11) + rm.locals ≤ R.locals) :
    vx_CVW R s args own C index y bytes maxL ret hh ws rm mc ms n := by
  obtain ⟨hC, hd⟩ := hd
  subst hC
  have ok : ∀ w ∈ wsV own index y.cls y ws, w.before args s = true := fun w h => ht w (hT w h).1
  have hG : GoodIn Ts ws := fun w h => hT w (by unfold wsV; exact List.mem_append_right _ h)
  have hc : Cond.codeWith y bytes maxL ret hh ∈ ws := by rw [hw]; exact List.mem_cons_self
  refine ⟨⟨hrc, hrs, hR.1, hR.2, pay_in ht hG, hc⟩, ht _ (hG _ hc).1, ok _ (by simp [wsV]), ⟨hd.1, hd.2.1⟩, fun sig h => ?_, ok _ (by simp [wsV]), ok _ (by simp [wsV]), ok _ (by simp [wsV])⟩
  have h2 := hd.2.2
  rw [h] at h2
  exact (Option.some.inj h2).symm
theorem vx_runVW {y : MethodName} {bytes cc : ByteArray} {maxL nL mc ms n index : Nat} {ret : Option FieldType} {hh : List (Nat × Nat × Nat × Nat)} {ws : List Cond} {rm : Room} {Pc : Array Value → State → Prop} {Qc : Array Value → State → Outcome → State → Prop} {free : Addr → Prop} {Ts : List Cond} {own C : String} {b : Addr} {As rest : List Value} {g : JFrame}
    (S : CallFix p m c cc nL s args Ts own) (hM : Met l y ws rm Pc Qc mc ms free) (cw : vx_CVW R s args own C index y bytes maxL ret hh ws rm mc ms n) (hp : PreV s H C b Pc As)
    (hg : g.method = m) (hn : As.length = n) (hsize : g.locals.size = nL) (hstack : g.stack = As.reverse ++ .ref b :: rest) (hW : 2 * g.monitorRoom + (rest.map fun v => v.category).sum ≤ 8) (hdg : decode cc g.pc = .ok (.invokevirtual index, 3)) (hf : cells + mc ≤ R.cells ∧ slots + ms ≤ R.slots) :
    va_Run p l e R s m args below meth c H locs cells slots mc ms g rest (Qc (Value.ref b :: As).toArray) free := by
  obtain ⟨⟨hrc, hrs, hfr, hlo, hws, hcw⟩, hcode, hini, hy, hlen, hl, hin, hse⟩ := cw
  have hK : Back l R p e below s args y 3 8 (PreOf R mc ms Pc) (PostOf Qc mc ms free) := va_backW (hh := hh) (bytes := bytes) (maxL := maxL) (ret := ret) hM hp.1 hrc hrs hfr hlo hws hcw (fun a' U hW => word_at hW (Or.inl (by first | rfl | simp [Cond.onTables, Cond.keeps, Cond.steady])) hini)
  obtain ⟨hx, hb, hml, ho, -⟩ := S
  obtain ⟨-, ⟨cellB, hcB, hoB, hclB⟩, hPc⟩ := hp
  intro T hT X
  obtain ⟨v, vm₁, ⟨U', l2, c2, s2⟩, hW₁, X', ⟨g', mk, t, L, e1, e2, hq, h1, hL, h2, h3⟩, st⟩ := vx_callVW X hx (C := C) (hh := hh) (bytes := bytes) (maxL := maxL) (ret := ret) ho hl hin hse hcode hy hK (by rw [hT]; exact hcB) hoB hclB hg (hsize.trans hml.symm) (argsL := As) (rest := rest) (fun sig h => hn.trans (hlen sig h)) hstack hW (by rw [hb]; exact hdg)
    (fun vm₁ hW₁ => ⟨hf.1, hf.2, hPc (T.setVm vm₁) hT hW₁⟩)
  dsimp only [Pt.U, Pt.locs, Pt.cells, Pt.slots] at X' e1 e2 h1 h2 h3 st
  subst h1; subst h2; subst h3
  exact ⟨v, (T.setVm vm₁).calling g' mk (Value.ref b :: As).toArray, t, U', L, hT, X', hL, e1, e2, hq, st⟩
section
variable {y : MethodName} {bytes cc : ByteArray} {maxL nL mc ms n index : Nat} {ret : Option FieldType} {ws : List Cond} {rm : Room} {Pc : Array Value → State → Prop} {Qc : Array Value → State → Outcome → State → Prop} {XC : String → State → State → Prop} {free : Addr → Prop} {Ts : List Cond} {own C : String} {b : Addr} {As rest : List Value} {g : JFrame}
theorem vx_runVX {hh : List (Nat × Nat × Nat × Nat)} (S : CallFix p m c cc nL s args Ts own) (hM : vx_Met l y ws rm Pc Qc XC mc ms free) (cw : vx_CVW R s args own C index y bytes maxL ret hh ws rm mc ms n) (hp : PreV s H C b Pc As)
    (hg : g.method = m) (hn : As.length = n) (hsize : g.locals.size = nL) (hstack : g.stack = As.reverse ++ .ref b :: rest) (hW : 2 * g.monitorRoom + (rest.map fun v => v.category).sum ≤ 8) (hdg : decode cc g.pc = .ok (.invokevirtual index, 3)) (hf : cells + mc ≤ R.cells ∧ slots + ms ≤ R.slots) :
    vx_Run p l e R s m args below meth c H locs cells slots mc ms g rest (Qc (Value.ref b :: As).toArray) XC free := by
  obtain ⟨⟨hrc, hrs, hfr, hlo, hws, hcw⟩, hcode, hini, hy, hlen, hl, hin, hse⟩ := cw
  have hK : vx_Back l R p e below s args y 3 8 (PreOf R mc ms Pc) (PostOf Qc mc ms free) (vx_Post XC mc ms free) := vx_backW (hh := hh) (bytes := bytes) (maxL := maxL) (ret := ret) hM hp.1 hrc hrs hfr hlo hws hcw (fun a' U hW => word_at hW (Or.inl (by first | rfl | simp [Cond.onTables, Cond.keeps, Cond.steady])) hini)
  obtain ⟨hx, hb, hml, ho, -⟩ := S
  obtain ⟨-, ⟨cellB, hcB, hoB, hclB⟩, hPc⟩ := hp
  intro T hT X
  rcases vx_callVX X hx (C := C) (hh := hh) (bytes := bytes) (maxL := maxL) (ret := ret) ho hl hin hse hcode hy hK (by rw [hT]; exact hcB) hoB hclB hg (hsize.trans hml.symm) (argsL := As) (rest := rest) (fun sig h => hn.trans (hlen sig h)) hstack hW (by rw [hb]; exact hdg)
    (fun vm₁ hW₁ => ⟨hf.1, hf.2, hPc (T.setVm vm₁) hT hW₁⟩) with ⟨v, vm₁, ⟨U', l2, c2, s2⟩, hW₁, X', ⟨g', mk, t, L, e1, e2, hq, h1, hL, h2, h3⟩, st⟩ | ⟨q, vm₁, ⟨U', l2, c2, s2⟩, hW₁, X', ⟨g', mk, t, L, E, ce, e1, e2, hq, hce, hcv, hcl, h1, hL, h2, h3⟩, st⟩
  · dsimp only [Pt.U, Pt.locs, Pt.cells, Pt.slots] at X' e1 e2 h1 h2 h3 st
    subst h1; subst h2; subst h3
    exact Or.inl ⟨v, (T.setVm vm₁).calling g' mk (Value.ref b :: As).toArray, t, U', L, hT, X', hL, e1, e2, hq, st⟩
  · dsimp only [Pt.U, Pt.locs, Pt.cells, Pt.slots] at X' e1 e2 h1 h2 h3 st hcl
    subst h1; subst h2; subst h3
    exact Or.inr ⟨q, (T.setVm vm₁).calling g' mk (Value.ref b :: As).toArray, t, U', L, E, ce, hT, X', hL, e1, e2, hq, hce, hcv, vx_cls hW₁ hcl, st⟩
theorem vx_runSX {hh : List (Nat × Nat × Nat × Nat)} (S : CallFix p m c cc nL s args Ts own) (hM : vx_Met l y ws rm Pc Qc XC mc ms free) (cw : vx_CSW R s args own index y bytes maxL ret hh ws rm mc ms n) (hp : PreS s H Pc As)
    (hg : g.method = m) (hn : As.length = n) (hsize : g.locals.size = nL) (hstack : g.stack = As.reverse ++ rest) (hW : 2 * g.monitorRoom + (rest.map fun v => v.category).sum ≤ 8) (hdg : decode cc g.pc = .ok (.invokestatic index, 3)) (hf : cells + mc ≤ R.cells ∧ slots + ms ≤ R.slots) :
    vx_Run p l e R s m args below meth c H locs cells slots mc ms g rest (Qc As.toArray) XC free := by
  obtain ⟨⟨hrc, hrs, hfr, hlo, hws, hcw⟩, hcode, hini, hy, hlen, hl, hstt⟩ := cw
  have hK : vx_Back l R p e below s args y 3 8 (PreOf R mc ms Pc) (PostOf Qc mc ms free) (vx_Post XC mc ms free) := vx_backW (hh := hh) (bytes := bytes) (maxL := maxL) (ret := ret) hM hp.1 hrc hrs hfr hlo hws hcw (fun a' U hW => word_at hW (Or.inl (by first | rfl | simp [Cond.onTables, Cond.keeps, Cond.steady])) hini)
  obtain ⟨hx, hb, hml, ho, -⟩ := S
  intro T hT X
  rcases vx_callSX X hx (hh := hh) (bytes := bytes) (maxL := maxL) (ret := ret) ho hl hstt hini hcode hy hK hg (hsize.trans hml.symm) (argsL := As) (rest := rest) (fun sig h => hn.trans (hlen sig h)) hstack hW (by rw [hb]; exact hdg)
    (fun vm₁ hW₁ => ⟨hf.1, hf.2, hp.2 (T.setVm vm₁) hT hW₁⟩) with ⟨v, vm₁, ⟨U', l2, c2, s2⟩, hW₁, X', ⟨g', mk, t, L, e1, e2, hq, h1, hL, h2, h3⟩, st⟩ | ⟨q, vm₁, ⟨U', l2, c2, s2⟩, hW₁, X', ⟨g', mk, t, L, E, ce, e1, e2, hq, hce, hcv, hcl, h1, hL, h2, h3⟩, st⟩
  · dsimp only [Pt.U, Pt.locs, Pt.cells, Pt.slots] at X' e1 e2 h1 h2 h3 st
    subst h1; subst h2; subst h3
    exact Or.inl ⟨v, (T.setVm vm₁).calling g' mk As.toArray, t, U', L, hT, X', hL, e1, e2, hq, st⟩
  · dsimp only [Pt.U, Pt.locs, Pt.cells, Pt.slots] at X' e1 e2 h1 h2 h3 st hcl
    subst h1; subst h2; subst h3
    exact Or.inr ⟨q, (T.setVm vm₁).calling g' mk As.toArray, t, U', L, E, ce, hT, X', hL, e1, e2, hq, hce, hcv, vx_cls hW₁ hcl, st⟩
end
end VXH
theorem vx_ofWH {l : Launch} {y : MethodName} {ws ws' : List Cond} {rm : Room} {Pc : Array Value → State → Prop} {Qc : Array Value → State → Outcome → State → Prop} {XC : String → State → State → Prop} {mc ms : Nat} {free : Addr → Prop} {cc : ByteArray} {maxL : Nat} {ret : Option FieldType} {hh : List (Nat × Nat × Nat × Nat)}
    (hy : plainName y.cls = true) (hw : ws = Cond.codeWith y cc maxL ret hh :: ws')
    (body : ∀ p e s m args below meth c s₁, BodyLoose p l y (headSpec ws rm) cc maxL ret e s m args below meth c s₁ → c.maxLocals = maxL → Pc args s →
      W p l e (headSpec ws rm).room s m args below meth c s.heap [] 0 0 (vx_MQ below Qc XC args s mc ms free) (entryFrame m args maxL)) : vx_Met l y ws rm Pc Qc XC mc ms free := by
  refine MetFree.of_bodyS (code := cc) (maxLocals := maxL) (ret := ret) hy ?_ ?_
  · intro args s m h hn
    obtain ⟨m9, meth, c, hn9, h1, h2, h3, h4, -, h5, h6, -⟩ := Cond.codeWith_spec (atoms_spec (ws := ws) h _ (by rw [hw]; exact List.mem_cons_self))
    cases hn.symm.trans hn9
    exact ⟨meth, c, h1, h2, h3, h4, h5, h6⟩
  · intro p e s m args below meth c s₁ B hml hP _
    have hh0 : s₁.heap = s.heap := by rw [B.state]; rfl
    obtain ⟨t, a1, o, b1, b2, b3⟩ := body p e s m args below meth c s₁ B hml hP s₁ hh0 (Stand.of_body B)
    exact ⟨t, o, a1, b1, b2, b3⟩
/-! ===== END ===== -/
end
section
/-! ===== BEGIN printed: names, fields, word lists, decode rows ===== -/
def RX0 : String := "WholeNumbers$Euclid"
def TX0 : u_T := fun k => match k with
  | 0 => ("WholeNumbers$Euclid", "division", "LWholeNumbers$LongDivision;", true)
  | 1 => ("WholeNumbers$Euclid", "greater", "LWholeNumbers$Natural;", false)
  | 2 => ("WholeNumbers$Euclid", "lesser", "LWholeNumbers$Natural;", false)
  | 3 => ("WholeNumbers$Euclid", "a", "J", false)
  | 4 => ("WholeNumbers$Euclid", "b", "J", false)
  | 5 => ("WholeNumbers$Euclid", "c", "J", false)
  | _ => ("WholeNumbers$Euclid", "d", "J", false)
def tyX0 : Nat → FieldType := fun k => match k with
  | 0 => .object "WholeNumbers$LongDivision"
  | 1 => .object "WholeNumbers$Natural"
  | 2 => .object "WholeNumbers$Natural"
  | 3 => .long
  | 4 => .long
  | 5 => .long
  | _ => .long
abbrev wsX00 : List Cond := u_ws RX0 TX0 7
theorem nmX0 : ∀ a, a < 7 → ∀ b, b < 7 → a ≠ b → (TX0 a).2.1 ≠ (TX0 b).2.1 := by decide +kernel
theorem tyX0_ok : ∀ k, k < 7 → parseFieldDescriptor (TX0 k).2.2.1 = some (tyX0 k) := by decide +kernel
abbrev cX0_init : ByteArray := prog_2_method_1_code
def yX0_init : MethodName := ⟨RX0, "<init>", "(LWholeNumbers$LongDivision;)V"⟩
abbrev cX0_commonDivisor : ByteArray := prog_2_method_2_code
def yX0_commonDivisor : MethodName := ⟨RX0, "commonDivisor", "(LWholeNumbers$Natural;LWholeNumbers$Natural;)LWholeNumbers$Natural;"⟩
abbrev cX0_takeStep : ByteArray := prog_2_method_3_code
def yX0_takeStep : MethodName := ⟨RX0, "takeStep", "()V"⟩
abbrev cX0_foreseeSteps : ByteArray := prog_2_method_4_code
def yX0_foreseeSteps : MethodName := ⟨RX0, "foreseeSteps", "()Z"⟩
abbrev cX0_headFrom : ByteArray := prog_2_method_5_code
def yX0_headFrom : MethodName := ⟨RX0, "headFrom", "(LWholeNumbers$Natural;I)J"⟩
abbrev cX0_takeForeseenSteps : ByteArray := prog_2_method_6_code
def yX0_takeForeseenSteps : MethodName := ⟨RX0, "takeForeseenSteps", "()V"⟩
def RX1 : String := "WholeNumbers$LongDivision"
def TX1 : u_T := fun k => match k with
  | 0 => ("WholeNumbers$LongDivision", "quotient", "LWholeNumbers$Natural;", true)
  | 1 => ("WholeNumbers$LongDivision", "rest", "LWholeNumbers$Natural;", true)
  | _ => ("WholeNumbers$LongDivision", "divisor", "LWholeNumbers$Natural;", true)
def tyX1 : Nat → FieldType := fun k => match k with
  | 0 => .object "WholeNumbers$Natural"
  | 1 => .object "WholeNumbers$Natural"
  | _ => .object "WholeNumbers$Natural"
abbrev wsX10 : List Cond := u_ws RX1 TX1 3
theorem nmX1 : ∀ a, a < 3 → ∀ b, b < 3 → a ≠ b → (TX1 a).2.1 ≠ (TX1 b).2.1 := by decide +kernel
theorem tyX1_ok : ∀ k, k < 3 → parseFieldDescriptor (TX1 k).2.2.1 = some (tyX1 k) := by decide +kernel
abbrev cX1_init : ByteArray := prog_3_method_1_code
def yX1_init : MethodName := ⟨RX1, "<init>", "()V"⟩
abbrev cX1_split : ByteArray := prog_3_method_2_code
def yX1_split : MethodName := ⟨RX1, "split", "(LWholeNumbers$Natural;LWholeNumbers$Natural;)V"⟩
abbrev cX1_takeDigit : ByteArray := prog_3_method_3_code
def yX1_takeDigit : MethodName := ⟨RX1, "takeDigit", "(I)I"⟩
abbrev cX1_guessDigit : ByteArray := prog_3_method_4_code
def yX1_guessDigit : MethodName := ⟨RX1, "guessDigit", "(I)I"⟩
abbrev cX1_subtractAt : ByteArray := prog_3_method_5_code
def yX1_subtractAt : MethodName := ⟨RX1, "subtractAt", "(IJ)Z"⟩
abbrev cX1_addBackAt : ByteArray := prog_3_method_6_code
def yX1_addBackAt : MethodName := ⟨RX1, "addBackAt", "(I)V"⟩
def RX2 : String := "WholeNumbers$Natural"
def TX2 : u_T := fun k => match k with
  | 0 => ("WholeNumbers$Natural", "limbs", "[I", true)
  | _ => ("WholeNumbers$Natural", "count", "I", false)
def tyX2 : Nat → FieldType := fun k => match k with
  | 0 => .array .int
  | _ => .int
abbrev wsX20 : List Cond := u_ws RX2 TX2 2
theorem nmX2 : ∀ a, a < 2 → ∀ b, b < 2 → a ≠ b → (TX2 a).2.1 ≠ (TX2 b).2.1 := by decide +kernel
theorem tyX2_ok : ∀ k, k < 2 → parseFieldDescriptor (TX2 k).2.2.1 = some (tyX2 k) := by decide +kernel
abbrev cX2_init : ByteArray := prog_4_method_1_code
def yX2_init : MethodName := ⟨RX2, "<init>", "()V"⟩
abbrev cX2_isZero : ByteArray := prog_4_method_2_code
def yX2_isZero : MethodName := ⟨RX2, "isZero", "()Z"⟩
abbrev cX2_limb : ByteArray := prog_4_method_3_code
def yX2_limb : MethodName := ⟨RX2, "limb", "(I)I"⟩
abbrev cX2_bitLength : ByteArray := prog_4_method_4_code
def yX2_bitLength : MethodName := ⟨RX2, "bitLength", "()I"⟩
abbrev cX2_spareBits : ByteArray := prog_4_method_5_code
def yX2_spareBits : MethodName := ⟨RX2, "spareBits", "()I"⟩
abbrev cX2_limbFrom : ByteArray := prog_4_method_6_code
def yX2_limbFrom : MethodName := ⟨RX2, "limbFrom", "(I)I"⟩
abbrev cX2_anyBitBelow : ByteArray := prog_4_method_7_code
def yX2_anyBitBelow : MethodName := ⟨RX2, "anyBitBelow", "(I)Z"⟩
abbrev cX2_lowestLong : ByteArray := prog_4_method_8_code
def yX2_lowestLong : MethodName := ⟨RX2, "lowestLong", "()J"⟩
abbrev cX2_order : ByteArray := prog_4_method_9_code
def yX2_order : MethodName := ⟨RX2, "order", "(LWholeNumbers$Natural;)I"⟩
abbrev cX2_take : ByteArray := prog_4_method_10_code
def yX2_take : MethodName := ⟨RX2, "take", "(LWholeNumbers$Natural;)V"⟩
abbrev cX2_takeUnsigned : ByteArray := prog_4_method_11_code
def yX2_takeUnsigned : MethodName := ⟨RX2, "takeUnsigned", "(J)V"⟩
abbrev cX2_trim : ByteArray := prog_4_method_12_code
def yX2_trim : MethodName := ⟨RX2, "trim", "(I)V"⟩
abbrev cX2_takeSum : ByteArray := prog_4_method_13_code
def yX2_takeSum : MethodName := ⟨RX2, "takeSum", "(LWholeNumbers$Natural;LWholeNumbers$Natural;)V"⟩
abbrev cX2_takeDifference : ByteArray := prog_4_method_14_code
def yX2_takeDifference : MethodName := ⟨RX2, "takeDifference", "(LWholeNumbers$Natural;LWholeNumbers$Natural;)V"⟩
abbrev cX2_takeProduct : ByteArray := prog_4_method_15_code
def yX2_takeProduct : MethodName := ⟨RX2, "takeProduct", "(LWholeNumbers$Natural;LWholeNumbers$Natural;)V"⟩
abbrev cX2_addRow : ByteArray := prog_4_method_16_code
def yX2_addRow : MethodName := ⟨RX2, "addRow", "(LWholeNumbers$Natural;JI)I"⟩
abbrev cX2_shiftUp : ByteArray := prog_4_method_17_code
def yX2_shiftUp : MethodName := ⟨RX2, "shiftUp", "(LWholeNumbers$Natural;I)V"⟩
abbrev cX2_shiftDown : ByteArray := prog_4_method_18_code
def yX2_shiftDown : MethodName := ⟨RX2, "shiftDown", "(LWholeNumbers$Natural;I)V"⟩
abbrev cX2_timesPlus : ByteArray := prog_4_method_19_code
def yX2_timesPlus : MethodName := ⟨RX2, "timesPlus", "(II)V"⟩
abbrev cX2_cutBy : ByteArray := prog_4_method_20_code
def yX2_cutBy : MethodName := ⟨RX2, "cutBy", "(I)I"⟩
abbrev cX2_padTo : ByteArray := prog_4_method_21_code
def yX2_padTo : MethodName := ⟨RX2, "padTo", "(I)V"⟩
def RX3 : String := "WholeNumbers$Text"
def TX3 : u_T := fun k => match k with
  | 0 => ("WholeNumbers$Text", "letters", "[C", true)
  | _ => ("WholeNumbers$Text", "length", "I", false)
def tyX3 : Nat → FieldType := fun k => match k with
  | 0 => .array .char
  | _ => .int
abbrev wsX30 : List Cond := u_ws RX3 TX3 2
theorem nmX3 : ∀ a, a < 2 → ∀ b, b < 2 → a ≠ b → (TX3 a).2.1 ≠ (TX3 b).2.1 := by decide +kernel
theorem tyX3_ok : ∀ k, k < 2 → parseFieldDescriptor (TX3 k).2.2.1 = some (tyX3 k) := by decide +kernel
abbrev cX3_init : ByteArray := prog_5_method_1_code
def yX3_init : MethodName := ⟨RX3, "<init>", "()V"⟩
abbrev cX3_append : ByteArray := prog_5_method_2_code
def yX3_append : MethodName := ⟨RX3, "append", "(C)V"⟩
abbrev cX3_spell : ByteArray := prog_5_method_3_code
def yX3_spell : MethodName := ⟨RX3, "spell", "(LWholeNumbers$Whole;I)V"⟩
abbrev cX3_appendDigitsBackwards : ByteArray := prog_5_method_4_code
def yX3_appendDigitsBackwards : MethodName := ⟨RX3, "appendDigitsBackwards", "(LWholeNumbers$Natural;I)V"⟩
abbrev cX3_reverse : ByteArray := prog_5_method_5_code
def yX3_reverse : MethodName := ⟨RX3, "reverse", "()V"⟩
abbrev cX3_firstDigit : ByteArray := prog_5_method_6_code
def yX3_firstDigit : MethodName := ⟨RX3, "firstDigit", "()I"⟩
abbrev cX3_tellsNumber : ByteArray := prog_5_method_7_code
def yX3_tellsNumber : MethodName := ⟨RX3, "tellsNumber", "(I)Z"⟩
abbrev cX3_tell : ByteArray := prog_5_method_8_code
def yX3_tell : MethodName := ⟨RX3, "tell", "(LWholeNumbers$Whole;I)V"⟩
abbrev cX3_pieceBetween : ByteArray := prog_5_method_9_code
def yX3_pieceBetween : MethodName := ⟨RX3, "pieceBetween", "(III)I"⟩
abbrev cX3_digitsInLimb : ByteArray := prog_5_method_10_code
def yX3_digitsInLimb : MethodName := ⟨RX3, "digitsInLimb", "(I)I"⟩
abbrev cX3_powerOf : ByteArray := prog_5_method_11_code
def yX3_powerOf : MethodName := ⟨RX3, "powerOf", "(II)I"⟩
abbrev cX3_letterOf : ByteArray := prog_5_method_12_code
def yX3_letterOf : MethodName := ⟨RX3, "letterOf", "(I)C"⟩
abbrev cX3_digitOf : ByteArray := prog_5_method_13_code
def yX3_digitOf : MethodName := ⟨RX3, "digitOf", "(C)I"⟩
def RX4 : String := "WholeNumbers$Whole"
def TX4 : u_T := fun k => match k with
  | 0 => ("WholeNumbers$Whole", "size", "LWholeNumbers$Natural;", true)
  | _ => ("WholeNumbers$Whole", "negative", "Z", false)
def tyX4 : Nat → FieldType := fun k => match k with
  | 0 => .object "WholeNumbers$Natural"
  | _ => .boolean
abbrev wsX40 : List Cond := u_ws RX4 TX4 2
theorem nmX4 : ∀ a, a < 2 → ∀ b, b < 2 → a ≠ b → (TX4 a).2.1 ≠ (TX4 b).2.1 := by decide +kernel
theorem tyX4_ok : ∀ k, k < 2 → parseFieldDescriptor (TX4 k).2.2.1 = some (tyX4 k) := by decide +kernel
abbrev cX4_init : ByteArray := prog_6_method_1_code
def yX4_init : MethodName := ⟨RX4, "<init>", "()V"⟩
abbrev cX4_take : ByteArray := prog_6_method_2_code
def yX4_take : MethodName := ⟨RX4, "take", "(LWholeNumbers$Whole;)V"⟩
abbrev cX4_takeLong : ByteArray := prog_6_method_3_code
def yX4_takeLong : MethodName := ⟨RX4, "takeLong", "(J)V"⟩
abbrev cX4_takeSign : ByteArray := prog_6_method_4_code
def yX4_takeSign : MethodName := ⟨RX4, "takeSign", "(Z)V"⟩
abbrev cX4_takeSum : ByteArray := prog_6_method_5_code
def yX4_takeSum : MethodName := ⟨RX4, "takeSum", "(LWholeNumbers$Whole;LWholeNumbers$Whole;Z)V"⟩
abbrev cX4_takeProduct : ByteArray := prog_6_method_6_code
def yX4_takeProduct : MethodName := ⟨RX4, "takeProduct", "(LWholeNumbers$Whole;LWholeNumbers$Whole;)Z"⟩
abbrev cX4_direction : ByteArray := prog_6_method_7_code
def yX4_direction : MethodName := ⟨RX4, "direction", "()I"⟩
abbrev cX4_order : ByteArray := prog_6_method_8_code
def yX4_order : MethodName := ⟨RX4, "order", "(LWholeNumbers$Whole;)I"⟩
abbrev cX4_isLong : ByteArray := prog_6_method_9_code
def yX4_isLong : MethodName := ⟨RX4, "isLong", "()Z"⟩
abbrev cX4_asLong : ByteArray := prog_6_method_10_code
def yX4_asLong : MethodName := ⟨RX4, "asLong", "()J"⟩
def RX5 : String := "WholeNumbers"
def TX5 : u_T := fun k => match k with
  | 0 => ("WholeNumbers", "registers", "[LWholeNumbers$Whole;", true)
  | 1 => ("WholeNumbers", "result", "LWholeNumbers$Whole;", true)
  | 2 => ("WholeNumbers", "second", "LWholeNumbers$Whole;", true)
  | 3 => ("WholeNumbers", "division", "LWholeNumbers$LongDivision;", true)
  | 4 => ("WholeNumbers", "euclid", "LWholeNumbers$Euclid;", true)
  | _ => ("WholeNumbers", "text", "LWholeNumbers$Text;", true)
def tyX5 : Nat → FieldType := fun k => match k with
  | 0 => .array (.object "WholeNumbers$Whole")
  | 1 => .object "WholeNumbers$Whole"
  | 2 => .object "WholeNumbers$Whole"
  | 3 => .object "WholeNumbers$LongDivision"
  | 4 => .object "WholeNumbers$Euclid"
  | _ => .object "WholeNumbers$Text"
abbrev wsX50 : List Cond := u_ws RX5 TX5 6
theorem nmX5 : ∀ a, a < 6 → ∀ b, b < 6 → a ≠ b → (TX5 a).2.1 ≠ (TX5 b).2.1 := by decide +kernel
theorem tyX5_ok : ∀ k, k < 6 → parseFieldDescriptor (TX5 k).2.2.1 = some (tyX5 k) := by decide +kernel
abbrev cX5_init : ByteArray := prog_1_method_1_code
def yX5_init : MethodName := ⟨RX5, "<init>", "()V"⟩
abbrev cX5_load : ByteArray := prog_1_method_2_code
def yX5_load : MethodName := ⟨RX5, "load", "(IJ)Z"⟩
abbrev cX5_reckon : ByteArray := prog_1_method_3_code
def yX5_reckon : MethodName := ⟨RX5, "reckon", "(IIII)I"⟩
abbrev cX5_divide : ByteArray := prog_1_method_4_code
def yX5_divide : MethodName := ⟨RX5, "divide", "(IIIIZ)I"⟩
abbrev cX5_gcd : ByteArray := prog_1_method_5_code
def yX5_gcd : MethodName := ⟨RX5, "gcd", "(III)I"⟩
abbrev cX5_root : ByteArray := prog_1_method_6_code
def yX5_root : MethodName := ⟨RX5, "root", "(II)I"⟩
abbrev cX5_shift : ByteArray := prog_1_method_7_code
def yX5_shift : MethodName := ⟨RX5, "shift", "(III)I"⟩
abbrev cX5_power : ByteArray := prog_1_method_8_code
def yX5_power : MethodName := ⟨RX5, "power", "(III)I"⟩
abbrev cX5_compare : ByteArray := prog_1_method_9_code
def yX5_compare : MethodName := ⟨RX5, "compare", "(II)I"⟩
abbrev cX5_sign : ByteArray := prog_1_method_10_code
def yX5_sign : MethodName := ⟨RX5, "sign", "(I)I"⟩
abbrev cX5_bits : ByteArray := prog_1_method_11_code
def yX5_bits : MethodName := ⟨RX5, "bits", "(I)I"⟩
abbrev cX5_part : ByteArray := prog_1_method_12_code
def yX5_part : MethodName := ⟨RX5, "part", "(II)I"⟩
abbrev cX5_hasBelow : ByteArray := prog_1_method_13_code
def yX5_hasBelow : MethodName := ⟨RX5, "hasBelow", "(II)Z"⟩
abbrev cX5_low : ByteArray := prog_1_method_14_code
def yX5_low : MethodName := ⟨RX5, "low", "(I)J"⟩
abbrev cX5_fits : ByteArray := prog_1_method_15_code
def yX5_fits : MethodName := ⟨RX5, "fits", "(I)Z"⟩
abbrev cX5_write : ByteArray := prog_1_method_16_code
def yX5_write : MethodName := ⟨RX5, "write", "(II)I"⟩
abbrev cX5_type : ByteArray := prog_1_method_17_code
def yX5_type : MethodName := ⟨RX5, "type", "(I)I"⟩
abbrev cX5_clear : ByteArray := prog_1_method_18_code
def yX5_clear : MethodName := ⟨RX5, "clear", "()V"⟩
abbrev cX5_character : ByteArray := prog_1_method_19_code
def yX5_character : MethodName := ⟨RX5, "character", "(I)I"⟩
abbrev cX5_read : ByteArray := prog_1_method_20_code
def yX5_read : MethodName := ⟨RX5, "read", "(II)I"⟩
abbrev cX5_isRegister : ByteArray := prog_1_method_21_code
def yX5_isRegister : MethodName := ⟨RX5, "isRegister", "(I)Z"⟩
abbrev cX5_areRegisters : ByteArray := prog_1_method_22_code
def yX5_areRegisters : MethodName := ⟨RX5, "areRegisters", "(III)Z"⟩
abbrev cX5_isBase : ByteArray := prog_1_method_23_code
def yX5_isBase : MethodName := ⟨RX5, "isBase", "(I)Z"⟩
abbrev cX5_keepResult : ByteArray := prog_1_method_24_code
def yX5_keepResult : MethodName := ⟨RX5, "keepResult", "(I)I"⟩
abbrev cX5_cutQuotient : ByteArray := prog_1_method_25_code
def yX5_cutQuotient : MethodName := ⟨RX5, "cutQuotient", "(LWholeNumbers$Whole;LWholeNumbers$Whole;)V"⟩
abbrev cX5_stepDown : ByteArray := prog_1_method_26_code
def yX5_stepDown : MethodName := ⟨RX5, "stepDown", "(LWholeNumbers$Whole;)V"⟩
abbrev cX5_takeRoot : ByteArray := prog_1_method_27_code
def yX5_takeRoot : MethodName := ⟨RX5, "takeRoot", "(LWholeNumbers$Natural;)V"⟩
abbrev cX5_takePower : ByteArray := prog_1_method_28_code
def yX5_takePower : MethodName := ⟨RX5, "takePower", "(LWholeNumbers$Whole;I)Z"⟩
abbrev cX5_multiplyResult : ByteArray := prog_1_method_29_code
def yX5_multiplyResult : MethodName := ⟨RX5, "multiplyResult", "(LWholeNumbers$Whole;)Z"⟩
def RX6 : String := "WholeNumbersModel"
def TX6 : u_T := fun k => match k with
  | 0 => ("WholeNumbersModel", "digits", "[I", true)
  | 1 => ("WholeNumbersModel", "length", "[I", true)
  | 2 => ("WholeNumbersModel", "sign", "[I", true)
  | 3 => ("WholeNumbersModel", "limit", "[I", true)
  | 4 => ("WholeNumbersModel", "limitLength", "I", false)
  | 5 => ("WholeNumbersModel", "x", "[I", true)
  | 6 => ("WholeNumbersModel", "y", "[I", true)
  | 7 => ("WholeNumbersModel", "z", "[I", true)
  | 8 => ("WholeNumbersModel", "xn", "I", false)
  | 9 => ("WholeNumbersModel", "yn", "I", false)
  | 10 => ("WholeNumbersModel", "zn", "I", false)
  | 11 => ("WholeNumbersModel", "thrown", "I", false)
  | 12 => ("WholeNumbersModel", "text", "[I", true)
  | _ => ("WholeNumbersModel", "letters", "I", false)
def tyX6 : Nat → FieldType := fun k => match k with
  | 0 => .array .int
  | 1 => .array .int
  | 2 => .array .int
  | 3 => .array .int
  | 4 => .int
  | 5 => .array .int
  | 6 => .array .int
  | 7 => .array .int
  | 8 => .int
  | 9 => .int
  | 10 => .int
  | 11 => .int
  | 12 => .array .int
  | _ => .int
abbrev wsX60 : List Cond := u_ws RX6 TX6 14
theorem nmX6 : ∀ a, a < 14 → ∀ b, b < 14 → a ≠ b → (TX6 a).2.1 ≠ (TX6 b).2.1 := by decide +kernel
theorem tyX6_ok : ∀ k, k < 14 → parseFieldDescriptor (TX6 k).2.2.1 = some (tyX6 k) := by decide +kernel
abbrev cX6_init : ByteArray := prog_8_method_1_code
def yX6_init : MethodName := ⟨RX6, "<init>", "()V"⟩
abbrev cX6_thrown : ByteArray := prog_8_method_2_code
def yX6_thrown : MethodName := ⟨RX6, "thrown", "()I"⟩
abbrev cX6_isRegister : ByteArray := prog_8_method_3_code
def yX6_isRegister : MethodName := ⟨RX6, "isRegister", "(I)Z"⟩
abbrev cX6_shortened : ByteArray := prog_8_method_4_code
def yX6_shortened : MethodName := ⟨RX6, "shortened", "([II)I"⟩
abbrev cX6_compareRows : ByteArray := prog_8_method_5_code
def yX6_compareRows : MethodName := ⟨RX6, "compareRows", "([II[II)I"⟩
abbrev cX6_scaled : ByteArray := prog_8_method_6_code
def yX6_scaled : MethodName := ⟨RX6, "scaled", "([IIII)I"⟩
abbrev cX6_twice : ByteArray := prog_8_method_7_code
def yX6_twice : MethodName := ⟨RX6, "twice", "([II)I"⟩
abbrev cX6_half : ByteArray := prog_8_method_8_code
def yX6_half : MethodName := ⟨RX6, "half", "([II)I"⟩
abbrev cX6_added : ByteArray := prog_8_method_9_code
def yX6_added : MethodName := ⟨RX6, "added", "([II[II)I"⟩
abbrev cX6_taken : ByteArray := prog_8_method_10_code
def yX6_taken : MethodName := ⟨RX6, "taken", "([II[II)I"⟩
abbrev cX6_isOdd : ByteArray := prog_8_method_11_code
def yX6_isOdd : MethodName := ⟨RX6, "isOdd", "([II)Z"⟩
abbrev cX6_toX : ByteArray := prog_8_method_12_code
def yX6_toX : MethodName := ⟨RX6, "toX", "(I)V"⟩
abbrev cX6_toY : ByteArray := prog_8_method_13_code
def yX6_toY : MethodName := ⟨RX6, "toY", "(I)V"⟩
abbrev cX6_isWithin : ByteArray := prog_8_method_14_code
def yX6_isWithin : MethodName := ⟨RX6, "isWithin", "([II)Z"⟩
abbrev cX6_put : ByteArray := prog_8_method_15_code
def yX6_put : MethodName := ⟨RX6, "put", "(I[III)I"⟩
abbrev cX6_bitsOf : ByteArray := prog_8_method_16_code
def yX6_bitsOf : MethodName := ⟨RX6, "bitsOf", "(I)I"⟩
abbrev cX6_load : ByteArray := prog_8_method_17_code
def yX6_load : MethodName := ⟨RX6, "load", "(IJ)Z"⟩
abbrev cX6_sum : ByteArray := prog_8_method_18_code
def yX6_sum : MethodName := ⟨RX6, "sum", "(II)I"⟩
abbrev cX6_multiply : ByteArray := prog_8_method_19_code
def yX6_multiply : MethodName := ⟨RX6, "multiply", "()V"⟩
abbrev cX6_reckon : ByteArray := prog_8_method_20_code
def yX6_reckon : MethodName := ⟨RX6, "reckon", "(IIII)I"⟩
abbrev cX6_split : ByteArray := prog_8_method_21_code
def yX6_split : MethodName := ⟨RX6, "split", "()V"⟩
abbrev cX6_divide : ByteArray := prog_8_method_22_code
def yX6_divide : MethodName := ⟨RX6, "divide", "(IIIIZ)I"⟩
abbrev cX6_gcd : ByteArray := prog_8_method_23_code
def yX6_gcd : MethodName := ⟨RX6, "gcd", "(III)I"⟩
abbrev cX6_root : ByteArray := prog_8_method_24_code
def yX6_root : MethodName := ⟨RX6, "root", "(II)I"⟩
abbrev cX6_isOne : ByteArray := prog_8_method_25_code
def yX6_isOne : MethodName := ⟨RX6, "isOne", "()Z"⟩
abbrev cX6_shift : ByteArray := prog_8_method_26_code
def yX6_shift : MethodName := ⟨RX6, "shift", "(III)I"⟩
abbrev cX6_power : ByteArray := prog_8_method_27_code
def yX6_power : MethodName := ⟨RX6, "power", "(III)I"⟩
abbrev cX6_compare : ByteArray := prog_8_method_28_code
def yX6_compare : MethodName := ⟨RX6, "compare", "(II)I"⟩
abbrev cX6_sign : ByteArray := prog_8_method_29_code
def yX6_sign : MethodName := ⟨RX6, "sign", "(I)I"⟩
abbrev cX6_bits : ByteArray := prog_8_method_30_code
def yX6_bits : MethodName := ⟨RX6, "bits", "(I)I"⟩
abbrev cX6_part : ByteArray := prog_8_method_31_code
def yX6_part : MethodName := ⟨RX6, "part", "(II)I"⟩
abbrev cX6_anyBelow : ByteArray := prog_8_method_32_code
def yX6_anyBelow : MethodName := ⟨RX6, "anyBelow", "(II)Z"⟩
abbrev cX6_hasBelow : ByteArray := prog_8_method_33_code
def yX6_hasBelow : MethodName := ⟨RX6, "hasBelow", "(II)Z"⟩
abbrev cX6_isLong : ByteArray := prog_8_method_34_code
def yX6_isLong : MethodName := ⟨RX6, "isLong", "(I)Z"⟩
abbrev cX6_low : ByteArray := prog_8_method_35_code
def yX6_low : MethodName := ⟨RX6, "low", "(I)J"⟩
abbrev cX6_fits : ByteArray := prog_8_method_36_code
def yX6_fits : MethodName := ⟨RX6, "fits", "(I)Z"⟩
abbrev cX6_write : ByteArray := prog_8_method_37_code
def yX6_write : MethodName := ⟨RX6, "write", "(II)I"⟩
abbrev cX6_type : ByteArray := prog_8_method_38_code
def yX6_type : MethodName := ⟨RX6, "type", "(I)I"⟩
abbrev cX6_clear : ByteArray := prog_8_method_39_code
def yX6_clear : MethodName := ⟨RX6, "clear", "()V"⟩
abbrev cX6_character : ByteArray := prog_8_method_40_code
def yX6_character : MethodName := ⟨RX6, "character", "(I)I"⟩
abbrev cX6_digit : ByteArray := prog_8_method_41_code
def yX6_digit : MethodName := ⟨RX6, "digit", "(II)I"⟩
abbrev cX6_read : ByteArray := prog_8_method_42_code
def yX6_read : MethodName := ⟨RX6, "read", "(II)I"⟩
def RJ6 : String := "java/lang/Integer"
def TJ6 : u_T := fun k => match k with
  | _ => ("", "", "", false)
def tyJ6 : Nat → FieldType := fun k => match k with
  | _ => .int
abbrev wsJ60 : List Cond := u_ws RJ6 TJ6 0
theorem nmJ6 : ∀ a, a < 0 → ∀ b, b < 0 → a ≠ b → (TJ6 a).2.1 ≠ (TJ6 b).2.1 := by decide +kernel
theorem tyJ6_ok : ∀ k, k < 0 → parseFieldDescriptor (TJ6 k).2.2.1 = some (tyJ6 k) := by decide +kernel
abbrev cJ6_numberOfLeadingZeros_0f7a4 : ByteArray := prog_12_method_47_code
def yJ6_numberOfLeadingZeros_0f7a4 : MethodName := ⟨RJ6, "numberOfLeadingZeros", "(I)I"⟩
def RJ9 : String := "java/lang/Math"
def TJ9 : u_T := fun k => match k with
  | _ => ("", "", "", false)
def tyJ9 : Nat → FieldType := fun k => match k with
  | _ => .int
abbrev wsJ90 : List Cond := u_ws RJ9 TJ9 0
theorem nmJ9 : ∀ a, a < 0 → ∀ b, b < 0 → a ≠ b → (TJ9 a).2.1 ≠ (TJ9 b).2.1 := by decide +kernel
theorem tyJ9_ok : ∀ k, k < 0 → parseFieldDescriptor (TJ9 k).2.2.1 = some (tyJ9 k) := by decide +kernel
abbrev cJ9_max_7cf53 : ByteArray := prog_13_method_65_code
def yJ9_max_7cf53 : MethodName := ⟨RJ9, "max", "(II)I"⟩
abbrev cJ9_min_7cf53 : ByteArray := prog_13_method_69_code
def yJ9_min_7cf53 : MethodName := ⟨RJ9, "min", "(II)I"⟩
def RJ0 : String := "java/lang/String"
def TJ0 : u_T := fun k => match k with
  | _ => ("", "", "", false)
def tyJ0 : Nat → FieldType := fun k => match k with
  | _ => .int
abbrev wsJ00 : List Cond := u_ws RJ0 TJ0 0
theorem nmJ0 : ∀ a, a < 0 → ∀ b, b < 0 → a ≠ b → (TJ0 a).2.1 ≠ (TJ0 b).2.1 := by decide +kernel
theorem tyJ0_ok : ∀ k, k < 0 → parseFieldDescriptor (TJ0 k).2.2.1 = some (tyJ0 k) := by decide +kernel
def RJ10 : String := "java/lang/System"
def TJ10 : u_T := fun k => match k with
  | _ => ("", "", "", false)
def tyJ10 : Nat → FieldType := fun k => match k with
  | _ => .int
abbrev wsJ100 : List Cond := u_ws RJ10 TJ10 0
theorem nmJ10 : ∀ a, a < 0 → ∀ b, b < 0 → a ≠ b → (TJ10 a).2.1 ≠ (TJ10 b).2.1 := by decide +kernel
theorem tyJ10_ok : ∀ k, k < 0 → parseFieldDescriptor (TJ10 k).2.2.1 = some (tyJ10 k) := by decide +kernel
def RL : String := "WholeNumbersLaw"
abbrev cL_divide : ByteArray := method_3_code
def yL_divide : MethodName := ⟨RL, "divide", "(LWholeNumbers;IIIIZ[J)I"⟩
abbrev cL_root : ByteArray := method_4_code
def yL_root : MethodName := ⟨RL, "root", "(LWholeNumbers;II[J)I"⟩
abbrev cL_law : ByteArray := code
def yL_law : MethodName := ⟨RL, "law", "([I)Z"⟩
def wsX2_init : List Cond := .code yX2_init cX2_init 1 none :: ([.methodLink RX2 3 objectInit, .instanceMethod objectInit, .code objectInit ⟨#[0xb1]⟩ 1 none, .arrayClass .int, .fieldLink RX2 9 "WholeNumbers$Natural" "limbs" "[I"] ++ wsX20)
def wsX0_init : List Cond := .code yX0_init cX0_init 2 none :: ([.methodLink RX0 5 objectInit, .instanceMethod objectInit, .code objectInit ⟨#[0xb1]⟩ 1 none, .classLink RX0 11 RX2, .instantiable RX2 2, .initialized RX2, .fieldLink RX0 14 "WholeNumbers$Euclid" "greater" "LWholeNumbers$Natural;", .fieldLink RX0 18 "WholeNumbers$Euclid" "lesser" "LWholeNumbers$Natural;", .fieldLink RX0 21 "WholeNumbers$Euclid" "division" "LWholeNumbers$LongDivision;", .instanceMethod yX2_init, .code yX2_init cX2_init 1 none, .methodLink RX2 3 objectInit, .arrayClass .int, .fieldLink RX2 9 "WholeNumbers$Natural" "limbs" "[I"] ++ wsX20 ++ wsX00)
def wsX2_order : List Cond := .code yX2_order cX2_order 3 (some .int) :: ([.fieldLink RX2 15 "WholeNumbers$Natural" "count" "I", .fieldLink RX2 9 "WholeNumbers$Natural" "limbs" "[I"] ++ wsX20)
def wsX2_take : List Cond := .code yX2_take cX2_take 2 none :: ([.fieldLink RX2 9 "WholeNumbers$Natural" "limbs" "[I", .fieldLink RX2 15 "WholeNumbers$Natural" "count" "I", .methodLink RX2 33 arraycopyName, .native arraycopyName, .static arraycopyName, .initialized "java/lang/System"] ++ wsX20)
def wsX2_isZero : List Cond := .code yX2_isZero cX2_isZero 1 (some .boolean) :: ([.fieldLink RX2 15 "WholeNumbers$Natural" "count" "I"] ++ wsX20)
def wsX2_limb : List Cond := .code yX2_limb cX2_limb 2 (some .int) :: ([.fieldLink RX2 15 "WholeNumbers$Natural" "count" "I", .fieldLink RX2 9 "WholeNumbers$Natural" "limbs" "[I"] ++ wsX20)
def wsJ6_numberOfLeadingZeros_0f7a4 : List Cond := .code yJ6_numberOfLeadingZeros_0f7a4 cJ6_numberOfLeadingZeros_0f7a4 2 (some .int) :: ([.constant RJ6 264 (65536)])
def wsX2_spareBits : List Cond := .code yX2_spareBits cX2_spareBits 1 (some .int) :: ([.fieldLink RX2 15 "WholeNumbers$Natural" "count" "I", .methodLink RX2 23 yX2_limb, .instanceMethod yX2_limb, .selects RX2 yX2_limb yX2_limb, .initialized RX2, .code yX2_limb cX2_limb 2 (some .int), .fieldLink RX2 9 "WholeNumbers$Natural" "limbs" "[I", .methodLink RX2 27 yJ6_numberOfLeadingZeros_0f7a4, .static yJ6_numberOfLeadingZeros_0f7a4, .initialized RJ6, .code yJ6_numberOfLeadingZeros_0f7a4 cJ6_numberOfLeadingZeros_0f7a4 2 (some .int), .constant RJ6 264 (65536)] ++ wsX20)
def wsX2_bitLength : List Cond := .code yX2_bitLength cX2_bitLength 1 (some .int) :: ([.fieldLink RX2 15 "WholeNumbers$Natural" "count" "I", .methodLink RX2 19 yX2_spareBits, .instanceMethod yX2_spareBits, .selects RX2 yX2_spareBits yX2_spareBits, .initialized RX2, .code yX2_spareBits cX2_spareBits 1 (some .int), .methodLink RX2 23 yX2_limb, .instanceMethod yX2_limb, .selects RX2 yX2_limb yX2_limb, .code yX2_limb cX2_limb 2 (some .int), .fieldLink RX2 9 "WholeNumbers$Natural" "limbs" "[I", .methodLink RX2 27 yJ6_numberOfLeadingZeros_0f7a4, .static yJ6_numberOfLeadingZeros_0f7a4, .initialized RJ6, .code yJ6_numberOfLeadingZeros_0f7a4 cJ6_numberOfLeadingZeros_0f7a4 2 (some .int), .constant RJ6 264 (65536)] ++ wsX20)
def wsX2_limbFrom : List Cond := .code yX2_limbFrom cX2_limbFrom 4 (some .int) :: ([.constant RX2 32 (1073741823), .methodLink RX2 23 yX2_limb, .instanceMethod yX2_limb, .selects RX2 yX2_limb yX2_limb, .initialized RX2, .code yX2_limb cX2_limb 2 (some .int), .fieldLink RX2 15 "WholeNumbers$Natural" "count" "I", .fieldLink RX2 9 "WholeNumbers$Natural" "limbs" "[I"] ++ wsX20)
def wsX0_headFrom : List Cond := .code yX0_headFrom cX0_headFrom 2 (some .long) :: ([.methodLink RX0 82 yX2_limbFrom, .instanceMethod yX2_limbFrom, .selects RX2 yX2_limbFrom yX2_limbFrom, .initialized RX2, .code yX2_limbFrom cX2_limbFrom 4 (some .int), .constant RX2 32 (1073741823), .methodLink RX2 23 yX2_limb, .instanceMethod yX2_limb, .selects RX2 yX2_limb yX2_limb, .code yX2_limb cX2_limb 2 (some .int), .fieldLink RX2 15 "WholeNumbers$Natural" "count" "I", .fieldLink RX2 9 "WholeNumbers$Natural" "limbs" "[I"] ++ wsX20)
def wsX0_foreseeSteps_r1 : List Cond := [Cond.fieldLink RX0 14 "WholeNumbers$Euclid" "greater" "LWholeNumbers$Natural;", Cond.methodLink RX0 59 Lib.Math.max.name, Cond.static Lib.Math.max.name, Cond.initialized "java/lang/Math", Cond.code Lib.Math.max.name Lib.Math.max.code 2 (some .int), Cond.fieldLink RX0 18 "WholeNumbers$Euclid" "lesser" "LWholeNumbers$Natural;", Cond.fieldLink RX0 69 "WholeNumbers$Euclid" "a" "J", Cond.fieldLink RX0 73 "WholeNumbers$Euclid" "b" "J", Cond.fieldLink RX0 76 "WholeNumbers$Euclid" "c" "J", Cond.fieldLink RX0 79 "WholeNumbers$Euclid" "d" "J", Cond.methodLink RX0 55 yX2_bitLength, Cond.instanceMethod yX2_bitLength, Cond.selects RX2 yX2_bitLength yX2_bitLength, Cond.initialized RX2, Cond.code yX2_bitLength cX2_bitLength 1 (some .int), Cond.fieldLink RX2 15 "WholeNumbers$Natural" "count" "I", Cond.methodLink RX2 19 yX2_spareBits, Cond.instanceMethod yX2_spareBits, Cond.selects RX2 yX2_spareBits yX2_spareBits, Cond.code yX2_spareBits cX2_spareBits 1 (some .int), Cond.methodLink RX2 23 yX2_limb, Cond.instanceMethod yX2_limb, Cond.selects RX2 yX2_limb yX2_limb, Cond.code yX2_limb cX2_limb 2 (some .int)]
def wsX0_foreseeSteps_r2 : List Cond := [Cond.fieldLink RX2 9 "WholeNumbers$Natural" "limbs" "[I", Cond.methodLink RX2 27 yJ6_numberOfLeadingZeros_0f7a4, Cond.static yJ6_numberOfLeadingZeros_0f7a4, Cond.initialized RJ6, Cond.code yJ6_numberOfLeadingZeros_0f7a4 cJ6_numberOfLeadingZeros_0f7a4 2 (some .int), Cond.constant RJ6 264 (65536), Cond.methodLink RX0 65 yX0_headFrom, Cond.static yX0_headFrom, Cond.initialized RX0, Cond.code yX0_headFrom cX0_headFrom 2 (some .long), Cond.methodLink RX0 82 yX2_limbFrom, Cond.instanceMethod yX2_limbFrom, Cond.selects RX2 yX2_limbFrom yX2_limbFrom, Cond.code yX2_limbFrom cX2_limbFrom 4 (some .int), Cond.constant RX2 32 (1073741823)]
def wsX0_foreseeSteps : List Cond := .code yX0_foreseeSteps cX0_foreseeSteps 15 (some .boolean) :: ((wsX0_foreseeSteps_r1 ++ wsX0_foreseeSteps_r2) ++ wsX00 ++ wsX20)
def wsX2_padTo : List Cond := .code yX2_padTo cX2_padTo 3 none :: ([.fieldLink RX2 15 "WholeNumbers$Natural" "count" "I", .fieldLink RX2 9 "WholeNumbers$Natural" "limbs" "[I"] ++ wsX20)
def wsX2_trim : List Cond := .code yX2_trim cX2_trim 3 none :: ([.methodLink RX2 43 Lib.Math.min.name, .static Lib.Math.min.name, .initialized "java/lang/Math", .code Lib.Math.min.name Lib.Math.min.code 2 (some .int), .fieldLink RX2 9 "WholeNumbers$Natural" "limbs" "[I", .methodLink RX2 49 Lib.Math.max.name, .static Lib.Math.max.name, .code Lib.Math.max.name Lib.Math.max.code 2 (some .int), .fieldLink RX2 15 "WholeNumbers$Natural" "count" "I"] ++ wsX20)
def wsX0_takeForeseenSteps_r1 : List Cond := [Cond.fieldLink RX0 14 "WholeNumbers$Euclid" "greater" "LWholeNumbers$Natural;", Cond.fieldLink RX0 86 "WholeNumbers$Natural" "count" "I", Cond.fieldLink RX0 18 "WholeNumbers$Euclid" "lesser" "LWholeNumbers$Natural;", Cond.fieldLink RX0 94 "WholeNumbers$Natural" "limbs" "[I", Cond.fieldLink RX0 69 "WholeNumbers$Euclid" "a" "J", Cond.fieldLink RX0 73 "WholeNumbers$Euclid" "b" "J", Cond.fieldLink RX0 76 "WholeNumbers$Euclid" "c" "J", Cond.fieldLink RX0 79 "WholeNumbers$Euclid" "d" "J", Cond.constant RX0 98 (1073741823), Cond.methodLink RX0 90 yX2_padTo, Cond.instanceMethod yX2_padTo, Cond.selects RX2 yX2_padTo yX2_padTo, Cond.initialized RX2, Cond.code yX2_padTo cX2_padTo 3 none, Cond.fieldLink RX2 15 "WholeNumbers$Natural" "count" "I", Cond.fieldLink RX2 9 "WholeNumbers$Natural" "limbs" "[I", Cond.methodLink RX0 99 yX2_trim, Cond.instanceMethod yX2_trim, Cond.selects RX2 yX2_trim yX2_trim, Cond.code yX2_trim cX2_trim 3 none, Cond.methodLink RX2 43 Lib.Math.min.name, Cond.static Lib.Math.min.name, Cond.initialized "java/lang/Math", Cond.code Lib.Math.min.name Lib.Math.min.code 2 (some .int)]
def wsX0_takeForeseenSteps_r2 : List Cond := [Cond.methodLink RX2 49 Lib.Math.max.name, Cond.static Lib.Math.max.name, Cond.code Lib.Math.max.name Lib.Math.max.code 2 (some .int)]
def wsX0_takeForeseenSteps : List Cond := .code yX0_takeForeseenSteps cX0_takeForeseenSteps 11 none :: ((wsX0_takeForeseenSteps_r1 ++ wsX0_takeForeseenSteps_r2) ++ wsX00 ++ wsX20)
def wsX2_shiftUp : List Cond := .code yX2_shiftUp cX2_shiftUp 8 none :: ([.fieldLink RX2 15 "WholeNumbers$Natural" "count" "I", .methodLink RX2 43 Lib.Math.min.name, .static Lib.Math.min.name, .initialized "java/lang/Math", .code Lib.Math.min.name Lib.Math.min.code 2 (some .int), .fieldLink RX2 9 "WholeNumbers$Natural" "limbs" "[I", .constant RX2 32 (1073741823), .methodLink RX2 23 yX2_limb, .instanceMethod yX2_limb, .selects RX2 yX2_limb yX2_limb, .initialized RX2, .code yX2_limb cX2_limb 2 (some .int), .methodLink RX2 39 yX2_trim, .instanceMethod yX2_trim, .selects RX2 yX2_trim yX2_trim, .code yX2_trim cX2_trim 3 none, .methodLink RX2 49 Lib.Math.max.name, .static Lib.Math.max.name, .code Lib.Math.max.name Lib.Math.max.code 2 (some .int)] ++ wsX20)
def wsX1_guessDigit : List Cond := .code yX1_guessDigit cX1_guessDigit 16 (some .int) :: ([.fieldLink RX1 21 "WholeNumbers$LongDivision" "divisor" "LWholeNumbers$Natural;", .fieldLink RX1 36 "WholeNumbers$Natural" "count" "I", .fieldLink RX1 18 "WholeNumbers$LongDivision" "rest" "LWholeNumbers$Natural;", .fieldLink RX1 50 "WholeNumbers$Natural" "limbs" "[I", .constantLong RX1 77 (1073741823), .methodLink RX1 74 yX2_limb, .instanceMethod yX2_limb, .selects RX2 yX2_limb yX2_limb, .initialized RX2, .code yX2_limb cX2_limb 2 (some .int), .fieldLink RX2 15 "WholeNumbers$Natural" "count" "I", .fieldLink RX2 9 "WholeNumbers$Natural" "limbs" "[I"] ++ wsX10 ++ wsX20)
def wsX1_subtractAt : List Cond := .code yX1_subtractAt cX1_subtractAt 10 (some .boolean) :: ([.fieldLink RX1 21 "WholeNumbers$LongDivision" "divisor" "LWholeNumbers$Natural;", .fieldLink RX1 36 "WholeNumbers$Natural" "count" "I", .fieldLink RX1 18 "WholeNumbers$LongDivision" "rest" "LWholeNumbers$Natural;", .fieldLink RX1 50 "WholeNumbers$Natural" "limbs" "[I", .constant RX1 79 (1073741823)] ++ wsX10 ++ wsX20)
def wsX1_addBackAt : List Cond := .code yX1_addBackAt cX1_addBackAt 6 none :: ([.fieldLink RX1 21 "WholeNumbers$LongDivision" "divisor" "LWholeNumbers$Natural;", .fieldLink RX1 36 "WholeNumbers$Natural" "count" "I", .fieldLink RX1 18 "WholeNumbers$LongDivision" "rest" "LWholeNumbers$Natural;", .fieldLink RX1 50 "WholeNumbers$Natural" "limbs" "[I", .constant RX1 79 (1073741823)] ++ wsX10 ++ wsX20)
def wsX1_takeDigit_r1 : List Cond := [Cond.methodLink RX1 64 yX1_guessDigit, Cond.instanceMethod yX1_guessDigit, Cond.selects RX1 yX1_guessDigit yX1_guessDigit, Cond.initialized RX1, Cond.code yX1_guessDigit cX1_guessDigit 16 (some .int), Cond.fieldLink RX1 21 "WholeNumbers$LongDivision" "divisor" "LWholeNumbers$Natural;", Cond.fieldLink RX1 36 "WholeNumbers$Natural" "count" "I", Cond.fieldLink RX1 18 "WholeNumbers$LongDivision" "rest" "LWholeNumbers$Natural;", Cond.fieldLink RX1 50 "WholeNumbers$Natural" "limbs" "[I", Cond.constantLong RX1 77 (1073741823), Cond.methodLink RX1 74 yX2_limb, Cond.instanceMethod yX2_limb, Cond.selects RX2 yX2_limb yX2_limb, Cond.initialized RX2, Cond.code yX2_limb cX2_limb 2 (some .int), Cond.fieldLink RX2 15 "WholeNumbers$Natural" "count" "I", Cond.fieldLink RX2 9 "WholeNumbers$Natural" "limbs" "[I", Cond.methodLink RX1 67 yX1_subtractAt, Cond.instanceMethod yX1_subtractAt, Cond.selects RX1 yX1_subtractAt yX1_subtractAt, Cond.code yX1_subtractAt cX1_subtractAt 10 (some .boolean), Cond.constant RX1 79 (1073741823), Cond.methodLink RX1 71 yX1_addBackAt, Cond.instanceMethod yX1_addBackAt]
def wsX1_takeDigit_r2 : List Cond := [Cond.selects RX1 yX1_addBackAt yX1_addBackAt, Cond.code yX1_addBackAt cX1_addBackAt 6 none]
def wsX1_takeDigit : List Cond := .code yX1_takeDigit cX1_takeDigit 3 (some .int) :: ((wsX1_takeDigit_r1 ++ wsX1_takeDigit_r2) ++ wsX10 ++ wsX20)
def wsX2_shiftDown : List Cond := .code yX2_shiftDown cX2_shiftDown 5 none :: ([.fieldLink RX2 15 "WholeNumbers$Natural" "count" "I", .methodLink RX2 49 Lib.Math.max.name, .static Lib.Math.max.name, .initialized "java/lang/Math", .code Lib.Math.max.name Lib.Math.max.code 2 (some .int), .fieldLink RX2 9 "WholeNumbers$Natural" "limbs" "[I", .methodLink RX2 56 yX2_limbFrom, .instanceMethod yX2_limbFrom, .selects RX2 yX2_limbFrom yX2_limbFrom, .initialized RX2, .code yX2_limbFrom cX2_limbFrom 4 (some .int), .constant RX2 32 (1073741823), .methodLink RX2 23 yX2_limb, .instanceMethod yX2_limb, .selects RX2 yX2_limb yX2_limb, .code yX2_limb cX2_limb 2 (some .int), .methodLink RX2 39 yX2_trim, .instanceMethod yX2_trim, .selects RX2 yX2_trim yX2_trim, .code yX2_trim cX2_trim 3 none, .methodLink RX2 43 Lib.Math.min.name, .static Lib.Math.min.name, .code Lib.Math.min.name Lib.Math.min.code 2 (some .int)] ++ wsX20)
def wsX1_split_r1 : List Cond := [Cond.fieldLink RX1 21 "WholeNumbers$LongDivision" "divisor" "LWholeNumbers$Natural;", Cond.fieldLink RX1 18 "WholeNumbers$LongDivision" "rest" "LWholeNumbers$Natural;", Cond.fieldLink RX1 36 "WholeNumbers$Natural" "count" "I", Cond.methodLink RX1 44 Lib.Math.max.name, Cond.static Lib.Math.max.name, Cond.initialized "java/lang/Math", Cond.code Lib.Math.max.name Lib.Math.max.code 2 (some .int), Cond.fieldLink RX1 12 "WholeNumbers$LongDivision" "quotient" "LWholeNumbers$Natural;", Cond.fieldLink RX1 50 "WholeNumbers$Natural" "limbs" "[I", Cond.methodLink RX1 24 yX2_isZero, Cond.instanceMethod yX2_isZero, Cond.selects RX2 yX2_isZero yX2_isZero, Cond.initialized RX2, Cond.code yX2_isZero cX2_isZero 1 (some .boolean), Cond.fieldLink RX2 15 "WholeNumbers$Natural" "count" "I", Cond.methodLink RX1 28 yX2_spareBits, Cond.instanceMethod yX2_spareBits, Cond.selects RX2 yX2_spareBits yX2_spareBits, Cond.code yX2_spareBits cX2_spareBits 1 (some .int), Cond.methodLink RX2 23 yX2_limb, Cond.instanceMethod yX2_limb, Cond.selects RX2 yX2_limb yX2_limb, Cond.code yX2_limb cX2_limb 2 (some .int), Cond.fieldLink RX2 9 "WholeNumbers$Natural" "limbs" "[I"]
def wsX1_split_r2 : List Cond := [Cond.methodLink RX2 27 yJ6_numberOfLeadingZeros_0f7a4, Cond.static yJ6_numberOfLeadingZeros_0f7a4, Cond.initialized RJ6, Cond.code yJ6_numberOfLeadingZeros_0f7a4 cJ6_numberOfLeadingZeros_0f7a4 2 (some .int), Cond.constant RJ6 264 (65536), Cond.methodLink RX1 32 yX2_shiftUp, Cond.instanceMethod yX2_shiftUp, Cond.selects RX2 yX2_shiftUp yX2_shiftUp, Cond.code yX2_shiftUp cX2_shiftUp 8 none, Cond.methodLink RX2 43 Lib.Math.min.name, Cond.static Lib.Math.min.name, Cond.code Lib.Math.min.name Lib.Math.min.code 2 (some .int), Cond.constant RX2 32 (1073741823), Cond.methodLink RX2 39 yX2_trim, Cond.instanceMethod yX2_trim, Cond.selects RX2 yX2_trim yX2_trim, Cond.code yX2_trim cX2_trim 3 none, Cond.methodLink RX2 49 Lib.Math.max.name, Cond.methodLink RX1 40 yX2_padTo, Cond.instanceMethod yX2_padTo, Cond.selects RX2 yX2_padTo yX2_padTo, Cond.code yX2_padTo cX2_padTo 3 none, Cond.methodLink RX1 54 yX1_takeDigit, Cond.instanceMethod yX1_takeDigit]
def wsX1_split_r3 : List Cond := [Cond.selects RX1 yX1_takeDigit yX1_takeDigit, Cond.initialized RX1, Cond.code yX1_takeDigit cX1_takeDigit 3 (some .int), Cond.methodLink RX1 64 yX1_guessDigit, Cond.instanceMethod yX1_guessDigit, Cond.selects RX1 yX1_guessDigit yX1_guessDigit, Cond.code yX1_guessDigit cX1_guessDigit 16 (some .int), Cond.constantLong RX1 77 (1073741823), Cond.methodLink RX1 74 yX2_limb, Cond.methodLink RX1 67 yX1_subtractAt, Cond.instanceMethod yX1_subtractAt, Cond.selects RX1 yX1_subtractAt yX1_subtractAt, Cond.code yX1_subtractAt cX1_subtractAt 10 (some .boolean), Cond.constant RX1 79 (1073741823), Cond.methodLink RX1 71 yX1_addBackAt, Cond.instanceMethod yX1_addBackAt, Cond.selects RX1 yX1_addBackAt yX1_addBackAt, Cond.code yX1_addBackAt cX1_addBackAt 6 none, Cond.methodLink RX1 58 yX2_trim, Cond.methodLink RX1 61 yX2_shiftDown, Cond.instanceMethod yX2_shiftDown, Cond.selects RX2 yX2_shiftDown yX2_shiftDown, Cond.code yX2_shiftDown cX2_shiftDown 5 none, Cond.methodLink RX2 56 yX2_limbFrom]
def wsX1_split_r4 : List Cond := [Cond.instanceMethod yX2_limbFrom, Cond.selects RX2 yX2_limbFrom yX2_limbFrom, Cond.code yX2_limbFrom cX2_limbFrom 4 (some .int)]
def wsX1_split : List Cond := .code yX1_split cX1_split 7 none :: ((wsX1_split_r1 ++ (wsX1_split_r2 ++ (wsX1_split_r3 ++ wsX1_split_r4))) ++ wsX10 ++ wsX20)
def wsX0_takeStep_r1 : List Cond := [Cond.fieldLink RX0 21 "WholeNumbers$Euclid" "division" "LWholeNumbers$LongDivision;", Cond.fieldLink RX0 14 "WholeNumbers$Euclid" "greater" "LWholeNumbers$Natural;", Cond.fieldLink RX0 18 "WholeNumbers$Euclid" "lesser" "LWholeNumbers$Natural;", Cond.fieldLink RX0 52 "WholeNumbers$LongDivision" "rest" "LWholeNumbers$Natural;", Cond.methodLink RX0 46 yX1_split, Cond.instanceMethod yX1_split, Cond.selects RX1 yX1_split yX1_split, Cond.initialized RX1, Cond.code yX1_split cX1_split 7 none, Cond.fieldLink RX1 21 "WholeNumbers$LongDivision" "divisor" "LWholeNumbers$Natural;", Cond.fieldLink RX1 18 "WholeNumbers$LongDivision" "rest" "LWholeNumbers$Natural;", Cond.fieldLink RX1 36 "WholeNumbers$Natural" "count" "I", Cond.methodLink RX1 44 Lib.Math.max.name, Cond.static Lib.Math.max.name, Cond.initialized "java/lang/Math", Cond.code Lib.Math.max.name Lib.Math.max.code 2 (some .int), Cond.fieldLink RX1 12 "WholeNumbers$LongDivision" "quotient" "LWholeNumbers$Natural;", Cond.fieldLink RX1 50 "WholeNumbers$Natural" "limbs" "[I", Cond.methodLink RX1 24 yX2_isZero, Cond.instanceMethod yX2_isZero, Cond.selects RX2 yX2_isZero yX2_isZero, Cond.initialized RX2, Cond.code yX2_isZero cX2_isZero 1 (some .boolean), Cond.fieldLink RX2 15 "WholeNumbers$Natural" "count" "I"]
def wsX0_takeStep_r2 : List Cond := [Cond.methodLink RX1 28 yX2_spareBits, Cond.instanceMethod yX2_spareBits, Cond.selects RX2 yX2_spareBits yX2_spareBits, Cond.code yX2_spareBits cX2_spareBits 1 (some .int), Cond.methodLink RX2 23 yX2_limb, Cond.instanceMethod yX2_limb, Cond.selects RX2 yX2_limb yX2_limb, Cond.code yX2_limb cX2_limb 2 (some .int), Cond.fieldLink RX2 9 "WholeNumbers$Natural" "limbs" "[I", Cond.methodLink RX2 27 yJ6_numberOfLeadingZeros_0f7a4, Cond.static yJ6_numberOfLeadingZeros_0f7a4, Cond.initialized RJ6, Cond.code yJ6_numberOfLeadingZeros_0f7a4 cJ6_numberOfLeadingZeros_0f7a4 2 (some .int), Cond.constant RJ6 264 (65536), Cond.methodLink RX1 32 yX2_shiftUp, Cond.instanceMethod yX2_shiftUp, Cond.selects RX2 yX2_shiftUp yX2_shiftUp, Cond.code yX2_shiftUp cX2_shiftUp 8 none, Cond.methodLink RX2 43 Lib.Math.min.name, Cond.static Lib.Math.min.name, Cond.code Lib.Math.min.name Lib.Math.min.code 2 (some .int), Cond.constant RX2 32 (1073741823), Cond.methodLink RX2 39 yX2_trim, Cond.instanceMethod yX2_trim]
def wsX0_takeStep_r3 : List Cond := [Cond.selects RX2 yX2_trim yX2_trim, Cond.code yX2_trim cX2_trim 3 none, Cond.methodLink RX2 49 Lib.Math.max.name, Cond.methodLink RX1 40 yX2_padTo, Cond.instanceMethod yX2_padTo, Cond.selects RX2 yX2_padTo yX2_padTo, Cond.code yX2_padTo cX2_padTo 3 none, Cond.methodLink RX1 54 yX1_takeDigit, Cond.instanceMethod yX1_takeDigit, Cond.selects RX1 yX1_takeDigit yX1_takeDigit, Cond.code yX1_takeDigit cX1_takeDigit 3 (some .int), Cond.methodLink RX1 64 yX1_guessDigit, Cond.instanceMethod yX1_guessDigit, Cond.selects RX1 yX1_guessDigit yX1_guessDigit, Cond.code yX1_guessDigit cX1_guessDigit 16 (some .int), Cond.constantLong RX1 77 (1073741823), Cond.methodLink RX1 74 yX2_limb, Cond.methodLink RX1 67 yX1_subtractAt, Cond.instanceMethod yX1_subtractAt, Cond.selects RX1 yX1_subtractAt yX1_subtractAt, Cond.code yX1_subtractAt cX1_subtractAt 10 (some .boolean), Cond.constant RX1 79 (1073741823), Cond.methodLink RX1 71 yX1_addBackAt, Cond.instanceMethod yX1_addBackAt]
def wsX0_takeStep_r4 : List Cond := [Cond.selects RX1 yX1_addBackAt yX1_addBackAt, Cond.code yX1_addBackAt cX1_addBackAt 6 none, Cond.methodLink RX1 58 yX2_trim, Cond.methodLink RX1 61 yX2_shiftDown, Cond.instanceMethod yX2_shiftDown, Cond.selects RX2 yX2_shiftDown yX2_shiftDown, Cond.code yX2_shiftDown cX2_shiftDown 5 none, Cond.methodLink RX2 56 yX2_limbFrom, Cond.instanceMethod yX2_limbFrom, Cond.selects RX2 yX2_limbFrom yX2_limbFrom, Cond.code yX2_limbFrom cX2_limbFrom 4 (some .int), Cond.methodLink RX0 29 yX2_take, Cond.instanceMethod yX2_take, Cond.selects RX2 yX2_take yX2_take, Cond.code yX2_take cX2_take 2 none, Cond.methodLink RX2 33 arraycopyName, Cond.native arraycopyName, Cond.static arraycopyName, Cond.initialized "java/lang/System"]
def wsX0_takeStep : List Cond := .code yX0_takeStep cX0_takeStep 2 none :: ((wsX0_takeStep_r1 ++ (wsX0_takeStep_r2 ++ (wsX0_takeStep_r3 ++ wsX0_takeStep_r4))) ++ wsX00 ++ wsX10 ++ wsX20)
def wsX0_commonDivisor_r1 : List Cond := [Cond.fieldLink RX0 14 "WholeNumbers$Euclid" "greater" "LWholeNumbers$Natural;", Cond.fieldLink RX0 18 "WholeNumbers$Euclid" "lesser" "LWholeNumbers$Natural;", Cond.methodLink RX0 25 yX2_order, Cond.instanceMethod yX2_order, Cond.selects RX2 yX2_order yX2_order, Cond.initialized RX2, Cond.code yX2_order cX2_order 3 (some .int), Cond.fieldLink RX2 15 "WholeNumbers$Natural" "count" "I", Cond.fieldLink RX2 9 "WholeNumbers$Natural" "limbs" "[I", Cond.methodLink RX0 29 yX2_take, Cond.instanceMethod yX2_take, Cond.selects RX2 yX2_take yX2_take, Cond.code yX2_take cX2_take 2 none, Cond.methodLink RX2 33 arraycopyName, Cond.native arraycopyName, Cond.static arraycopyName, Cond.initialized "java/lang/System", Cond.methodLink RX0 33 yX2_isZero, Cond.instanceMethod yX2_isZero, Cond.selects RX2 yX2_isZero yX2_isZero, Cond.code yX2_isZero cX2_isZero 1 (some .boolean), Cond.methodLink RX0 37 yX0_foreseeSteps, Cond.instanceMethod yX0_foreseeSteps, Cond.selects RX0 yX0_foreseeSteps yX0_foreseeSteps]
def wsX0_commonDivisor_r2 : List Cond := [Cond.initialized RX0, Cond.code yX0_foreseeSteps cX0_foreseeSteps 15 (some .boolean), Cond.methodLink RX0 59 Lib.Math.max.name, Cond.static Lib.Math.max.name, Cond.initialized "java/lang/Math", Cond.code Lib.Math.max.name Lib.Math.max.code 2 (some .int), Cond.fieldLink RX0 69 "WholeNumbers$Euclid" "a" "J", Cond.fieldLink RX0 73 "WholeNumbers$Euclid" "b" "J", Cond.fieldLink RX0 76 "WholeNumbers$Euclid" "c" "J", Cond.fieldLink RX0 79 "WholeNumbers$Euclid" "d" "J", Cond.methodLink RX0 55 yX2_bitLength, Cond.instanceMethod yX2_bitLength, Cond.selects RX2 yX2_bitLength yX2_bitLength, Cond.code yX2_bitLength cX2_bitLength 1 (some .int), Cond.methodLink RX2 19 yX2_spareBits, Cond.instanceMethod yX2_spareBits, Cond.selects RX2 yX2_spareBits yX2_spareBits, Cond.code yX2_spareBits cX2_spareBits 1 (some .int), Cond.methodLink RX2 23 yX2_limb, Cond.instanceMethod yX2_limb, Cond.selects RX2 yX2_limb yX2_limb, Cond.code yX2_limb cX2_limb 2 (some .int), Cond.methodLink RX2 27 yJ6_numberOfLeadingZeros_0f7a4, Cond.static yJ6_numberOfLeadingZeros_0f7a4]
def wsX0_commonDivisor_r3 : List Cond := [Cond.initialized RJ6, Cond.code yJ6_numberOfLeadingZeros_0f7a4 cJ6_numberOfLeadingZeros_0f7a4 2 (some .int), Cond.constant RJ6 264 (65536), Cond.methodLink RX0 65 yX0_headFrom, Cond.static yX0_headFrom, Cond.code yX0_headFrom cX0_headFrom 2 (some .long), Cond.methodLink RX0 82 yX2_limbFrom, Cond.instanceMethod yX2_limbFrom, Cond.selects RX2 yX2_limbFrom yX2_limbFrom, Cond.code yX2_limbFrom cX2_limbFrom 4 (some .int), Cond.constant RX2 32 (1073741823), Cond.methodLink RX0 40 yX0_takeForeseenSteps, Cond.instanceMethod yX0_takeForeseenSteps, Cond.selects RX0 yX0_takeForeseenSteps yX0_takeForeseenSteps, Cond.code yX0_takeForeseenSteps cX0_takeForeseenSteps 11 none, Cond.fieldLink RX0 86 "WholeNumbers$Natural" "count" "I", Cond.fieldLink RX0 94 "WholeNumbers$Natural" "limbs" "[I", Cond.constant RX0 98 (1073741823), Cond.methodLink RX0 90 yX2_padTo, Cond.instanceMethod yX2_padTo, Cond.selects RX2 yX2_padTo yX2_padTo, Cond.code yX2_padTo cX2_padTo 3 none, Cond.methodLink RX0 99 yX2_trim, Cond.instanceMethod yX2_trim]
def wsX0_commonDivisor_r4 : List Cond := [Cond.selects RX2 yX2_trim yX2_trim, Cond.code yX2_trim cX2_trim 3 none, Cond.methodLink RX2 43 Lib.Math.min.name, Cond.static Lib.Math.min.name, Cond.code Lib.Math.min.name Lib.Math.min.code 2 (some .int), Cond.methodLink RX2 49 Lib.Math.max.name, Cond.methodLink RX0 43 yX0_takeStep, Cond.instanceMethod yX0_takeStep, Cond.selects RX0 yX0_takeStep yX0_takeStep, Cond.code yX0_takeStep cX0_takeStep 2 none, Cond.fieldLink RX0 21 "WholeNumbers$Euclid" "division" "LWholeNumbers$LongDivision;", Cond.fieldLink RX0 52 "WholeNumbers$LongDivision" "rest" "LWholeNumbers$Natural;", Cond.methodLink RX0 46 yX1_split, Cond.instanceMethod yX1_split, Cond.selects RX1 yX1_split yX1_split, Cond.initialized RX1, Cond.code yX1_split cX1_split 7 none, Cond.fieldLink RX1 21 "WholeNumbers$LongDivision" "divisor" "LWholeNumbers$Natural;", Cond.fieldLink RX1 18 "WholeNumbers$LongDivision" "rest" "LWholeNumbers$Natural;", Cond.fieldLink RX1 36 "WholeNumbers$Natural" "count" "I", Cond.methodLink RX1 44 Lib.Math.max.name, Cond.fieldLink RX1 12 "WholeNumbers$LongDivision" "quotient" "LWholeNumbers$Natural;", Cond.fieldLink RX1 50 "WholeNumbers$Natural" "limbs" "[I", Cond.methodLink RX1 24 yX2_isZero]
def wsX0_commonDivisor_r5 : List Cond := [Cond.methodLink RX1 28 yX2_spareBits, Cond.methodLink RX1 32 yX2_shiftUp, Cond.instanceMethod yX2_shiftUp, Cond.selects RX2 yX2_shiftUp yX2_shiftUp, Cond.code yX2_shiftUp cX2_shiftUp 8 none, Cond.methodLink RX2 39 yX2_trim, Cond.methodLink RX1 40 yX2_padTo, Cond.methodLink RX1 54 yX1_takeDigit, Cond.instanceMethod yX1_takeDigit, Cond.selects RX1 yX1_takeDigit yX1_takeDigit, Cond.code yX1_takeDigit cX1_takeDigit 3 (some .int), Cond.methodLink RX1 64 yX1_guessDigit, Cond.instanceMethod yX1_guessDigit, Cond.selects RX1 yX1_guessDigit yX1_guessDigit, Cond.code yX1_guessDigit cX1_guessDigit 16 (some .int), Cond.constantLong RX1 77 (1073741823), Cond.methodLink RX1 74 yX2_limb, Cond.methodLink RX1 67 yX1_subtractAt, Cond.instanceMethod yX1_subtractAt, Cond.selects RX1 yX1_subtractAt yX1_subtractAt, Cond.code yX1_subtractAt cX1_subtractAt 10 (some .boolean), Cond.constant RX1 79 (1073741823), Cond.methodLink RX1 71 yX1_addBackAt, Cond.instanceMethod yX1_addBackAt]
def wsX0_commonDivisor_r6 : List Cond := [Cond.selects RX1 yX1_addBackAt yX1_addBackAt, Cond.code yX1_addBackAt cX1_addBackAt 6 none, Cond.methodLink RX1 58 yX2_trim, Cond.methodLink RX1 61 yX2_shiftDown, Cond.instanceMethod yX2_shiftDown, Cond.selects RX2 yX2_shiftDown yX2_shiftDown, Cond.code yX2_shiftDown cX2_shiftDown 5 none, Cond.methodLink RX2 56 yX2_limbFrom]
def wsX0_commonDivisor : List Cond := .code yX0_commonDivisor cX0_commonDivisor 5 (some (.object "WholeNumbers$Natural")) :: ((wsX0_commonDivisor_r1 ++ (wsX0_commonDivisor_r2 ++ (wsX0_commonDivisor_r3 ++ (wsX0_commonDivisor_r4 ++ (wsX0_commonDivisor_r5 ++ wsX0_commonDivisor_r6))))) ++ wsX00 ++ wsX20 ++ wsX10)
def wsX1_init : List Cond := .code yX1_init cX1_init 1 none :: ([.methodLink RX1 3 objectInit, .instanceMethod objectInit, .code objectInit ⟨#[0xb1]⟩ 1 none, .classLink RX1 9 RX2, .instantiable RX2 2, .initialized RX2, .fieldLink RX1 12 "WholeNumbers$LongDivision" "quotient" "LWholeNumbers$Natural;", .fieldLink RX1 18 "WholeNumbers$LongDivision" "rest" "LWholeNumbers$Natural;", .fieldLink RX1 21 "WholeNumbers$LongDivision" "divisor" "LWholeNumbers$Natural;", .instanceMethod yX2_init, .code yX2_init cX2_init 1 none, .methodLink RX2 3 objectInit, .arrayClass .int, .fieldLink RX2 9 "WholeNumbers$Natural" "limbs" "[I"] ++ wsX20 ++ wsX10)
def wsX2_anyBitBelow : List Cond := .code yX2_anyBitBelow cX2_anyBitBelow 4 (some .boolean) :: ([.fieldLink RX2 15 "WholeNumbers$Natural" "count" "I", .fieldLink RX2 9 "WholeNumbers$Natural" "limbs" "[I", .methodLink RX2 23 yX2_limb, .instanceMethod yX2_limb, .selects RX2 yX2_limb yX2_limb, .initialized RX2, .code yX2_limb cX2_limb 2 (some .int)] ++ wsX20)
def wsX2_lowestLong : List Cond := .code yX2_lowestLong cX2_lowestLong 1 (some .long) :: ([.methodLink RX2 23 yX2_limb, .instanceMethod yX2_limb, .selects RX2 yX2_limb yX2_limb, .initialized RX2, .code yX2_limb cX2_limb 2 (some .int), .fieldLink RX2 15 "WholeNumbers$Natural" "count" "I", .fieldLink RX2 9 "WholeNumbers$Natural" "limbs" "[I"] ++ wsX20)
def wsX2_takeUnsigned : List Cond := .code yX2_takeUnsigned cX2_takeUnsigned 3 none :: ([.fieldLink RX2 9 "WholeNumbers$Natural" "limbs" "[I", .constant RX2 32 (1073741823), .methodLink RX2 39 yX2_trim, .instanceMethod yX2_trim, .selects RX2 yX2_trim yX2_trim, .initialized RX2, .code yX2_trim cX2_trim 3 none, .methodLink RX2 43 Lib.Math.min.name, .static Lib.Math.min.name, .initialized "java/lang/Math", .code Lib.Math.min.name Lib.Math.min.code 2 (some .int), .methodLink RX2 49 Lib.Math.max.name, .static Lib.Math.max.name, .code Lib.Math.max.name Lib.Math.max.code 2 (some .int), .fieldLink RX2 15 "WholeNumbers$Natural" "count" "I"] ++ wsX20)
def wsX2_takeSum : List Cond := .code yX2_takeSum cX2_takeSum 7 none :: ([.fieldLink RX2 15 "WholeNumbers$Natural" "count" "I", .methodLink RX2 49 Lib.Math.max.name, .static Lib.Math.max.name, .initialized "java/lang/Math", .code Lib.Math.max.name Lib.Math.max.code 2 (some .int), .methodLink RX2 43 Lib.Math.min.name, .static Lib.Math.min.name, .code Lib.Math.min.name Lib.Math.min.code 2 (some .int), .fieldLink RX2 9 "WholeNumbers$Natural" "limbs" "[I", .constant RX2 32 (1073741823), .methodLink RX2 23 yX2_limb, .instanceMethod yX2_limb, .selects RX2 yX2_limb yX2_limb, .initialized RX2, .code yX2_limb cX2_limb 2 (some .int), .methodLink RX2 39 yX2_trim, .instanceMethod yX2_trim, .selects RX2 yX2_trim yX2_trim, .code yX2_trim cX2_trim 3 none] ++ wsX20)
def wsX2_takeDifference : List Cond := .code yX2_takeDifference cX2_takeDifference 7 none :: ([.fieldLink RX2 15 "WholeNumbers$Natural" "count" "I", .fieldLink RX2 9 "WholeNumbers$Natural" "limbs" "[I", .constant RX2 32 (1073741823), .methodLink RX2 23 yX2_limb, .instanceMethod yX2_limb, .selects RX2 yX2_limb yX2_limb, .initialized RX2, .code yX2_limb cX2_limb 2 (some .int), .methodLink RX2 39 yX2_trim, .instanceMethod yX2_trim, .selects RX2 yX2_trim yX2_trim, .code yX2_trim cX2_trim 3 none, .methodLink RX2 43 Lib.Math.min.name, .static Lib.Math.min.name, .initialized "java/lang/Math", .code Lib.Math.min.name Lib.Math.min.code 2 (some .int), .methodLink RX2 49 Lib.Math.max.name, .static Lib.Math.max.name, .code Lib.Math.max.name Lib.Math.max.code 2 (some .int)] ++ wsX20)
def wsX2_addRow : List Cond := .code yX2_addRow cX2_addRow 10 (some .int) :: ([.fieldLink RX2 15 "WholeNumbers$Natural" "count" "I", .fieldLink RX2 9 "WholeNumbers$Natural" "limbs" "[I", .constant RX2 32 (1073741823)] ++ wsX20)
def wsX2_takeProduct : List Cond := .code yX2_takeProduct cX2_takeProduct 5 none :: ([.fieldLink RX2 15 "WholeNumbers$Natural" "count" "I", .methodLink RX2 43 Lib.Math.min.name, .static Lib.Math.min.name, .initialized "java/lang/Math", .code Lib.Math.min.name Lib.Math.min.code 2 (some .int), .fieldLink RX2 9 "WholeNumbers$Natural" "limbs" "[I", .methodLink RX2 52 yX2_addRow, .instanceMethod yX2_addRow, .selects RX2 yX2_addRow yX2_addRow, .initialized RX2, .code yX2_addRow cX2_addRow 10 (some .int), .constant RX2 32 (1073741823), .methodLink RX2 39 yX2_trim, .instanceMethod yX2_trim, .selects RX2 yX2_trim yX2_trim, .code yX2_trim cX2_trim 3 none, .methodLink RX2 49 Lib.Math.max.name, .static Lib.Math.max.name, .code Lib.Math.max.name Lib.Math.max.code 2 (some .int)] ++ wsX20)
def wsX2_timesPlus : List Cond := .code yX2_timesPlus cX2_timesPlus 8 none :: ([.fieldLink RX2 15 "WholeNumbers$Natural" "count" "I", .fieldLink RX2 9 "WholeNumbers$Natural" "limbs" "[I", .constant RX2 32 (1073741823), .methodLink RX2 39 yX2_trim, .instanceMethod yX2_trim, .selects RX2 yX2_trim yX2_trim, .initialized RX2, .code yX2_trim cX2_trim 3 none, .methodLink RX2 43 Lib.Math.min.name, .static Lib.Math.min.name, .initialized "java/lang/Math", .code Lib.Math.min.name Lib.Math.min.code 2 (some .int), .methodLink RX2 49 Lib.Math.max.name, .static Lib.Math.max.name, .code Lib.Math.max.name Lib.Math.max.code 2 (some .int)] ++ wsX20)
def wsX2_cutBy : List Cond := .code yX2_cutBy cX2_cutBy 7 (some .int) :: ([.fieldLink RX2 15 "WholeNumbers$Natural" "count" "I", .fieldLink RX2 9 "WholeNumbers$Natural" "limbs" "[I", .methodLink RX2 39 yX2_trim, .instanceMethod yX2_trim, .selects RX2 yX2_trim yX2_trim, .initialized RX2, .code yX2_trim cX2_trim 3 none, .methodLink RX2 43 Lib.Math.min.name, .static Lib.Math.min.name, .initialized "java/lang/Math", .code Lib.Math.min.name Lib.Math.min.code 2 (some .int), .methodLink RX2 49 Lib.Math.max.name, .static Lib.Math.max.name, .code Lib.Math.max.name Lib.Math.max.code 2 (some .int)] ++ wsX20)
def wsX3_init : List Cond := .code yX3_init cX3_init 1 none :: ([.methodLink RX3 3 objectInit, .instanceMethod objectInit, .code objectInit ⟨#[0xb1]⟩ 1 none, .arrayClass .char, .fieldLink RX3 9 "WholeNumbers$Text" "letters" "[C"] ++ wsX30)
def wsX3_append : List Cond := .code yX3_append cX3_append 2 none :: ([.fieldLink RX3 15 "WholeNumbers$Text" "length" "I", .fieldLink RX3 9 "WholeNumbers$Text" "letters" "[C"] ++ wsX30)
def wsX3_digitsInLimb : List Cond := .code yX3_digitsInLimb cX3_digitsInLimb 5 (some .int) :: ([.constantLong RX3 96 (1073741823)])
def wsX3_powerOf : List Cond := .code yX3_powerOf cX3_powerOf 4 (some .int) :: ([])
def wsX3_letterOf : List Cond := .code yX3_letterOf cX3_letterOf 1 (some .char) :: ([])
def wsX3_appendDigitsBackwards_r1 : List Cond := [Cond.methodLink RX3 40 yX2_isZero, Cond.instanceMethod yX2_isZero, Cond.selects RX2 yX2_isZero yX2_isZero, Cond.initialized RX2, Cond.code yX2_isZero cX2_isZero 1 (some .boolean), Cond.fieldLink RX2 15 "WholeNumbers$Natural" "count" "I", Cond.methodLink RX3 33 yX3_append, Cond.instanceMethod yX3_append, Cond.selects RX3 yX3_append yX3_append, Cond.initialized RX3, Cond.code yX3_append cX3_append 2 none, Cond.fieldLink RX3 15 "WholeNumbers$Text" "length" "I", Cond.fieldLink RX3 9 "WholeNumbers$Text" "letters" "[C", Cond.methodLink RX3 46 yX3_digitsInLimb, Cond.static yX3_digitsInLimb, Cond.code yX3_digitsInLimb cX3_digitsInLimb 5 (some .int), Cond.constantLong RX3 96 (1073741823), Cond.methodLink RX3 50 yX3_powerOf, Cond.static yX3_powerOf, Cond.code yX3_powerOf cX3_powerOf 4 (some .int), Cond.methodLink RX3 54 yX2_cutBy, Cond.instanceMethod yX2_cutBy, Cond.selects RX2 yX2_cutBy yX2_cutBy, Cond.code yX2_cutBy cX2_cutBy 7 (some .int)]
def wsX3_appendDigitsBackwards_r2 : List Cond := [Cond.fieldLink RX2 9 "WholeNumbers$Natural" "limbs" "[I", Cond.methodLink RX2 39 yX2_trim, Cond.instanceMethod yX2_trim, Cond.selects RX2 yX2_trim yX2_trim, Cond.code yX2_trim cX2_trim 3 none, Cond.methodLink RX2 43 Lib.Math.min.name, Cond.static Lib.Math.min.name, Cond.initialized "java/lang/Math", Cond.code Lib.Math.min.name Lib.Math.min.code 2 (some .int), Cond.methodLink RX2 49 Lib.Math.max.name, Cond.static Lib.Math.max.name, Cond.code Lib.Math.max.name Lib.Math.max.code 2 (some .int), Cond.methodLink RX3 57 yX3_letterOf, Cond.static yX3_letterOf, Cond.code yX3_letterOf cX3_letterOf 1 (some .char)]
def wsX3_appendDigitsBackwards : List Cond := .code yX3_appendDigitsBackwards cX3_appendDigitsBackwards 8 none :: ((wsX3_appendDigitsBackwards_r1 ++ wsX3_appendDigitsBackwards_r2) ++ wsX20 ++ wsX30)
def wsX3_reverse : List Cond := .code yX3_reverse cX3_reverse 4 none :: ([.fieldLink RX3 15 "WholeNumbers$Text" "length" "I", .fieldLink RX3 9 "WholeNumbers$Text" "letters" "[C"] ++ wsX30)
def wsX3_spell_r1 : List Cond := [Cond.fieldLink RX3 15 "WholeNumbers$Text" "length" "I", Cond.fieldLink RX3 19 "WholeNumbers$Whole" "size" "LWholeNumbers$Natural;", Cond.fieldLink RX3 29 "WholeNumbers$Whole" "negative" "Z", Cond.methodLink RX3 25 yX3_appendDigitsBackwards, Cond.instanceMethod yX3_appendDigitsBackwards, Cond.selects RX3 yX3_appendDigitsBackwards yX3_appendDigitsBackwards, Cond.initialized RX3, Cond.code yX3_appendDigitsBackwards cX3_appendDigitsBackwards 8 none, Cond.methodLink RX3 40 yX2_isZero, Cond.instanceMethod yX2_isZero, Cond.selects RX2 yX2_isZero yX2_isZero, Cond.initialized RX2, Cond.code yX2_isZero cX2_isZero 1 (some .boolean), Cond.fieldLink RX2 15 "WholeNumbers$Natural" "count" "I", Cond.methodLink RX3 33 yX3_append, Cond.instanceMethod yX3_append, Cond.selects RX3 yX3_append yX3_append, Cond.code yX3_append cX3_append 2 none, Cond.fieldLink RX3 9 "WholeNumbers$Text" "letters" "[C", Cond.methodLink RX3 46 yX3_digitsInLimb, Cond.static yX3_digitsInLimb, Cond.code yX3_digitsInLimb cX3_digitsInLimb 5 (some .int), Cond.constantLong RX3 96 (1073741823), Cond.methodLink RX3 50 yX3_powerOf]
def wsX3_spell_r2 : List Cond := [Cond.static yX3_powerOf, Cond.code yX3_powerOf cX3_powerOf 4 (some .int), Cond.methodLink RX3 54 yX2_cutBy, Cond.instanceMethod yX2_cutBy, Cond.selects RX2 yX2_cutBy yX2_cutBy, Cond.code yX2_cutBy cX2_cutBy 7 (some .int), Cond.fieldLink RX2 9 "WholeNumbers$Natural" "limbs" "[I", Cond.methodLink RX2 39 yX2_trim, Cond.instanceMethod yX2_trim, Cond.selects RX2 yX2_trim yX2_trim, Cond.code yX2_trim cX2_trim 3 none, Cond.methodLink RX2 43 Lib.Math.min.name, Cond.static Lib.Math.min.name, Cond.initialized "java/lang/Math", Cond.code Lib.Math.min.name Lib.Math.min.code 2 (some .int), Cond.methodLink RX2 49 Lib.Math.max.name, Cond.static Lib.Math.max.name, Cond.code Lib.Math.max.name Lib.Math.max.code 2 (some .int), Cond.methodLink RX3 57 yX3_letterOf, Cond.static yX3_letterOf, Cond.code yX3_letterOf cX3_letterOf 1 (some .char), Cond.methodLink RX3 37 yX3_reverse, Cond.instanceMethod yX3_reverse, Cond.selects RX3 yX3_reverse yX3_reverse]
def wsX3_spell_r3 : List Cond := [Cond.code yX3_reverse cX3_reverse 4 none]
def wsX3_spell : List Cond := .code yX3_spell cX3_spell 3 none :: ((wsX3_spell_r1 ++ (wsX3_spell_r2 ++ wsX3_spell_r3)) ++ wsX30 ++ wsX40 ++ wsX20)
def wsX3_firstDigit : List Cond := .code yX3_firstDigit cX3_firstDigit 1 (some .int) :: ([.fieldLink RX3 15 "WholeNumbers$Text" "length" "I", .fieldLink RX3 9 "WholeNumbers$Text" "letters" "[C"] ++ wsX30)
def wsX3_digitOf : List Cond := .code yX3_digitOf cX3_digitOf 1 (some .int) :: ([])
def wsX3_tellsNumber : List Cond := .code yX3_tellsNumber cX3_tellsNumber 5 (some .boolean) :: ([.fieldLink RX3 15 "WholeNumbers$Text" "length" "I", .fieldLink RX3 9 "WholeNumbers$Text" "letters" "[C", .methodLink RX3 61 yX3_firstDigit, .instanceMethod yX3_firstDigit, .selects RX3 yX3_firstDigit yX3_firstDigit, .initialized RX3, .code yX3_firstDigit cX3_firstDigit 1 (some .int), .methodLink RX3 65 yX3_digitOf, .static yX3_digitOf, .code yX3_digitOf cX3_digitOf 1 (some .int)] ++ wsX30)
def wsX4_takeLong : List Cond := .code yX4_takeLong cX4_takeLong 3 none :: ([.fieldLink RX4 12 "WholeNumbers$Whole" "size" "LWholeNumbers$Natural;", .fieldLink RX4 22 "WholeNumbers$Whole" "negative" "Z", .methodLink RX4 26 yX2_takeUnsigned, .instanceMethod yX2_takeUnsigned, .selects RX2 yX2_takeUnsigned yX2_takeUnsigned, .initialized RX2, .code yX2_takeUnsigned cX2_takeUnsigned 3 none, .fieldLink RX2 9 "WholeNumbers$Natural" "limbs" "[I", .constant RX2 32 (1073741823), .methodLink RX2 39 yX2_trim, .instanceMethod yX2_trim, .selects RX2 yX2_trim yX2_trim, .code yX2_trim cX2_trim 3 none, .methodLink RX2 43 Lib.Math.min.name, .static Lib.Math.min.name, .initialized "java/lang/Math", .code Lib.Math.min.name Lib.Math.min.code 2 (some .int), .methodLink RX2 49 Lib.Math.max.name, .static Lib.Math.max.name, .code Lib.Math.max.name Lib.Math.max.code 2 (some .int), .fieldLink RX2 15 "WholeNumbers$Natural" "count" "I"] ++ wsX40 ++ wsX20)
def wsX3_pieceBetween : List Cond := .code yX3_pieceBetween cX3_pieceBetween 6 (some .int) :: ([.fieldLink RX3 9 "WholeNumbers$Text" "letters" "[C", .methodLink RX3 65 yX3_digitOf, .static yX3_digitOf, .initialized RX3, .code yX3_digitOf cX3_digitOf 1 (some .int)] ++ wsX30)
def wsX4_takeSign : List Cond := .code yX4_takeSign cX4_takeSign 2 none :: ([.fieldLink RX4 12 "WholeNumbers$Whole" "size" "LWholeNumbers$Natural;", .fieldLink RX4 22 "WholeNumbers$Whole" "negative" "Z", .methodLink RX4 30 yX2_isZero, .instanceMethod yX2_isZero, .selects RX2 yX2_isZero yX2_isZero, .initialized RX2, .code yX2_isZero cX2_isZero 1 (some .boolean), .fieldLink RX2 15 "WholeNumbers$Natural" "count" "I"] ++ wsX40 ++ wsX20)
def wsX3_tell_r1 : List Cond := [Cond.methodLink RX3 73 Lib.Math.max.name, Cond.static Lib.Math.max.name, Cond.initialized "java/lang/Math", Cond.code Lib.Math.max.name Lib.Math.max.code 2 (some .int), Cond.fieldLink RX3 15 "WholeNumbers$Text" "length" "I", Cond.fieldLink RX3 19 "WholeNumbers$Whole" "size" "LWholeNumbers$Natural;", Cond.methodLink RX3 81 Lib.Math.min.name, Cond.static Lib.Math.min.name, Cond.code Lib.Math.min.name Lib.Math.min.code 2 (some .int), Cond.methodLink RX3 69 yX4_takeLong, Cond.instanceMethod yX4_takeLong, Cond.selects RX4 yX4_takeLong yX4_takeLong, Cond.initialized RX4, Cond.code yX4_takeLong cX4_takeLong 3 none, Cond.fieldLink RX4 12 "WholeNumbers$Whole" "size" "LWholeNumbers$Natural;", Cond.fieldLink RX4 22 "WholeNumbers$Whole" "negative" "Z", Cond.methodLink RX4 26 yX2_takeUnsigned, Cond.instanceMethod yX2_takeUnsigned, Cond.selects RX2 yX2_takeUnsigned yX2_takeUnsigned, Cond.initialized RX2, Cond.code yX2_takeUnsigned cX2_takeUnsigned 3 none, Cond.fieldLink RX2 9 "WholeNumbers$Natural" "limbs" "[I", Cond.constant RX2 32 (1073741823), Cond.methodLink RX2 39 yX2_trim]
def wsX3_tell_r2 : List Cond := [Cond.instanceMethod yX2_trim, Cond.selects RX2 yX2_trim yX2_trim, Cond.code yX2_trim cX2_trim 3 none, Cond.methodLink RX2 43 Lib.Math.min.name, Cond.methodLink RX2 49 Lib.Math.max.name, Cond.fieldLink RX2 15 "WholeNumbers$Natural" "count" "I", Cond.methodLink RX3 46 yX3_digitsInLimb, Cond.static yX3_digitsInLimb, Cond.initialized RX3, Cond.code yX3_digitsInLimb cX3_digitsInLimb 5 (some .int), Cond.constantLong RX3 96 (1073741823), Cond.methodLink RX3 61 yX3_firstDigit, Cond.instanceMethod yX3_firstDigit, Cond.selects RX3 yX3_firstDigit yX3_firstDigit, Cond.code yX3_firstDigit cX3_firstDigit 1 (some .int), Cond.fieldLink RX3 9 "WholeNumbers$Text" "letters" "[C", Cond.methodLink RX3 78 yX2_bitLength, Cond.instanceMethod yX2_bitLength, Cond.selects RX2 yX2_bitLength yX2_bitLength, Cond.code yX2_bitLength cX2_bitLength 1 (some .int), Cond.methodLink RX2 19 yX2_spareBits, Cond.instanceMethod yX2_spareBits, Cond.selects RX2 yX2_spareBits yX2_spareBits, Cond.code yX2_spareBits cX2_spareBits 1 (some .int)]
def wsX3_tell_r3 : List Cond := [Cond.methodLink RX2 23 yX2_limb, Cond.instanceMethod yX2_limb, Cond.selects RX2 yX2_limb yX2_limb, Cond.code yX2_limb cX2_limb 2 (some .int), Cond.methodLink RX2 27 yJ6_numberOfLeadingZeros_0f7a4, Cond.static yJ6_numberOfLeadingZeros_0f7a4, Cond.initialized RJ6, Cond.code yJ6_numberOfLeadingZeros_0f7a4 cJ6_numberOfLeadingZeros_0f7a4 2 (some .int), Cond.constant RJ6 264 (65536), Cond.methodLink RX3 50 yX3_powerOf, Cond.static yX3_powerOf, Cond.code yX3_powerOf cX3_powerOf 4 (some .int), Cond.methodLink RX3 84 yX3_pieceBetween, Cond.instanceMethod yX3_pieceBetween, Cond.selects RX3 yX3_pieceBetween yX3_pieceBetween, Cond.code yX3_pieceBetween cX3_pieceBetween 6 (some .int), Cond.methodLink RX3 65 yX3_digitOf, Cond.static yX3_digitOf, Cond.code yX3_digitOf cX3_digitOf 1 (some .int), Cond.methodLink RX3 88 yX2_timesPlus, Cond.instanceMethod yX2_timesPlus, Cond.selects RX2 yX2_timesPlus yX2_timesPlus, Cond.code yX2_timesPlus cX2_timesPlus 8 none, Cond.methodLink RX3 92 yX4_takeSign]
def wsX3_tell_r4 : List Cond := [Cond.instanceMethod yX4_takeSign, Cond.selects RX4 yX4_takeSign yX4_takeSign, Cond.code yX4_takeSign cX4_takeSign 2 none, Cond.methodLink RX4 30 yX2_isZero, Cond.instanceMethod yX2_isZero, Cond.selects RX2 yX2_isZero yX2_isZero, Cond.code yX2_isZero cX2_isZero 1 (some .boolean)]
def wsX3_tell : List Cond := .code yX3_tell cX3_tell 7 none :: ((wsX3_tell_r1 ++ (wsX3_tell_r2 ++ (wsX3_tell_r3 ++ wsX3_tell_r4))) ++ wsX30 ++ wsX40 ++ wsX20)
def wsX4_init : List Cond := .code yX4_init cX4_init 1 none :: ([.methodLink RX4 3 objectInit, .instanceMethod objectInit, .code objectInit ⟨#[0xb1]⟩ 1 none, .classLink RX4 9 RX2, .instantiable RX2 2, .initialized RX2, .fieldLink RX4 12 "WholeNumbers$Whole" "size" "LWholeNumbers$Natural;", .instanceMethod yX2_init, .code yX2_init cX2_init 1 none, .methodLink RX2 3 objectInit, .arrayClass .int, .fieldLink RX2 9 "WholeNumbers$Natural" "limbs" "[I"] ++ wsX20 ++ wsX40)
def wsX4_take : List Cond := .code yX4_take cX4_take 2 none :: ([.fieldLink RX4 12 "WholeNumbers$Whole" "size" "LWholeNumbers$Natural;", .fieldLink RX4 22 "WholeNumbers$Whole" "negative" "Z", .methodLink RX4 18 yX2_take, .instanceMethod yX2_take, .selects RX2 yX2_take yX2_take, .initialized RX2, .code yX2_take cX2_take 2 none, .fieldLink RX2 9 "WholeNumbers$Natural" "limbs" "[I", .fieldLink RX2 15 "WholeNumbers$Natural" "count" "I", .methodLink RX2 33 arraycopyName, .native arraycopyName, .static arraycopyName, .initialized "java/lang/System"] ++ wsX40 ++ wsX20)
def wsX4_takeSum_r1 : List Cond := [Cond.fieldLink RX4 22 "WholeNumbers$Whole" "negative" "Z", Cond.fieldLink RX4 12 "WholeNumbers$Whole" "size" "LWholeNumbers$Natural;", Cond.methodLink RX4 34 yX2_takeSum, Cond.instanceMethod yX2_takeSum, Cond.selects RX2 yX2_takeSum yX2_takeSum, Cond.initialized RX2, Cond.code yX2_takeSum cX2_takeSum 7 none, Cond.fieldLink RX2 15 "WholeNumbers$Natural" "count" "I", Cond.methodLink RX2 49 Lib.Math.max.name, Cond.static Lib.Math.max.name, Cond.initialized "java/lang/Math", Cond.code Lib.Math.max.name Lib.Math.max.code 2 (some .int), Cond.methodLink RX2 43 Lib.Math.min.name, Cond.static Lib.Math.min.name, Cond.code Lib.Math.min.name Lib.Math.min.code 2 (some .int), Cond.fieldLink RX2 9 "WholeNumbers$Natural" "limbs" "[I", Cond.constant RX2 32 (1073741823), Cond.methodLink RX2 23 yX2_limb, Cond.instanceMethod yX2_limb, Cond.selects RX2 yX2_limb yX2_limb, Cond.code yX2_limb cX2_limb 2 (some .int), Cond.methodLink RX2 39 yX2_trim, Cond.instanceMethod yX2_trim, Cond.selects RX2 yX2_trim yX2_trim]
def wsX4_takeSum_r2 : List Cond := [Cond.code yX2_trim cX2_trim 3 none, Cond.methodLink RX4 38 yX4_takeSign, Cond.instanceMethod yX4_takeSign, Cond.selects RX4 yX4_takeSign yX4_takeSign, Cond.initialized RX4, Cond.code yX4_takeSign cX4_takeSign 2 none, Cond.methodLink RX4 30 yX2_isZero, Cond.instanceMethod yX2_isZero, Cond.selects RX2 yX2_isZero yX2_isZero, Cond.code yX2_isZero cX2_isZero 1 (some .boolean), Cond.methodLink RX4 42 yX2_order, Cond.instanceMethod yX2_order, Cond.selects RX2 yX2_order yX2_order, Cond.code yX2_order cX2_order 3 (some .int), Cond.methodLink RX4 46 yX2_takeDifference, Cond.instanceMethod yX2_takeDifference, Cond.selects RX2 yX2_takeDifference yX2_takeDifference, Cond.code yX2_takeDifference cX2_takeDifference 7 none]
def wsX4_takeSum : List Cond := .code yX4_takeSum cX4_takeSum 4 none :: ((wsX4_takeSum_r1 ++ wsX4_takeSum_r2) ++ wsX40 ++ wsX20)
def wsX4_takeProduct_r1 : List Cond := [Cond.fieldLink RX4 12 "WholeNumbers$Whole" "size" "LWholeNumbers$Natural;", Cond.fieldLink RX4 22 "WholeNumbers$Whole" "negative" "Z", Cond.methodLink RX4 49 yX2_bitLength, Cond.instanceMethod yX2_bitLength, Cond.selects RX2 yX2_bitLength yX2_bitLength, Cond.initialized RX2, Cond.code yX2_bitLength cX2_bitLength 1 (some .int), Cond.fieldLink RX2 15 "WholeNumbers$Natural" "count" "I", Cond.methodLink RX2 19 yX2_spareBits, Cond.instanceMethod yX2_spareBits, Cond.selects RX2 yX2_spareBits yX2_spareBits, Cond.code yX2_spareBits cX2_spareBits 1 (some .int), Cond.methodLink RX2 23 yX2_limb, Cond.instanceMethod yX2_limb, Cond.selects RX2 yX2_limb yX2_limb, Cond.code yX2_limb cX2_limb 2 (some .int), Cond.fieldLink RX2 9 "WholeNumbers$Natural" "limbs" "[I", Cond.methodLink RX2 27 yJ6_numberOfLeadingZeros_0f7a4, Cond.static yJ6_numberOfLeadingZeros_0f7a4, Cond.initialized RJ6, Cond.code yJ6_numberOfLeadingZeros_0f7a4 cJ6_numberOfLeadingZeros_0f7a4 2 (some .int), Cond.constant RJ6 264 (65536), Cond.methodLink RX4 53 yX2_takeProduct, Cond.instanceMethod yX2_takeProduct]
def wsX4_takeProduct_r2 : List Cond := [Cond.selects RX2 yX2_takeProduct yX2_takeProduct, Cond.code yX2_takeProduct cX2_takeProduct 5 none, Cond.methodLink RX2 43 Lib.Math.min.name, Cond.static Lib.Math.min.name, Cond.initialized "java/lang/Math", Cond.code Lib.Math.min.name Lib.Math.min.code 2 (some .int), Cond.methodLink RX2 52 yX2_addRow, Cond.instanceMethod yX2_addRow, Cond.selects RX2 yX2_addRow yX2_addRow, Cond.code yX2_addRow cX2_addRow 10 (some .int), Cond.constant RX2 32 (1073741823), Cond.methodLink RX2 39 yX2_trim, Cond.instanceMethod yX2_trim, Cond.selects RX2 yX2_trim yX2_trim, Cond.code yX2_trim cX2_trim 3 none, Cond.methodLink RX2 49 Lib.Math.max.name, Cond.static Lib.Math.max.name, Cond.code Lib.Math.max.name Lib.Math.max.code 2 (some .int), Cond.methodLink RX4 38 yX4_takeSign, Cond.instanceMethod yX4_takeSign, Cond.selects RX4 yX4_takeSign yX4_takeSign, Cond.initialized RX4, Cond.code yX4_takeSign cX4_takeSign 2 none, Cond.methodLink RX4 30 yX2_isZero]
def wsX4_takeProduct_r3 : List Cond := [Cond.instanceMethod yX2_isZero, Cond.selects RX2 yX2_isZero yX2_isZero, Cond.code yX2_isZero cX2_isZero 1 (some .boolean)]
def wsX4_takeProduct : List Cond := .code yX4_takeProduct cX4_takeProduct 3 (some .boolean) :: ((wsX4_takeProduct_r1 ++ (wsX4_takeProduct_r2 ++ wsX4_takeProduct_r3)) ++ wsX40 ++ wsX20)
def wsX4_direction : List Cond := .code yX4_direction cX4_direction 1 (some .int) :: ([.fieldLink RX4 12 "WholeNumbers$Whole" "size" "LWholeNumbers$Natural;", .fieldLink RX4 22 "WholeNumbers$Whole" "negative" "Z", .methodLink RX4 30 yX2_isZero, .instanceMethod yX2_isZero, .selects RX2 yX2_isZero yX2_isZero, .initialized RX2, .code yX2_isZero cX2_isZero 1 (some .boolean), .fieldLink RX2 15 "WholeNumbers$Natural" "count" "I"] ++ wsX40 ++ wsX20)
def wsX4_order : List Cond := .code yX4_order cX4_order 2 (some .int) :: ([.fieldLink RX4 22 "WholeNumbers$Whole" "negative" "Z", .fieldLink RX4 12 "WholeNumbers$Whole" "size" "LWholeNumbers$Natural;", .methodLink RX4 42 yX2_order, .instanceMethod yX2_order, .selects RX2 yX2_order yX2_order, .initialized RX2, .code yX2_order cX2_order 3 (some .int), .fieldLink RX2 15 "WholeNumbers$Natural" "count" "I", .fieldLink RX2 9 "WholeNumbers$Natural" "limbs" "[I"] ++ wsX40 ++ wsX20)
def wsX4_isLong_r1 : List Cond := [Cond.fieldLink RX4 12 "WholeNumbers$Whole" "size" "LWholeNumbers$Natural;", Cond.fieldLink RX4 22 "WholeNumbers$Whole" "negative" "Z", Cond.methodLink RX4 49 yX2_bitLength, Cond.instanceMethod yX2_bitLength, Cond.selects RX2 yX2_bitLength yX2_bitLength, Cond.initialized RX2, Cond.code yX2_bitLength cX2_bitLength 1 (some .int), Cond.fieldLink RX2 15 "WholeNumbers$Natural" "count" "I", Cond.methodLink RX2 19 yX2_spareBits, Cond.instanceMethod yX2_spareBits, Cond.selects RX2 yX2_spareBits yX2_spareBits, Cond.code yX2_spareBits cX2_spareBits 1 (some .int), Cond.methodLink RX2 23 yX2_limb, Cond.instanceMethod yX2_limb, Cond.selects RX2 yX2_limb yX2_limb, Cond.code yX2_limb cX2_limb 2 (some .int), Cond.fieldLink RX2 9 "WholeNumbers$Natural" "limbs" "[I", Cond.methodLink RX2 27 yJ6_numberOfLeadingZeros_0f7a4, Cond.static yJ6_numberOfLeadingZeros_0f7a4, Cond.initialized RJ6, Cond.code yJ6_numberOfLeadingZeros_0f7a4 cJ6_numberOfLeadingZeros_0f7a4 2 (some .int), Cond.constant RJ6 264 (65536), Cond.methodLink RX4 58 yX2_anyBitBelow, Cond.instanceMethod yX2_anyBitBelow]
def wsX4_isLong_r2 : List Cond := [Cond.selects RX2 yX2_anyBitBelow yX2_anyBitBelow, Cond.code yX2_anyBitBelow cX2_anyBitBelow 4 (some .boolean)]
def wsX4_isLong : List Cond := .code yX4_isLong cX4_isLong 3 (some .boolean) :: ((wsX4_isLong_r1 ++ wsX4_isLong_r2) ++ wsX40 ++ wsX20)
def wsX4_asLong : List Cond := .code yX4_asLong cX4_asLong 1 (some .long) :: ([.fieldLink RX4 22 "WholeNumbers$Whole" "negative" "Z", .fieldLink RX4 12 "WholeNumbers$Whole" "size" "LWholeNumbers$Natural;", .methodLink RX4 62 yX2_lowestLong, .instanceMethod yX2_lowestLong, .selects RX2 yX2_lowestLong yX2_lowestLong, .initialized RX2, .code yX2_lowestLong cX2_lowestLong 1 (some .long), .methodLink RX2 23 yX2_limb, .instanceMethod yX2_limb, .selects RX2 yX2_limb yX2_limb, .code yX2_limb cX2_limb 2 (some .int), .fieldLink RX2 15 "WholeNumbers$Natural" "count" "I", .fieldLink RX2 9 "WholeNumbers$Natural" "limbs" "[I"] ++ wsX40 ++ wsX20)
def wsX5_init_r1 : List Cond := [Cond.methodLink RX5 3 objectInit, Cond.instanceMethod objectInit, Cond.code objectInit ⟨#[0xb1]⟩ 1 none, Cond.classLink RX5 9 RX4, Cond.fieldLink RX5 11 "WholeNumbers" "registers" "[LWholeNumbers$Whole;", Cond.instantiable RX4 2, Cond.initialized RX4, Cond.fieldLink RX5 16 "WholeNumbers" "result" "LWholeNumbers$Whole;", Cond.fieldLink RX5 20 "WholeNumbers" "second" "LWholeNumbers$Whole;", Cond.classLink RX5 23 RX1, Cond.instantiable RX1 3, Cond.initialized RX1, Cond.fieldLink RX5 26 "WholeNumbers" "division" "LWholeNumbers$LongDivision;", Cond.classLink RX5 30 RX0, Cond.instantiable RX0 7, Cond.initialized RX0, Cond.fieldLink RX5 35 "WholeNumbers" "euclid" "LWholeNumbers$Euclid;", Cond.classLink RX5 39 RX3, Cond.instantiable RX3 2, Cond.initialized RX3, Cond.fieldLink RX5 42 "WholeNumbers" "text" "LWholeNumbers$Text;", Cond.instanceMethod yX4_init, Cond.code yX4_init cX4_init 1 none, Cond.methodLink RX4 3 objectInit]
def wsX5_init_r2 : List Cond := [Cond.classLink RX4 9 RX2, Cond.instantiable RX2 2, Cond.initialized RX2, Cond.fieldLink RX4 12 "WholeNumbers$Whole" "size" "LWholeNumbers$Natural;", Cond.instanceMethod yX2_init, Cond.code yX2_init cX2_init 1 none, Cond.methodLink RX2 3 objectInit, Cond.arrayClass .int, Cond.fieldLink RX2 9 "WholeNumbers$Natural" "limbs" "[I", Cond.instanceMethod yX1_init, Cond.code yX1_init cX1_init 1 none, Cond.methodLink RX1 3 objectInit, Cond.classLink RX1 9 RX2, Cond.fieldLink RX1 12 "WholeNumbers$LongDivision" "quotient" "LWholeNumbers$Natural;", Cond.fieldLink RX1 18 "WholeNumbers$LongDivision" "rest" "LWholeNumbers$Natural;", Cond.fieldLink RX1 21 "WholeNumbers$LongDivision" "divisor" "LWholeNumbers$Natural;", Cond.methodLink RX5 32 yX0_init, Cond.instanceMethod yX0_init, Cond.code yX0_init cX0_init 2 none, Cond.methodLink RX0 5 objectInit, Cond.classLink RX0 11 RX2, Cond.fieldLink RX0 14 "WholeNumbers$Euclid" "greater" "LWholeNumbers$Natural;", Cond.fieldLink RX0 18 "WholeNumbers$Euclid" "lesser" "LWholeNumbers$Natural;", Cond.fieldLink RX0 21 "WholeNumbers$Euclid" "division" "LWholeNumbers$LongDivision;"]
def wsX5_init_r3 : List Cond := [Cond.instanceMethod yX3_init, Cond.code yX3_init cX3_init 1 none, Cond.methodLink RX3 3 objectInit, Cond.arrayClass .char, Cond.fieldLink RX3 9 "WholeNumbers$Text" "letters" "[C"]
def wsX5_init : List Cond := .code yX5_init cX5_init 2 none :: ((wsX5_init_r1 ++ (wsX5_init_r2 ++ wsX5_init_r3)) ++ wsX50 ++ wsX40 ++ wsX10 ++ wsX00 ++ wsX30 ++ wsX20)
def wsX5_isRegister : List Cond := .code yX5_isRegister cX5_isRegister 1 (some .boolean) :: ([])
def wsX5_load_r1 : List Cond := [Cond.fieldLink RX5 11 "WholeNumbers" "registers" "[LWholeNumbers$Whole;", Cond.methodLink RX5 46 yX5_isRegister, Cond.static yX5_isRegister, Cond.initialized RX5, Cond.code yX5_isRegister cX5_isRegister 1 (some .boolean), Cond.methodLink RX5 50 yX4_takeLong, Cond.instanceMethod yX4_takeLong, Cond.selects RX4 yX4_takeLong yX4_takeLong, Cond.initialized RX4, Cond.code yX4_takeLong cX4_takeLong 3 none, Cond.fieldLink RX4 12 "WholeNumbers$Whole" "size" "LWholeNumbers$Natural;", Cond.fieldLink RX4 22 "WholeNumbers$Whole" "negative" "Z", Cond.methodLink RX4 26 yX2_takeUnsigned, Cond.instanceMethod yX2_takeUnsigned, Cond.selects RX2 yX2_takeUnsigned yX2_takeUnsigned, Cond.initialized RX2, Cond.code yX2_takeUnsigned cX2_takeUnsigned 3 none, Cond.fieldLink RX2 9 "WholeNumbers$Natural" "limbs" "[I", Cond.constant RX2 32 (1073741823), Cond.methodLink RX2 39 yX2_trim, Cond.instanceMethod yX2_trim, Cond.selects RX2 yX2_trim yX2_trim, Cond.code yX2_trim cX2_trim 3 none, Cond.methodLink RX2 43 Lib.Math.min.name]
def wsX5_load_r2 : List Cond := [Cond.static Lib.Math.min.name, Cond.initialized "java/lang/Math", Cond.code Lib.Math.min.name Lib.Math.min.code 2 (some .int), Cond.methodLink RX2 49 Lib.Math.max.name, Cond.static Lib.Math.max.name, Cond.code Lib.Math.max.name Lib.Math.max.code 2 (some .int), Cond.fieldLink RX2 15 "WholeNumbers$Natural" "count" "I"]
def wsX5_load : List Cond := .code yX5_load cX5_load 4 (some .boolean) :: ((wsX5_load_r1 ++ wsX5_load_r2) ++ wsX50 ++ wsX40 ++ wsX20)
def wsX5_areRegisters : List Cond := .code yX5_areRegisters cX5_areRegisters 3 (some .boolean) :: ([.methodLink RX5 46 yX5_isRegister, .static yX5_isRegister, .initialized RX5, .code yX5_isRegister cX5_isRegister 1 (some .boolean)])
def wsX5_keepResult_r1 : List Cond := [Cond.fieldLink RX5 16 "WholeNumbers" "result" "LWholeNumbers$Whole;", Cond.fieldLink RX5 74 "WholeNumbers$Whole" "size" "LWholeNumbers$Natural;", Cond.fieldLink RX5 11 "WholeNumbers" "registers" "[LWholeNumbers$Whole;", Cond.methodLink RX5 102 yX2_bitLength, Cond.instanceMethod yX2_bitLength, Cond.selects RX2 yX2_bitLength yX2_bitLength, Cond.initialized RX2, Cond.code yX2_bitLength cX2_bitLength 1 (some .int), Cond.fieldLink RX2 15 "WholeNumbers$Natural" "count" "I", Cond.methodLink RX2 19 yX2_spareBits, Cond.instanceMethod yX2_spareBits, Cond.selects RX2 yX2_spareBits yX2_spareBits, Cond.code yX2_spareBits cX2_spareBits 1 (some .int), Cond.methodLink RX2 23 yX2_limb, Cond.instanceMethod yX2_limb, Cond.selects RX2 yX2_limb yX2_limb, Cond.code yX2_limb cX2_limb 2 (some .int), Cond.fieldLink RX2 9 "WholeNumbers$Natural" "limbs" "[I", Cond.methodLink RX2 27 yJ6_numberOfLeadingZeros_0f7a4, Cond.static yJ6_numberOfLeadingZeros_0f7a4, Cond.initialized RJ6, Cond.code yJ6_numberOfLeadingZeros_0f7a4 cJ6_numberOfLeadingZeros_0f7a4 2 (some .int), Cond.constant RJ6 264 (65536), Cond.methodLink RX5 99 yX4_take]
def wsX5_keepResult_r2 : List Cond := [Cond.instanceMethod yX4_take, Cond.selects RX4 yX4_take yX4_take, Cond.initialized RX4, Cond.code yX4_take cX4_take 2 none, Cond.fieldLink RX4 12 "WholeNumbers$Whole" "size" "LWholeNumbers$Natural;", Cond.fieldLink RX4 22 "WholeNumbers$Whole" "negative" "Z", Cond.methodLink RX4 18 yX2_take, Cond.instanceMethod yX2_take, Cond.selects RX2 yX2_take yX2_take, Cond.code yX2_take cX2_take 2 none, Cond.methodLink RX2 33 arraycopyName, Cond.native arraycopyName, Cond.static arraycopyName, Cond.initialized "java/lang/System"]
def wsX5_keepResult : List Cond := .code yX5_keepResult cX5_keepResult 3 (some .int) :: ((wsX5_keepResult_r1 ++ wsX5_keepResult_r2) ++ wsX50 ++ wsX40 ++ wsX20)
def wsX5_reckon_r1 : List Cond := [Cond.fieldLink RX5 11 "WholeNumbers" "registers" "[LWholeNumbers$Whole;", Cond.fieldLink RX5 16 "WholeNumbers" "result" "LWholeNumbers$Whole;", Cond.fieldLink RX5 58 "WholeNumbers$Whole" "negative" "Z", Cond.methodLink RX5 54 yX5_areRegisters, Cond.static yX5_areRegisters, Cond.initialized RX5, Cond.code yX5_areRegisters cX5_areRegisters 3 (some .boolean), Cond.methodLink RX5 46 yX5_isRegister, Cond.static yX5_isRegister, Cond.code yX5_isRegister cX5_isRegister 1 (some .boolean), Cond.methodLink RX5 62 yX4_takeSum, Cond.instanceMethod yX4_takeSum, Cond.selects RX4 yX4_takeSum yX4_takeSum, Cond.initialized RX4, Cond.code yX4_takeSum cX4_takeSum 4 none, Cond.fieldLink RX4 22 "WholeNumbers$Whole" "negative" "Z", Cond.fieldLink RX4 12 "WholeNumbers$Whole" "size" "LWholeNumbers$Natural;", Cond.methodLink RX4 34 yX2_takeSum, Cond.instanceMethod yX2_takeSum, Cond.selects RX2 yX2_takeSum yX2_takeSum, Cond.initialized RX2, Cond.code yX2_takeSum cX2_takeSum 7 none, Cond.fieldLink RX2 15 "WholeNumbers$Natural" "count" "I", Cond.methodLink RX2 49 Lib.Math.max.name]
def wsX5_reckon_r2 : List Cond := [Cond.static Lib.Math.max.name, Cond.initialized "java/lang/Math", Cond.code Lib.Math.max.name Lib.Math.max.code 2 (some .int), Cond.methodLink RX2 43 Lib.Math.min.name, Cond.static Lib.Math.min.name, Cond.code Lib.Math.min.name Lib.Math.min.code 2 (some .int), Cond.fieldLink RX2 9 "WholeNumbers$Natural" "limbs" "[I", Cond.constant RX2 32 (1073741823), Cond.methodLink RX2 23 yX2_limb, Cond.instanceMethod yX2_limb, Cond.selects RX2 yX2_limb yX2_limb, Cond.code yX2_limb cX2_limb 2 (some .int), Cond.methodLink RX2 39 yX2_trim, Cond.instanceMethod yX2_trim, Cond.selects RX2 yX2_trim yX2_trim, Cond.code yX2_trim cX2_trim 3 none, Cond.methodLink RX4 38 yX4_takeSign, Cond.instanceMethod yX4_takeSign, Cond.selects RX4 yX4_takeSign yX4_takeSign, Cond.code yX4_takeSign cX4_takeSign 2 none, Cond.methodLink RX4 30 yX2_isZero, Cond.instanceMethod yX2_isZero, Cond.selects RX2 yX2_isZero yX2_isZero, Cond.code yX2_isZero cX2_isZero 1 (some .boolean)]
def wsX5_reckon_r3 : List Cond := [Cond.methodLink RX4 42 yX2_order, Cond.instanceMethod yX2_order, Cond.selects RX2 yX2_order yX2_order, Cond.code yX2_order cX2_order 3 (some .int), Cond.methodLink RX4 46 yX2_takeDifference, Cond.instanceMethod yX2_takeDifference, Cond.selects RX2 yX2_takeDifference yX2_takeDifference, Cond.code yX2_takeDifference cX2_takeDifference 7 none, Cond.methodLink RX5 66 yX5_keepResult, Cond.instanceMethod yX5_keepResult, Cond.selects RX5 yX5_keepResult yX5_keepResult, Cond.code yX5_keepResult cX5_keepResult 3 (some .int), Cond.fieldLink RX5 74 "WholeNumbers$Whole" "size" "LWholeNumbers$Natural;", Cond.methodLink RX5 102 yX2_bitLength, Cond.instanceMethod yX2_bitLength, Cond.selects RX2 yX2_bitLength yX2_bitLength, Cond.code yX2_bitLength cX2_bitLength 1 (some .int), Cond.methodLink RX2 19 yX2_spareBits, Cond.instanceMethod yX2_spareBits, Cond.selects RX2 yX2_spareBits yX2_spareBits, Cond.code yX2_spareBits cX2_spareBits 1 (some .int), Cond.methodLink RX2 27 yJ6_numberOfLeadingZeros_0f7a4, Cond.static yJ6_numberOfLeadingZeros_0f7a4, Cond.initialized RJ6]
def wsX5_reckon_r4 : List Cond := [Cond.code yJ6_numberOfLeadingZeros_0f7a4 cJ6_numberOfLeadingZeros_0f7a4 2 (some .int), Cond.constant RJ6 264 (65536), Cond.methodLink RX5 99 yX4_take, Cond.instanceMethod yX4_take, Cond.selects RX4 yX4_take yX4_take, Cond.code yX4_take cX4_take 2 none, Cond.methodLink RX4 18 yX2_take, Cond.instanceMethod yX2_take, Cond.selects RX2 yX2_take yX2_take, Cond.code yX2_take cX2_take 2 none, Cond.methodLink RX2 33 arraycopyName, Cond.native arraycopyName, Cond.static arraycopyName, Cond.initialized "java/lang/System", Cond.methodLink RX5 70 yX4_takeProduct, Cond.instanceMethod yX4_takeProduct, Cond.selects RX4 yX4_takeProduct yX4_takeProduct, Cond.code yX4_takeProduct cX4_takeProduct 3 (some .boolean), Cond.methodLink RX4 49 yX2_bitLength, Cond.methodLink RX4 53 yX2_takeProduct, Cond.instanceMethod yX2_takeProduct, Cond.selects RX2 yX2_takeProduct yX2_takeProduct, Cond.code yX2_takeProduct cX2_takeProduct 5 none, Cond.methodLink RX2 52 yX2_addRow]
def wsX5_reckon_r5 : List Cond := [Cond.instanceMethod yX2_addRow, Cond.selects RX2 yX2_addRow yX2_addRow, Cond.code yX2_addRow cX2_addRow 10 (some .int)]
def wsX5_reckon : List Cond := .code yX5_reckon cX5_reckon 7 (some .int) :: ((wsX5_reckon_r1 ++ (wsX5_reckon_r2 ++ (wsX5_reckon_r3 ++ (wsX5_reckon_r4 ++ wsX5_reckon_r5)))) ++ wsX50 ++ wsX40 ++ wsX20)
def wsX5_cutQuotient_r1 : List Cond := [Cond.fieldLink RX5 26 "WholeNumbers" "division" "LWholeNumbers$LongDivision;", Cond.fieldLink RX5 74 "WholeNumbers$Whole" "size" "LWholeNumbers$Natural;", Cond.fieldLink RX5 16 "WholeNumbers" "result" "LWholeNumbers$Whole;", Cond.fieldLink RX5 188 "WholeNumbers$LongDivision" "quotient" "LWholeNumbers$Natural;", Cond.fieldLink RX5 58 "WholeNumbers$Whole" "negative" "Z", Cond.fieldLink RX5 20 "WholeNumbers" "second" "LWholeNumbers$Whole;", Cond.fieldLink RX5 191 "WholeNumbers$LongDivision" "rest" "LWholeNumbers$Natural;", Cond.methodLink RX5 184 yX1_split, Cond.instanceMethod yX1_split, Cond.selects RX1 yX1_split yX1_split, Cond.initialized RX1, Cond.code yX1_split cX1_split 7 none, Cond.fieldLink RX1 21 "WholeNumbers$LongDivision" "divisor" "LWholeNumbers$Natural;", Cond.fieldLink RX1 18 "WholeNumbers$LongDivision" "rest" "LWholeNumbers$Natural;", Cond.fieldLink RX1 36 "WholeNumbers$Natural" "count" "I", Cond.methodLink RX1 44 Lib.Math.max.name, Cond.static Lib.Math.max.name, Cond.initialized "java/lang/Math", Cond.code Lib.Math.max.name Lib.Math.max.code 2 (some .int), Cond.fieldLink RX1 12 "WholeNumbers$LongDivision" "quotient" "LWholeNumbers$Natural;", Cond.fieldLink RX1 50 "WholeNumbers$Natural" "limbs" "[I", Cond.methodLink RX1 24 yX2_isZero, Cond.instanceMethod yX2_isZero, Cond.selects RX2 yX2_isZero yX2_isZero]
def wsX5_cutQuotient_r2 : List Cond := [Cond.initialized RX2, Cond.code yX2_isZero cX2_isZero 1 (some .boolean), Cond.fieldLink RX2 15 "WholeNumbers$Natural" "count" "I", Cond.methodLink RX1 28 yX2_spareBits, Cond.instanceMethod yX2_spareBits, Cond.selects RX2 yX2_spareBits yX2_spareBits, Cond.code yX2_spareBits cX2_spareBits 1 (some .int), Cond.methodLink RX2 23 yX2_limb, Cond.instanceMethod yX2_limb, Cond.selects RX2 yX2_limb yX2_limb, Cond.code yX2_limb cX2_limb 2 (some .int), Cond.fieldLink RX2 9 "WholeNumbers$Natural" "limbs" "[I", Cond.methodLink RX2 27 yJ6_numberOfLeadingZeros_0f7a4, Cond.static yJ6_numberOfLeadingZeros_0f7a4, Cond.initialized RJ6, Cond.code yJ6_numberOfLeadingZeros_0f7a4 cJ6_numberOfLeadingZeros_0f7a4 2 (some .int), Cond.constant RJ6 264 (65536), Cond.methodLink RX1 32 yX2_shiftUp, Cond.instanceMethod yX2_shiftUp, Cond.selects RX2 yX2_shiftUp yX2_shiftUp, Cond.code yX2_shiftUp cX2_shiftUp 8 none, Cond.methodLink RX2 43 Lib.Math.min.name, Cond.static Lib.Math.min.name, Cond.code Lib.Math.min.name Lib.Math.min.code 2 (some .int)]
def wsX5_cutQuotient_r3 : List Cond := [Cond.constant RX2 32 (1073741823), Cond.methodLink RX2 39 yX2_trim, Cond.instanceMethod yX2_trim, Cond.selects RX2 yX2_trim yX2_trim, Cond.code yX2_trim cX2_trim 3 none, Cond.methodLink RX2 49 Lib.Math.max.name, Cond.methodLink RX1 40 yX2_padTo, Cond.instanceMethod yX2_padTo, Cond.selects RX2 yX2_padTo yX2_padTo, Cond.code yX2_padTo cX2_padTo 3 none, Cond.methodLink RX1 54 yX1_takeDigit, Cond.instanceMethod yX1_takeDigit, Cond.selects RX1 yX1_takeDigit yX1_takeDigit, Cond.code yX1_takeDigit cX1_takeDigit 3 (some .int), Cond.methodLink RX1 64 yX1_guessDigit, Cond.instanceMethod yX1_guessDigit, Cond.selects RX1 yX1_guessDigit yX1_guessDigit, Cond.code yX1_guessDigit cX1_guessDigit 16 (some .int), Cond.constantLong RX1 77 (1073741823), Cond.methodLink RX1 74 yX2_limb, Cond.methodLink RX1 67 yX1_subtractAt, Cond.instanceMethod yX1_subtractAt, Cond.selects RX1 yX1_subtractAt yX1_subtractAt, Cond.code yX1_subtractAt cX1_subtractAt 10 (some .boolean)]
def wsX5_cutQuotient_r4 : List Cond := [Cond.constant RX1 79 (1073741823), Cond.methodLink RX1 71 yX1_addBackAt, Cond.instanceMethod yX1_addBackAt, Cond.selects RX1 yX1_addBackAt yX1_addBackAt, Cond.code yX1_addBackAt cX1_addBackAt 6 none, Cond.methodLink RX1 58 yX2_trim, Cond.methodLink RX1 61 yX2_shiftDown, Cond.instanceMethod yX2_shiftDown, Cond.selects RX2 yX2_shiftDown yX2_shiftDown, Cond.code yX2_shiftDown cX2_shiftDown 5 none, Cond.methodLink RX2 56 yX2_limbFrom, Cond.instanceMethod yX2_limbFrom, Cond.selects RX2 yX2_limbFrom yX2_limbFrom, Cond.code yX2_limbFrom cX2_limbFrom 4 (some .int), Cond.methodLink RX5 110 yX2_take, Cond.instanceMethod yX2_take, Cond.selects RX2 yX2_take yX2_take, Cond.code yX2_take cX2_take 2 none, Cond.methodLink RX2 33 arraycopyName, Cond.native arraycopyName, Cond.static arraycopyName, Cond.initialized "java/lang/System", Cond.methodLink RX5 113 yX4_takeSign, Cond.instanceMethod yX4_takeSign]
def wsX5_cutQuotient_r5 : List Cond := [Cond.selects RX4 yX4_takeSign yX4_takeSign, Cond.initialized RX4, Cond.code yX4_takeSign cX4_takeSign 2 none, Cond.fieldLink RX4 12 "WholeNumbers$Whole" "size" "LWholeNumbers$Natural;", Cond.fieldLink RX4 22 "WholeNumbers$Whole" "negative" "Z", Cond.methodLink RX4 30 yX2_isZero]
def wsX5_cutQuotient : List Cond := .code yX5_cutQuotient cX5_cutQuotient 3 none :: ((wsX5_cutQuotient_r1 ++ (wsX5_cutQuotient_r2 ++ (wsX5_cutQuotient_r3 ++ (wsX5_cutQuotient_r4 ++ wsX5_cutQuotient_r5)))) ++ wsX50 ++ wsX40 ++ wsX10 ++ wsX20)
def wsX5_stepDown_r1 : List Cond := [Cond.fieldLink RX5 16 "WholeNumbers" "result" "LWholeNumbers$Whole;", Cond.fieldLink RX5 74 "WholeNumbers$Whole" "size" "LWholeNumbers$Natural;", Cond.fieldLink RX5 20 "WholeNumbers" "second" "LWholeNumbers$Whole;", Cond.fieldLink RX5 58 "WholeNumbers$Whole" "negative" "Z", Cond.methodLink RX5 194 yX2_timesPlus, Cond.instanceMethod yX2_timesPlus, Cond.selects RX2 yX2_timesPlus yX2_timesPlus, Cond.initialized RX2, Cond.code yX2_timesPlus cX2_timesPlus 8 none, Cond.fieldLink RX2 15 "WholeNumbers$Natural" "count" "I", Cond.fieldLink RX2 9 "WholeNumbers$Natural" "limbs" "[I", Cond.constant RX2 32 (1073741823), Cond.methodLink RX2 39 yX2_trim, Cond.instanceMethod yX2_trim, Cond.selects RX2 yX2_trim yX2_trim, Cond.code yX2_trim cX2_trim 3 none, Cond.methodLink RX2 43 Lib.Math.min.name, Cond.static Lib.Math.min.name, Cond.initialized "java/lang/Math", Cond.code Lib.Math.min.name Lib.Math.min.code 2 (some .int), Cond.methodLink RX2 49 Lib.Math.max.name, Cond.static Lib.Math.max.name, Cond.code Lib.Math.max.name Lib.Math.max.code 2 (some .int), Cond.methodLink RX5 113 yX4_takeSign]
def wsX5_stepDown_r2 : List Cond := [Cond.instanceMethod yX4_takeSign, Cond.selects RX4 yX4_takeSign yX4_takeSign, Cond.initialized RX4, Cond.code yX4_takeSign cX4_takeSign 2 none, Cond.fieldLink RX4 12 "WholeNumbers$Whole" "size" "LWholeNumbers$Natural;", Cond.fieldLink RX4 22 "WholeNumbers$Whole" "negative" "Z", Cond.methodLink RX4 30 yX2_isZero, Cond.instanceMethod yX2_isZero, Cond.selects RX2 yX2_isZero yX2_isZero, Cond.code yX2_isZero cX2_isZero 1 (some .boolean), Cond.methodLink RX5 198 yX2_takeDifference, Cond.instanceMethod yX2_takeDifference, Cond.selects RX2 yX2_takeDifference yX2_takeDifference, Cond.code yX2_takeDifference cX2_takeDifference 7 none, Cond.methodLink RX2 23 yX2_limb, Cond.instanceMethod yX2_limb, Cond.selects RX2 yX2_limb yX2_limb, Cond.code yX2_limb cX2_limb 2 (some .int)]
def wsX5_stepDown : List Cond := .code yX5_stepDown cX5_stepDown 2 none :: ((wsX5_stepDown_r1 ++ wsX5_stepDown_r2) ++ wsX50 ++ wsX40 ++ wsX20)
def wsX5_divide_r1 : List Cond := [Cond.classLink RX5 84 "java/lang/ArithmeticException", Cond.initialized "java/lang/ArithmeticException", Cond.fieldLink RX5 11 "WholeNumbers" "registers" "[LWholeNumbers$Whole;", Cond.fieldLink RX5 74 "WholeNumbers$Whole" "size" "LWholeNumbers$Natural;", Cond.fieldLink RX5 58 "WholeNumbers$Whole" "negative" "Z", Cond.fieldLink RX5 20 "WholeNumbers" "second" "LWholeNumbers$Whole;", Cond.fieldLink RX5 16 "WholeNumbers" "result" "LWholeNumbers$Whole;", Cond.methodLink RX5 46 yX5_isRegister, Cond.static yX5_isRegister, Cond.initialized RX5, Cond.code yX5_isRegister cX5_isRegister 1 (some .boolean), Cond.methodLink RX5 54 yX5_areRegisters, Cond.static yX5_areRegisters, Cond.code yX5_areRegisters cX5_areRegisters 3 (some .boolean), Cond.methodLink RX5 78 yX2_isZero, Cond.instanceMethod yX2_isZero, Cond.selects RX2 yX2_isZero yX2_isZero, Cond.initialized RX2, Cond.code yX2_isZero cX2_isZero 1 (some .boolean), Cond.fieldLink RX2 15 "WholeNumbers$Natural" "count" "I", Cond.methodLink RX5 91 yX5_cutQuotient, Cond.instanceMethod yX5_cutQuotient, Cond.selects RX5 yX5_cutQuotient yX5_cutQuotient, Cond.code yX5_cutQuotient cX5_cutQuotient 3 none]
def wsX5_divide_r2 : List Cond := [Cond.fieldLink RX5 26 "WholeNumbers" "division" "LWholeNumbers$LongDivision;", Cond.fieldLink RX5 188 "WholeNumbers$LongDivision" "quotient" "LWholeNumbers$Natural;", Cond.fieldLink RX5 191 "WholeNumbers$LongDivision" "rest" "LWholeNumbers$Natural;", Cond.methodLink RX5 184 yX1_split, Cond.instanceMethod yX1_split, Cond.selects RX1 yX1_split yX1_split, Cond.initialized RX1, Cond.code yX1_split cX1_split 7 none, Cond.fieldLink RX1 21 "WholeNumbers$LongDivision" "divisor" "LWholeNumbers$Natural;", Cond.fieldLink RX1 18 "WholeNumbers$LongDivision" "rest" "LWholeNumbers$Natural;", Cond.fieldLink RX1 36 "WholeNumbers$Natural" "count" "I", Cond.methodLink RX1 44 Lib.Math.max.name, Cond.static Lib.Math.max.name, Cond.initialized "java/lang/Math", Cond.code Lib.Math.max.name Lib.Math.max.code 2 (some .int), Cond.fieldLink RX1 12 "WholeNumbers$LongDivision" "quotient" "LWholeNumbers$Natural;", Cond.fieldLink RX1 50 "WholeNumbers$Natural" "limbs" "[I", Cond.methodLink RX1 24 yX2_isZero, Cond.methodLink RX1 28 yX2_spareBits, Cond.instanceMethod yX2_spareBits, Cond.selects RX2 yX2_spareBits yX2_spareBits, Cond.code yX2_spareBits cX2_spareBits 1 (some .int), Cond.methodLink RX2 23 yX2_limb, Cond.instanceMethod yX2_limb]
def wsX5_divide_r3 : List Cond := [Cond.selects RX2 yX2_limb yX2_limb, Cond.code yX2_limb cX2_limb 2 (some .int), Cond.fieldLink RX2 9 "WholeNumbers$Natural" "limbs" "[I", Cond.methodLink RX2 27 yJ6_numberOfLeadingZeros_0f7a4, Cond.static yJ6_numberOfLeadingZeros_0f7a4, Cond.initialized RJ6, Cond.code yJ6_numberOfLeadingZeros_0f7a4 cJ6_numberOfLeadingZeros_0f7a4 2 (some .int), Cond.constant RJ6 264 (65536), Cond.methodLink RX1 32 yX2_shiftUp, Cond.instanceMethod yX2_shiftUp, Cond.selects RX2 yX2_shiftUp yX2_shiftUp, Cond.code yX2_shiftUp cX2_shiftUp 8 none, Cond.methodLink RX2 43 Lib.Math.min.name, Cond.static Lib.Math.min.name, Cond.code Lib.Math.min.name Lib.Math.min.code 2 (some .int), Cond.constant RX2 32 (1073741823), Cond.methodLink RX2 39 yX2_trim, Cond.instanceMethod yX2_trim, Cond.selects RX2 yX2_trim yX2_trim, Cond.code yX2_trim cX2_trim 3 none, Cond.methodLink RX2 49 Lib.Math.max.name, Cond.methodLink RX1 40 yX2_padTo, Cond.instanceMethod yX2_padTo, Cond.selects RX2 yX2_padTo yX2_padTo]
def wsX5_divide_r4 : List Cond := [Cond.code yX2_padTo cX2_padTo 3 none, Cond.methodLink RX1 54 yX1_takeDigit, Cond.instanceMethod yX1_takeDigit, Cond.selects RX1 yX1_takeDigit yX1_takeDigit, Cond.code yX1_takeDigit cX1_takeDigit 3 (some .int), Cond.methodLink RX1 64 yX1_guessDigit, Cond.instanceMethod yX1_guessDigit, Cond.selects RX1 yX1_guessDigit yX1_guessDigit, Cond.code yX1_guessDigit cX1_guessDigit 16 (some .int), Cond.constantLong RX1 77 (1073741823), Cond.methodLink RX1 74 yX2_limb, Cond.methodLink RX1 67 yX1_subtractAt, Cond.instanceMethod yX1_subtractAt, Cond.selects RX1 yX1_subtractAt yX1_subtractAt, Cond.code yX1_subtractAt cX1_subtractAt 10 (some .boolean), Cond.constant RX1 79 (1073741823), Cond.methodLink RX1 71 yX1_addBackAt, Cond.instanceMethod yX1_addBackAt, Cond.selects RX1 yX1_addBackAt yX1_addBackAt, Cond.code yX1_addBackAt cX1_addBackAt 6 none, Cond.methodLink RX1 58 yX2_trim, Cond.methodLink RX1 61 yX2_shiftDown, Cond.instanceMethod yX2_shiftDown, Cond.selects RX2 yX2_shiftDown yX2_shiftDown]
def wsX5_divide_r5 : List Cond := [Cond.code yX2_shiftDown cX2_shiftDown 5 none, Cond.methodLink RX2 56 yX2_limbFrom, Cond.instanceMethod yX2_limbFrom, Cond.selects RX2 yX2_limbFrom yX2_limbFrom, Cond.code yX2_limbFrom cX2_limbFrom 4 (some .int), Cond.methodLink RX5 110 yX2_take, Cond.instanceMethod yX2_take, Cond.selects RX2 yX2_take yX2_take, Cond.code yX2_take cX2_take 2 none, Cond.methodLink RX2 33 arraycopyName, Cond.native arraycopyName, Cond.static arraycopyName, Cond.initialized "java/lang/System", Cond.methodLink RX5 113 yX4_takeSign, Cond.instanceMethod yX4_takeSign, Cond.selects RX4 yX4_takeSign yX4_takeSign, Cond.initialized RX4, Cond.code yX4_takeSign cX4_takeSign 2 none, Cond.fieldLink RX4 12 "WholeNumbers$Whole" "size" "LWholeNumbers$Natural;", Cond.fieldLink RX4 22 "WholeNumbers$Whole" "negative" "Z", Cond.methodLink RX4 30 yX2_isZero, Cond.methodLink RX5 95 yX5_stepDown, Cond.instanceMethod yX5_stepDown, Cond.selects RX5 yX5_stepDown yX5_stepDown]
def wsX5_divide_r6 : List Cond := [Cond.code yX5_stepDown cX5_stepDown 2 none, Cond.methodLink RX5 194 yX2_timesPlus, Cond.instanceMethod yX2_timesPlus, Cond.selects RX2 yX2_timesPlus yX2_timesPlus, Cond.code yX2_timesPlus cX2_timesPlus 8 none, Cond.methodLink RX5 198 yX2_takeDifference, Cond.instanceMethod yX2_takeDifference, Cond.selects RX2 yX2_takeDifference yX2_takeDifference, Cond.code yX2_takeDifference cX2_takeDifference 7 none, Cond.methodLink RX5 99 yX4_take, Cond.instanceMethod yX4_take, Cond.selects RX4 yX4_take yX4_take, Cond.code yX4_take cX4_take 2 none, Cond.methodLink RX4 18 yX2_take, Cond.methodLink RX5 102 yX2_bitLength, Cond.instanceMethod yX2_bitLength, Cond.selects RX2 yX2_bitLength yX2_bitLength, Cond.code yX2_bitLength cX2_bitLength 1 (some .int), Cond.methodLink RX2 19 yX2_spareBits]
def wsX5_divide : List Cond := .code yX5_divide cX5_divide 8 (some .int) :: ((wsX5_divide_r1 ++ (wsX5_divide_r2 ++ (wsX5_divide_r3 ++ (wsX5_divide_r4 ++ (wsX5_divide_r5 ++ wsX5_divide_r6))))) ++ wsX50 ++ wsX40 ++ wsX20 ++ wsX10 ++ (vx_atS RX5 88 "java/lang/ArithmeticException" ["java/lang/RuntimeException", "java/lang/Exception"]).filter goodWord)
def wsX5_gcd_r1 : List Cond := [Cond.fieldLink RX5 16 "WholeNumbers" "result" "LWholeNumbers$Whole;", Cond.fieldLink RX5 74 "WholeNumbers$Whole" "size" "LWholeNumbers$Natural;", Cond.fieldLink RX5 35 "WholeNumbers" "euclid" "LWholeNumbers$Euclid;", Cond.fieldLink RX5 11 "WholeNumbers" "registers" "[LWholeNumbers$Whole;", Cond.methodLink RX5 54 yX5_areRegisters, Cond.static yX5_areRegisters, Cond.initialized RX5, Cond.code yX5_areRegisters cX5_areRegisters 3 (some .boolean), Cond.methodLink RX5 46 yX5_isRegister, Cond.static yX5_isRegister, Cond.code yX5_isRegister cX5_isRegister 1 (some .boolean), Cond.methodLink RX5 106 yX0_commonDivisor, Cond.instanceMethod yX0_commonDivisor, Cond.selects RX0 yX0_commonDivisor yX0_commonDivisor, Cond.initialized RX0, Cond.code yX0_commonDivisor cX0_commonDivisor 5 (some (.object "WholeNumbers$Natural")), Cond.fieldLink RX0 14 "WholeNumbers$Euclid" "greater" "LWholeNumbers$Natural;", Cond.fieldLink RX0 18 "WholeNumbers$Euclid" "lesser" "LWholeNumbers$Natural;", Cond.methodLink RX0 25 yX2_order, Cond.instanceMethod yX2_order, Cond.selects RX2 yX2_order yX2_order, Cond.initialized RX2, Cond.code yX2_order cX2_order 3 (some .int), Cond.fieldLink RX2 15 "WholeNumbers$Natural" "count" "I"]
def wsX5_gcd_r2 : List Cond := [Cond.fieldLink RX2 9 "WholeNumbers$Natural" "limbs" "[I", Cond.methodLink RX0 29 yX2_take, Cond.instanceMethod yX2_take, Cond.selects RX2 yX2_take yX2_take, Cond.code yX2_take cX2_take 2 none, Cond.methodLink RX2 33 arraycopyName, Cond.native arraycopyName, Cond.static arraycopyName, Cond.initialized "java/lang/System", Cond.methodLink RX0 33 yX2_isZero, Cond.instanceMethod yX2_isZero, Cond.selects RX2 yX2_isZero yX2_isZero, Cond.code yX2_isZero cX2_isZero 1 (some .boolean), Cond.methodLink RX0 37 yX0_foreseeSteps, Cond.instanceMethod yX0_foreseeSteps, Cond.selects RX0 yX0_foreseeSteps yX0_foreseeSteps, Cond.code yX0_foreseeSteps cX0_foreseeSteps 15 (some .boolean), Cond.methodLink RX0 59 Lib.Math.max.name, Cond.static Lib.Math.max.name, Cond.initialized "java/lang/Math", Cond.code Lib.Math.max.name Lib.Math.max.code 2 (some .int), Cond.fieldLink RX0 69 "WholeNumbers$Euclid" "a" "J", Cond.fieldLink RX0 73 "WholeNumbers$Euclid" "b" "J", Cond.fieldLink RX0 76 "WholeNumbers$Euclid" "c" "J"]
def wsX5_gcd_r3 : List Cond := [Cond.fieldLink RX0 79 "WholeNumbers$Euclid" "d" "J", Cond.methodLink RX0 55 yX2_bitLength, Cond.instanceMethod yX2_bitLength, Cond.selects RX2 yX2_bitLength yX2_bitLength, Cond.code yX2_bitLength cX2_bitLength 1 (some .int), Cond.methodLink RX2 19 yX2_spareBits, Cond.instanceMethod yX2_spareBits, Cond.selects RX2 yX2_spareBits yX2_spareBits, Cond.code yX2_spareBits cX2_spareBits 1 (some .int), Cond.methodLink RX2 23 yX2_limb, Cond.instanceMethod yX2_limb, Cond.selects RX2 yX2_limb yX2_limb, Cond.code yX2_limb cX2_limb 2 (some .int), Cond.methodLink RX2 27 yJ6_numberOfLeadingZeros_0f7a4, Cond.static yJ6_numberOfLeadingZeros_0f7a4, Cond.initialized RJ6, Cond.code yJ6_numberOfLeadingZeros_0f7a4 cJ6_numberOfLeadingZeros_0f7a4 2 (some .int), Cond.constant RJ6 264 (65536), Cond.methodLink RX0 65 yX0_headFrom, Cond.static yX0_headFrom, Cond.code yX0_headFrom cX0_headFrom 2 (some .long), Cond.methodLink RX0 82 yX2_limbFrom, Cond.instanceMethod yX2_limbFrom, Cond.selects RX2 yX2_limbFrom yX2_limbFrom]
def wsX5_gcd_r4 : List Cond := [Cond.code yX2_limbFrom cX2_limbFrom 4 (some .int), Cond.constant RX2 32 (1073741823), Cond.methodLink RX0 40 yX0_takeForeseenSteps, Cond.instanceMethod yX0_takeForeseenSteps, Cond.selects RX0 yX0_takeForeseenSteps yX0_takeForeseenSteps, Cond.code yX0_takeForeseenSteps cX0_takeForeseenSteps 11 none, Cond.fieldLink RX0 86 "WholeNumbers$Natural" "count" "I", Cond.fieldLink RX0 94 "WholeNumbers$Natural" "limbs" "[I", Cond.constant RX0 98 (1073741823), Cond.methodLink RX0 90 yX2_padTo, Cond.instanceMethod yX2_padTo, Cond.selects RX2 yX2_padTo yX2_padTo, Cond.code yX2_padTo cX2_padTo 3 none, Cond.methodLink RX0 99 yX2_trim, Cond.instanceMethod yX2_trim, Cond.selects RX2 yX2_trim yX2_trim, Cond.code yX2_trim cX2_trim 3 none, Cond.methodLink RX2 43 Lib.Math.min.name, Cond.static Lib.Math.min.name, Cond.code Lib.Math.min.name Lib.Math.min.code 2 (some .int), Cond.methodLink RX2 49 Lib.Math.max.name, Cond.methodLink RX0 43 yX0_takeStep, Cond.instanceMethod yX0_takeStep, Cond.selects RX0 yX0_takeStep yX0_takeStep]
def wsX5_gcd_r5 : List Cond := [Cond.code yX0_takeStep cX0_takeStep 2 none, Cond.fieldLink RX0 21 "WholeNumbers$Euclid" "division" "LWholeNumbers$LongDivision;", Cond.fieldLink RX0 52 "WholeNumbers$LongDivision" "rest" "LWholeNumbers$Natural;", Cond.methodLink RX0 46 yX1_split, Cond.instanceMethod yX1_split, Cond.selects RX1 yX1_split yX1_split, Cond.initialized RX1, Cond.code yX1_split cX1_split 7 none, Cond.fieldLink RX1 21 "WholeNumbers$LongDivision" "divisor" "LWholeNumbers$Natural;", Cond.fieldLink RX1 18 "WholeNumbers$LongDivision" "rest" "LWholeNumbers$Natural;", Cond.fieldLink RX1 36 "WholeNumbers$Natural" "count" "I", Cond.methodLink RX1 44 Lib.Math.max.name, Cond.fieldLink RX1 12 "WholeNumbers$LongDivision" "quotient" "LWholeNumbers$Natural;", Cond.fieldLink RX1 50 "WholeNumbers$Natural" "limbs" "[I", Cond.methodLink RX1 24 yX2_isZero, Cond.methodLink RX1 28 yX2_spareBits, Cond.methodLink RX1 32 yX2_shiftUp, Cond.instanceMethod yX2_shiftUp, Cond.selects RX2 yX2_shiftUp yX2_shiftUp, Cond.code yX2_shiftUp cX2_shiftUp 8 none, Cond.methodLink RX2 39 yX2_trim, Cond.methodLink RX1 40 yX2_padTo, Cond.methodLink RX1 54 yX1_takeDigit, Cond.instanceMethod yX1_takeDigit]
def wsX5_gcd_r6 : List Cond := [Cond.selects RX1 yX1_takeDigit yX1_takeDigit, Cond.code yX1_takeDigit cX1_takeDigit 3 (some .int), Cond.methodLink RX1 64 yX1_guessDigit, Cond.instanceMethod yX1_guessDigit, Cond.selects RX1 yX1_guessDigit yX1_guessDigit, Cond.code yX1_guessDigit cX1_guessDigit 16 (some .int), Cond.constantLong RX1 77 (1073741823), Cond.methodLink RX1 74 yX2_limb, Cond.methodLink RX1 67 yX1_subtractAt, Cond.instanceMethod yX1_subtractAt, Cond.selects RX1 yX1_subtractAt yX1_subtractAt, Cond.code yX1_subtractAt cX1_subtractAt 10 (some .boolean), Cond.constant RX1 79 (1073741823), Cond.methodLink RX1 71 yX1_addBackAt, Cond.instanceMethod yX1_addBackAt, Cond.selects RX1 yX1_addBackAt yX1_addBackAt, Cond.code yX1_addBackAt cX1_addBackAt 6 none, Cond.methodLink RX1 58 yX2_trim, Cond.methodLink RX1 61 yX2_shiftDown, Cond.instanceMethod yX2_shiftDown, Cond.selects RX2 yX2_shiftDown yX2_shiftDown, Cond.code yX2_shiftDown cX2_shiftDown 5 none, Cond.methodLink RX2 56 yX2_limbFrom, Cond.methodLink RX5 110 yX2_take]
def wsX5_gcd_r7 : List Cond := [Cond.methodLink RX5 113 yX4_takeSign, Cond.instanceMethod yX4_takeSign, Cond.selects RX4 yX4_takeSign yX4_takeSign, Cond.initialized RX4, Cond.code yX4_takeSign cX4_takeSign 2 none, Cond.fieldLink RX4 12 "WholeNumbers$Whole" "size" "LWholeNumbers$Natural;", Cond.fieldLink RX4 22 "WholeNumbers$Whole" "negative" "Z", Cond.methodLink RX4 30 yX2_isZero, Cond.methodLink RX5 66 yX5_keepResult, Cond.instanceMethod yX5_keepResult, Cond.selects RX5 yX5_keepResult yX5_keepResult, Cond.code yX5_keepResult cX5_keepResult 3 (some .int), Cond.methodLink RX5 102 yX2_bitLength, Cond.methodLink RX5 99 yX4_take, Cond.instanceMethod yX4_take, Cond.selects RX4 yX4_take yX4_take, Cond.code yX4_take cX4_take 2 none, Cond.methodLink RX4 18 yX2_take]
def wsX5_gcd : List Cond := .code yX5_gcd cX5_gcd 4 (some .int) :: ((wsX5_gcd_r1 ++ (wsX5_gcd_r2 ++ (wsX5_gcd_r3 ++ (wsX5_gcd_r4 ++ (wsX5_gcd_r5 ++ (wsX5_gcd_r6 ++ wsX5_gcd_r7)))))) ++ wsX50 ++ wsX40 ++ wsX00 ++ wsX20 ++ wsX10)
def wsX5_takeRoot_r1 : List Cond := [Cond.fieldLink RX5 16 "WholeNumbers" "result" "LWholeNumbers$Whole;", Cond.fieldLink RX5 74 "WholeNumbers$Whole" "size" "LWholeNumbers$Natural;", Cond.fieldLink RX5 20 "WholeNumbers" "second" "LWholeNumbers$Whole;", Cond.fieldLink RX5 26 "WholeNumbers" "division" "LWholeNumbers$LongDivision;", Cond.fieldLink RX5 188 "WholeNumbers$LongDivision" "quotient" "LWholeNumbers$Natural;", Cond.methodLink RX5 50 yX4_takeLong, Cond.instanceMethod yX4_takeLong, Cond.selects RX4 yX4_takeLong yX4_takeLong, Cond.initialized RX4, Cond.code yX4_takeLong cX4_takeLong 3 none, Cond.fieldLink RX4 12 "WholeNumbers$Whole" "size" "LWholeNumbers$Natural;", Cond.fieldLink RX4 22 "WholeNumbers$Whole" "negative" "Z", Cond.methodLink RX4 26 yX2_takeUnsigned, Cond.instanceMethod yX2_takeUnsigned, Cond.selects RX2 yX2_takeUnsigned yX2_takeUnsigned, Cond.initialized RX2, Cond.code yX2_takeUnsigned cX2_takeUnsigned 3 none, Cond.fieldLink RX2 9 "WholeNumbers$Natural" "limbs" "[I", Cond.constant RX2 32 (1073741823), Cond.methodLink RX2 39 yX2_trim, Cond.instanceMethod yX2_trim, Cond.selects RX2 yX2_trim yX2_trim, Cond.code yX2_trim cX2_trim 3 none, Cond.methodLink RX2 43 Lib.Math.min.name]
def wsX5_takeRoot_r2 : List Cond := [Cond.static Lib.Math.min.name, Cond.initialized "java/lang/Math", Cond.code Lib.Math.min.name Lib.Math.min.code 2 (some .int), Cond.methodLink RX2 49 Lib.Math.max.name, Cond.static Lib.Math.max.name, Cond.code Lib.Math.max.name Lib.Math.max.code 2 (some .int), Cond.fieldLink RX2 15 "WholeNumbers$Natural" "count" "I", Cond.methodLink RX5 78 yX2_isZero, Cond.instanceMethod yX2_isZero, Cond.selects RX2 yX2_isZero yX2_isZero, Cond.code yX2_isZero cX2_isZero 1 (some .boolean), Cond.methodLink RX5 110 yX2_take, Cond.instanceMethod yX2_take, Cond.selects RX2 yX2_take yX2_take, Cond.code yX2_take cX2_take 2 none, Cond.methodLink RX2 33 arraycopyName, Cond.native arraycopyName, Cond.static arraycopyName, Cond.initialized "java/lang/System", Cond.methodLink RX5 102 yX2_bitLength, Cond.instanceMethod yX2_bitLength, Cond.selects RX2 yX2_bitLength yX2_bitLength, Cond.code yX2_bitLength cX2_bitLength 1 (some .int), Cond.methodLink RX2 19 yX2_spareBits]
def wsX5_takeRoot_r3 : List Cond := [Cond.instanceMethod yX2_spareBits, Cond.selects RX2 yX2_spareBits yX2_spareBits, Cond.code yX2_spareBits cX2_spareBits 1 (some .int), Cond.methodLink RX2 23 yX2_limb, Cond.instanceMethod yX2_limb, Cond.selects RX2 yX2_limb yX2_limb, Cond.code yX2_limb cX2_limb 2 (some .int), Cond.methodLink RX2 27 yJ6_numberOfLeadingZeros_0f7a4, Cond.static yJ6_numberOfLeadingZeros_0f7a4, Cond.initialized RJ6, Cond.code yJ6_numberOfLeadingZeros_0f7a4 cJ6_numberOfLeadingZeros_0f7a4 2 (some .int), Cond.constant RJ6 264 (65536), Cond.methodLink RX5 129 yX2_shiftUp, Cond.instanceMethod yX2_shiftUp, Cond.selects RX2 yX2_shiftUp yX2_shiftUp, Cond.code yX2_shiftUp cX2_shiftUp 8 none, Cond.methodLink RX5 184 yX1_split, Cond.instanceMethod yX1_split, Cond.selects RX1 yX1_split yX1_split, Cond.initialized RX1, Cond.code yX1_split cX1_split 7 none, Cond.fieldLink RX1 21 "WholeNumbers$LongDivision" "divisor" "LWholeNumbers$Natural;", Cond.fieldLink RX1 18 "WholeNumbers$LongDivision" "rest" "LWholeNumbers$Natural;", Cond.fieldLink RX1 36 "WholeNumbers$Natural" "count" "I"]
def wsX5_takeRoot_r4 : List Cond := [Cond.methodLink RX1 44 Lib.Math.max.name, Cond.fieldLink RX1 12 "WholeNumbers$LongDivision" "quotient" "LWholeNumbers$Natural;", Cond.fieldLink RX1 50 "WholeNumbers$Natural" "limbs" "[I", Cond.methodLink RX1 24 yX2_isZero, Cond.methodLink RX1 28 yX2_spareBits, Cond.methodLink RX1 32 yX2_shiftUp, Cond.methodLink RX1 40 yX2_padTo, Cond.instanceMethod yX2_padTo, Cond.selects RX2 yX2_padTo yX2_padTo, Cond.code yX2_padTo cX2_padTo 3 none, Cond.methodLink RX1 54 yX1_takeDigit, Cond.instanceMethod yX1_takeDigit, Cond.selects RX1 yX1_takeDigit yX1_takeDigit, Cond.code yX1_takeDigit cX1_takeDigit 3 (some .int), Cond.methodLink RX1 64 yX1_guessDigit, Cond.instanceMethod yX1_guessDigit, Cond.selects RX1 yX1_guessDigit yX1_guessDigit, Cond.code yX1_guessDigit cX1_guessDigit 16 (some .int), Cond.constantLong RX1 77 (1073741823), Cond.methodLink RX1 74 yX2_limb, Cond.methodLink RX1 67 yX1_subtractAt, Cond.instanceMethod yX1_subtractAt, Cond.selects RX1 yX1_subtractAt yX1_subtractAt, Cond.code yX1_subtractAt cX1_subtractAt 10 (some .boolean)]
def wsX5_takeRoot_r5 : List Cond := [Cond.constant RX1 79 (1073741823), Cond.methodLink RX1 71 yX1_addBackAt, Cond.instanceMethod yX1_addBackAt, Cond.selects RX1 yX1_addBackAt yX1_addBackAt, Cond.code yX1_addBackAt cX1_addBackAt 6 none, Cond.methodLink RX1 58 yX2_trim, Cond.methodLink RX1 61 yX2_shiftDown, Cond.instanceMethod yX2_shiftDown, Cond.selects RX2 yX2_shiftDown yX2_shiftDown, Cond.code yX2_shiftDown cX2_shiftDown 5 none, Cond.methodLink RX2 56 yX2_limbFrom, Cond.instanceMethod yX2_limbFrom, Cond.selects RX2 yX2_limbFrom yX2_limbFrom, Cond.code yX2_limbFrom cX2_limbFrom 4 (some .int), Cond.methodLink RX5 201 yX2_takeSum, Cond.instanceMethod yX2_takeSum, Cond.selects RX2 yX2_takeSum yX2_takeSum, Cond.code yX2_takeSum cX2_takeSum 7 none, Cond.methodLink RX5 125 yX2_shiftDown, Cond.methodLink RX5 203 yX2_order, Cond.instanceMethod yX2_order, Cond.selects RX2 yX2_order yX2_order, Cond.code yX2_order cX2_order 3 (some .int)]
def wsX5_takeRoot : List Cond := .code yX5_takeRoot cX5_takeRoot 5 none :: ((wsX5_takeRoot_r1 ++ (wsX5_takeRoot_r2 ++ (wsX5_takeRoot_r3 ++ (wsX5_takeRoot_r4 ++ wsX5_takeRoot_r5)))) ++ wsX50 ++ wsX40 ++ wsX10 ++ wsX20)
def wsX5_root_r1 : List Cond := [Cond.classLink RX5 117 "java/lang/IllegalArgumentException", Cond.initialized "java/lang/IllegalArgumentException", Cond.fieldLink RX5 11 "WholeNumbers" "registers" "[LWholeNumbers$Whole;", Cond.fieldLink RX5 58 "WholeNumbers$Whole" "negative" "Z", Cond.fieldLink RX5 74 "WholeNumbers$Whole" "size" "LWholeNumbers$Natural;", Cond.methodLink RX5 46 yX5_isRegister, Cond.static yX5_isRegister, Cond.initialized RX5, Cond.code yX5_isRegister cX5_isRegister 1 (some .boolean), Cond.methodLink RX5 122 yX5_takeRoot, Cond.instanceMethod yX5_takeRoot, Cond.selects RX5 yX5_takeRoot yX5_takeRoot, Cond.code yX5_takeRoot cX5_takeRoot 5 none, Cond.fieldLink RX5 16 "WholeNumbers" "result" "LWholeNumbers$Whole;", Cond.fieldLink RX5 20 "WholeNumbers" "second" "LWholeNumbers$Whole;", Cond.fieldLink RX5 26 "WholeNumbers" "division" "LWholeNumbers$LongDivision;", Cond.fieldLink RX5 188 "WholeNumbers$LongDivision" "quotient" "LWholeNumbers$Natural;", Cond.methodLink RX5 50 yX4_takeLong, Cond.instanceMethod yX4_takeLong, Cond.selects RX4 yX4_takeLong yX4_takeLong, Cond.initialized RX4, Cond.code yX4_takeLong cX4_takeLong 3 none, Cond.fieldLink RX4 12 "WholeNumbers$Whole" "size" "LWholeNumbers$Natural;", Cond.fieldLink RX4 22 "WholeNumbers$Whole" "negative" "Z"]
def wsX5_root_r2 : List Cond := [Cond.methodLink RX4 26 yX2_takeUnsigned, Cond.instanceMethod yX2_takeUnsigned, Cond.selects RX2 yX2_takeUnsigned yX2_takeUnsigned, Cond.initialized RX2, Cond.code yX2_takeUnsigned cX2_takeUnsigned 3 none, Cond.fieldLink RX2 9 "WholeNumbers$Natural" "limbs" "[I", Cond.constant RX2 32 (1073741823), Cond.methodLink RX2 39 yX2_trim, Cond.instanceMethod yX2_trim, Cond.selects RX2 yX2_trim yX2_trim, Cond.code yX2_trim cX2_trim 3 none, Cond.methodLink RX2 43 Lib.Math.min.name, Cond.static Lib.Math.min.name, Cond.initialized "java/lang/Math", Cond.code Lib.Math.min.name Lib.Math.min.code 2 (some .int), Cond.methodLink RX2 49 Lib.Math.max.name, Cond.static Lib.Math.max.name, Cond.code Lib.Math.max.name Lib.Math.max.code 2 (some .int), Cond.fieldLink RX2 15 "WholeNumbers$Natural" "count" "I", Cond.methodLink RX5 78 yX2_isZero, Cond.instanceMethod yX2_isZero, Cond.selects RX2 yX2_isZero yX2_isZero, Cond.code yX2_isZero cX2_isZero 1 (some .boolean), Cond.methodLink RX5 110 yX2_take]
def wsX5_root_r3 : List Cond := [Cond.instanceMethod yX2_take, Cond.selects RX2 yX2_take yX2_take, Cond.code yX2_take cX2_take 2 none, Cond.methodLink RX2 33 arraycopyName, Cond.native arraycopyName, Cond.static arraycopyName, Cond.initialized "java/lang/System", Cond.methodLink RX5 102 yX2_bitLength, Cond.instanceMethod yX2_bitLength, Cond.selects RX2 yX2_bitLength yX2_bitLength, Cond.code yX2_bitLength cX2_bitLength 1 (some .int), Cond.methodLink RX2 19 yX2_spareBits, Cond.instanceMethod yX2_spareBits, Cond.selects RX2 yX2_spareBits yX2_spareBits, Cond.code yX2_spareBits cX2_spareBits 1 (some .int), Cond.methodLink RX2 23 yX2_limb, Cond.instanceMethod yX2_limb, Cond.selects RX2 yX2_limb yX2_limb, Cond.code yX2_limb cX2_limb 2 (some .int), Cond.methodLink RX2 27 yJ6_numberOfLeadingZeros_0f7a4, Cond.static yJ6_numberOfLeadingZeros_0f7a4, Cond.initialized RJ6, Cond.code yJ6_numberOfLeadingZeros_0f7a4 cJ6_numberOfLeadingZeros_0f7a4 2 (some .int), Cond.constant RJ6 264 (65536)]
def wsX5_root_r4 : List Cond := [Cond.methodLink RX5 129 yX2_shiftUp, Cond.instanceMethod yX2_shiftUp, Cond.selects RX2 yX2_shiftUp yX2_shiftUp, Cond.code yX2_shiftUp cX2_shiftUp 8 none, Cond.methodLink RX5 184 yX1_split, Cond.instanceMethod yX1_split, Cond.selects RX1 yX1_split yX1_split, Cond.initialized RX1, Cond.code yX1_split cX1_split 7 none, Cond.fieldLink RX1 21 "WholeNumbers$LongDivision" "divisor" "LWholeNumbers$Natural;", Cond.fieldLink RX1 18 "WholeNumbers$LongDivision" "rest" "LWholeNumbers$Natural;", Cond.fieldLink RX1 36 "WholeNumbers$Natural" "count" "I", Cond.methodLink RX1 44 Lib.Math.max.name, Cond.fieldLink RX1 12 "WholeNumbers$LongDivision" "quotient" "LWholeNumbers$Natural;", Cond.fieldLink RX1 50 "WholeNumbers$Natural" "limbs" "[I", Cond.methodLink RX1 24 yX2_isZero, Cond.methodLink RX1 28 yX2_spareBits, Cond.methodLink RX1 32 yX2_shiftUp, Cond.methodLink RX1 40 yX2_padTo, Cond.instanceMethod yX2_padTo, Cond.selects RX2 yX2_padTo yX2_padTo, Cond.code yX2_padTo cX2_padTo 3 none, Cond.methodLink RX1 54 yX1_takeDigit, Cond.instanceMethod yX1_takeDigit]
def wsX5_root_r5 : List Cond := [Cond.selects RX1 yX1_takeDigit yX1_takeDigit, Cond.code yX1_takeDigit cX1_takeDigit 3 (some .int), Cond.methodLink RX1 64 yX1_guessDigit, Cond.instanceMethod yX1_guessDigit, Cond.selects RX1 yX1_guessDigit yX1_guessDigit, Cond.code yX1_guessDigit cX1_guessDigit 16 (some .int), Cond.constantLong RX1 77 (1073741823), Cond.methodLink RX1 74 yX2_limb, Cond.methodLink RX1 67 yX1_subtractAt, Cond.instanceMethod yX1_subtractAt, Cond.selects RX1 yX1_subtractAt yX1_subtractAt, Cond.code yX1_subtractAt cX1_subtractAt 10 (some .boolean), Cond.constant RX1 79 (1073741823), Cond.methodLink RX1 71 yX1_addBackAt, Cond.instanceMethod yX1_addBackAt, Cond.selects RX1 yX1_addBackAt yX1_addBackAt, Cond.code yX1_addBackAt cX1_addBackAt 6 none, Cond.methodLink RX1 58 yX2_trim, Cond.methodLink RX1 61 yX2_shiftDown, Cond.instanceMethod yX2_shiftDown, Cond.selects RX2 yX2_shiftDown yX2_shiftDown, Cond.code yX2_shiftDown cX2_shiftDown 5 none, Cond.methodLink RX2 56 yX2_limbFrom, Cond.instanceMethod yX2_limbFrom]
def wsX5_root_r6 : List Cond := [Cond.selects RX2 yX2_limbFrom yX2_limbFrom, Cond.code yX2_limbFrom cX2_limbFrom 4 (some .int), Cond.methodLink RX5 201 yX2_takeSum, Cond.instanceMethod yX2_takeSum, Cond.selects RX2 yX2_takeSum yX2_takeSum, Cond.code yX2_takeSum cX2_takeSum 7 none, Cond.methodLink RX5 125 yX2_shiftDown, Cond.methodLink RX5 203 yX2_order, Cond.instanceMethod yX2_order, Cond.selects RX2 yX2_order yX2_order, Cond.code yX2_order cX2_order 3 (some .int), Cond.methodLink RX5 66 yX5_keepResult, Cond.instanceMethod yX5_keepResult, Cond.selects RX5 yX5_keepResult yX5_keepResult, Cond.code yX5_keepResult cX5_keepResult 3 (some .int), Cond.methodLink RX5 99 yX4_take, Cond.instanceMethod yX4_take, Cond.selects RX4 yX4_take yX4_take, Cond.code yX4_take cX4_take 2 none, Cond.methodLink RX4 18 yX2_take]
def wsX5_root : List Cond := .code yX5_root cX5_root 3 (some .int) :: ((wsX5_root_r1 ++ (wsX5_root_r2 ++ (wsX5_root_r3 ++ (wsX5_root_r4 ++ (wsX5_root_r5 ++ wsX5_root_r6))))) ++ wsX50 ++ wsX40 ++ wsX10 ++ wsX20 ++ (vx_atS RX5 121 "java/lang/IllegalArgumentException" ["java/lang/RuntimeException", "java/lang/Exception"]).filter goodWord)
def wsX5_shift_r1 : List Cond := [Cond.fieldLink RX5 11 "WholeNumbers" "registers" "[LWholeNumbers$Whole;", Cond.fieldLink RX5 16 "WholeNumbers" "result" "LWholeNumbers$Whole;", Cond.fieldLink RX5 74 "WholeNumbers$Whole" "size" "LWholeNumbers$Natural;", Cond.fieldLink RX5 58 "WholeNumbers$Whole" "negative" "Z", Cond.methodLink RX5 46 yX5_isRegister, Cond.static yX5_isRegister, Cond.initialized RX5, Cond.code yX5_isRegister cX5_isRegister 1 (some .boolean), Cond.methodLink RX5 125 yX2_shiftDown, Cond.instanceMethod yX2_shiftDown, Cond.selects RX2 yX2_shiftDown yX2_shiftDown, Cond.initialized RX2, Cond.code yX2_shiftDown cX2_shiftDown 5 none, Cond.fieldLink RX2 15 "WholeNumbers$Natural" "count" "I", Cond.methodLink RX2 49 Lib.Math.max.name, Cond.static Lib.Math.max.name, Cond.initialized "java/lang/Math", Cond.code Lib.Math.max.name Lib.Math.max.code 2 (some .int), Cond.fieldLink RX2 9 "WholeNumbers$Natural" "limbs" "[I", Cond.methodLink RX2 56 yX2_limbFrom, Cond.instanceMethod yX2_limbFrom, Cond.selects RX2 yX2_limbFrom yX2_limbFrom, Cond.code yX2_limbFrom cX2_limbFrom 4 (some .int), Cond.constant RX2 32 (1073741823)]
def wsX5_shift_r2 : List Cond := [Cond.methodLink RX2 23 yX2_limb, Cond.instanceMethod yX2_limb, Cond.selects RX2 yX2_limb yX2_limb, Cond.code yX2_limb cX2_limb 2 (some .int), Cond.methodLink RX2 39 yX2_trim, Cond.instanceMethod yX2_trim, Cond.selects RX2 yX2_trim yX2_trim, Cond.code yX2_trim cX2_trim 3 none, Cond.methodLink RX2 43 Lib.Math.min.name, Cond.static Lib.Math.min.name, Cond.code Lib.Math.min.name Lib.Math.min.code 2 (some .int), Cond.methodLink RX5 78 yX2_isZero, Cond.instanceMethod yX2_isZero, Cond.selects RX2 yX2_isZero yX2_isZero, Cond.code yX2_isZero cX2_isZero 1 (some .boolean), Cond.methodLink RX5 102 yX2_bitLength, Cond.instanceMethod yX2_bitLength, Cond.selects RX2 yX2_bitLength yX2_bitLength, Cond.code yX2_bitLength cX2_bitLength 1 (some .int), Cond.methodLink RX2 19 yX2_spareBits, Cond.instanceMethod yX2_spareBits, Cond.selects RX2 yX2_spareBits yX2_spareBits, Cond.code yX2_spareBits cX2_spareBits 1 (some .int), Cond.methodLink RX2 27 yJ6_numberOfLeadingZeros_0f7a4]
def wsX5_shift_r3 : List Cond := [Cond.static yJ6_numberOfLeadingZeros_0f7a4, Cond.initialized RJ6, Cond.code yJ6_numberOfLeadingZeros_0f7a4 cJ6_numberOfLeadingZeros_0f7a4 2 (some .int), Cond.constant RJ6 264 (65536), Cond.methodLink RX5 129 yX2_shiftUp, Cond.instanceMethod yX2_shiftUp, Cond.selects RX2 yX2_shiftUp yX2_shiftUp, Cond.code yX2_shiftUp cX2_shiftUp 8 none, Cond.methodLink RX5 113 yX4_takeSign, Cond.instanceMethod yX4_takeSign, Cond.selects RX4 yX4_takeSign yX4_takeSign, Cond.initialized RX4, Cond.code yX4_takeSign cX4_takeSign 2 none, Cond.fieldLink RX4 12 "WholeNumbers$Whole" "size" "LWholeNumbers$Natural;", Cond.fieldLink RX4 22 "WholeNumbers$Whole" "negative" "Z", Cond.methodLink RX4 30 yX2_isZero, Cond.methodLink RX5 66 yX5_keepResult, Cond.instanceMethod yX5_keepResult, Cond.selects RX5 yX5_keepResult yX5_keepResult, Cond.code yX5_keepResult cX5_keepResult 3 (some .int), Cond.methodLink RX5 99 yX4_take, Cond.instanceMethod yX4_take, Cond.selects RX4 yX4_take yX4_take, Cond.code yX4_take cX4_take 2 none]
def wsX5_shift_r4 : List Cond := [Cond.methodLink RX4 18 yX2_take, Cond.instanceMethod yX2_take, Cond.selects RX2 yX2_take yX2_take, Cond.code yX2_take cX2_take 2 none, Cond.methodLink RX2 33 arraycopyName, Cond.native arraycopyName, Cond.static arraycopyName, Cond.initialized "java/lang/System"]
def wsX5_shift : List Cond := .code yX5_shift cX5_shift 5 (some .int) :: ((wsX5_shift_r1 ++ (wsX5_shift_r2 ++ (wsX5_shift_r3 ++ wsX5_shift_r4))) ++ wsX50 ++ wsX40 ++ wsX20)
def wsX5_multiplyResult_r1 : List Cond := [Cond.fieldLink RX5 20 "WholeNumbers" "second" "LWholeNumbers$Whole;", Cond.fieldLink RX5 16 "WholeNumbers" "result" "LWholeNumbers$Whole;", Cond.fieldLink RX5 74 "WholeNumbers$Whole" "size" "LWholeNumbers$Natural;", Cond.methodLink RX5 70 yX4_takeProduct, Cond.instanceMethod yX4_takeProduct, Cond.selects RX4 yX4_takeProduct yX4_takeProduct, Cond.initialized RX4, Cond.code yX4_takeProduct cX4_takeProduct 3 (some .boolean), Cond.fieldLink RX4 12 "WholeNumbers$Whole" "size" "LWholeNumbers$Natural;", Cond.fieldLink RX4 22 "WholeNumbers$Whole" "negative" "Z", Cond.methodLink RX4 49 yX2_bitLength, Cond.instanceMethod yX2_bitLength, Cond.selects RX2 yX2_bitLength yX2_bitLength, Cond.initialized RX2, Cond.code yX2_bitLength cX2_bitLength 1 (some .int), Cond.fieldLink RX2 15 "WholeNumbers$Natural" "count" "I", Cond.methodLink RX2 19 yX2_spareBits, Cond.instanceMethod yX2_spareBits, Cond.selects RX2 yX2_spareBits yX2_spareBits, Cond.code yX2_spareBits cX2_spareBits 1 (some .int), Cond.methodLink RX2 23 yX2_limb, Cond.instanceMethod yX2_limb, Cond.selects RX2 yX2_limb yX2_limb, Cond.code yX2_limb cX2_limb 2 (some .int)]
def wsX5_multiplyResult_r2 : List Cond := [Cond.fieldLink RX2 9 "WholeNumbers$Natural" "limbs" "[I", Cond.methodLink RX2 27 yJ6_numberOfLeadingZeros_0f7a4, Cond.static yJ6_numberOfLeadingZeros_0f7a4, Cond.initialized RJ6, Cond.code yJ6_numberOfLeadingZeros_0f7a4 cJ6_numberOfLeadingZeros_0f7a4 2 (some .int), Cond.constant RJ6 264 (65536), Cond.methodLink RX4 53 yX2_takeProduct, Cond.instanceMethod yX2_takeProduct, Cond.selects RX2 yX2_takeProduct yX2_takeProduct, Cond.code yX2_takeProduct cX2_takeProduct 5 none, Cond.methodLink RX2 43 Lib.Math.min.name, Cond.static Lib.Math.min.name, Cond.initialized "java/lang/Math", Cond.code Lib.Math.min.name Lib.Math.min.code 2 (some .int), Cond.methodLink RX2 52 yX2_addRow, Cond.instanceMethod yX2_addRow, Cond.selects RX2 yX2_addRow yX2_addRow, Cond.code yX2_addRow cX2_addRow 10 (some .int), Cond.constant RX2 32 (1073741823), Cond.methodLink RX2 39 yX2_trim, Cond.instanceMethod yX2_trim, Cond.selects RX2 yX2_trim yX2_trim, Cond.code yX2_trim cX2_trim 3 none, Cond.methodLink RX2 49 Lib.Math.max.name]
def wsX5_multiplyResult_r3 : List Cond := [Cond.static Lib.Math.max.name, Cond.code Lib.Math.max.name Lib.Math.max.code 2 (some .int), Cond.methodLink RX4 38 yX4_takeSign, Cond.instanceMethod yX4_takeSign, Cond.selects RX4 yX4_takeSign yX4_takeSign, Cond.code yX4_takeSign cX4_takeSign 2 none, Cond.methodLink RX4 30 yX2_isZero, Cond.instanceMethod yX2_isZero, Cond.selects RX2 yX2_isZero yX2_isZero, Cond.code yX2_isZero cX2_isZero 1 (some .boolean), Cond.methodLink RX5 102 yX2_bitLength, Cond.methodLink RX5 99 yX4_take, Cond.instanceMethod yX4_take, Cond.selects RX4 yX4_take yX4_take, Cond.code yX4_take cX4_take 2 none, Cond.methodLink RX4 18 yX2_take, Cond.instanceMethod yX2_take, Cond.selects RX2 yX2_take yX2_take, Cond.code yX2_take cX2_take 2 none, Cond.methodLink RX2 33 arraycopyName, Cond.native arraycopyName, Cond.static arraycopyName, Cond.initialized "java/lang/System"]
def wsX5_multiplyResult : List Cond := .code yX5_multiplyResult cX5_multiplyResult 2 (some .boolean) :: ((wsX5_multiplyResult_r1 ++ (wsX5_multiplyResult_r2 ++ wsX5_multiplyResult_r3)) ++ wsX50 ++ wsX40 ++ wsX20)
def wsX5_takePower_r1 : List Cond := [Cond.fieldLink RX5 16 "WholeNumbers" "result" "LWholeNumbers$Whole;", Cond.methodLink RX5 50 yX4_takeLong, Cond.instanceMethod yX4_takeLong, Cond.selects RX4 yX4_takeLong yX4_takeLong, Cond.initialized RX4, Cond.code yX4_takeLong cX4_takeLong 3 none, Cond.fieldLink RX4 12 "WholeNumbers$Whole" "size" "LWholeNumbers$Natural;", Cond.fieldLink RX4 22 "WholeNumbers$Whole" "negative" "Z", Cond.methodLink RX4 26 yX2_takeUnsigned, Cond.instanceMethod yX2_takeUnsigned, Cond.selects RX2 yX2_takeUnsigned yX2_takeUnsigned, Cond.initialized RX2, Cond.code yX2_takeUnsigned cX2_takeUnsigned 3 none, Cond.fieldLink RX2 9 "WholeNumbers$Natural" "limbs" "[I", Cond.constant RX2 32 (1073741823), Cond.methodLink RX2 39 yX2_trim, Cond.instanceMethod yX2_trim, Cond.selects RX2 yX2_trim yX2_trim, Cond.code yX2_trim cX2_trim 3 none, Cond.methodLink RX2 43 Lib.Math.min.name, Cond.static Lib.Math.min.name, Cond.initialized "java/lang/Math", Cond.code Lib.Math.min.name Lib.Math.min.code 2 (some .int), Cond.methodLink RX2 49 Lib.Math.max.name]
def wsX5_takePower_r2 : List Cond := [Cond.static Lib.Math.max.name, Cond.code Lib.Math.max.name Lib.Math.max.code 2 (some .int), Cond.fieldLink RX2 15 "WholeNumbers$Natural" "count" "I", Cond.methodLink RX5 206 yX5_multiplyResult, Cond.instanceMethod yX5_multiplyResult, Cond.selects RX5 yX5_multiplyResult yX5_multiplyResult, Cond.initialized RX5, Cond.code yX5_multiplyResult cX5_multiplyResult 2 (some .boolean), Cond.fieldLink RX5 20 "WholeNumbers" "second" "LWholeNumbers$Whole;", Cond.fieldLink RX5 74 "WholeNumbers$Whole" "size" "LWholeNumbers$Natural;", Cond.methodLink RX5 70 yX4_takeProduct, Cond.instanceMethod yX4_takeProduct, Cond.selects RX4 yX4_takeProduct yX4_takeProduct, Cond.code yX4_takeProduct cX4_takeProduct 3 (some .boolean), Cond.methodLink RX4 49 yX2_bitLength, Cond.instanceMethod yX2_bitLength, Cond.selects RX2 yX2_bitLength yX2_bitLength, Cond.code yX2_bitLength cX2_bitLength 1 (some .int), Cond.methodLink RX2 19 yX2_spareBits, Cond.instanceMethod yX2_spareBits, Cond.selects RX2 yX2_spareBits yX2_spareBits, Cond.code yX2_spareBits cX2_spareBits 1 (some .int), Cond.methodLink RX2 23 yX2_limb, Cond.instanceMethod yX2_limb]
def wsX5_takePower_r3 : List Cond := [Cond.selects RX2 yX2_limb yX2_limb, Cond.code yX2_limb cX2_limb 2 (some .int), Cond.methodLink RX2 27 yJ6_numberOfLeadingZeros_0f7a4, Cond.static yJ6_numberOfLeadingZeros_0f7a4, Cond.initialized RJ6, Cond.code yJ6_numberOfLeadingZeros_0f7a4 cJ6_numberOfLeadingZeros_0f7a4 2 (some .int), Cond.constant RJ6 264 (65536), Cond.methodLink RX4 53 yX2_takeProduct, Cond.instanceMethod yX2_takeProduct, Cond.selects RX2 yX2_takeProduct yX2_takeProduct, Cond.code yX2_takeProduct cX2_takeProduct 5 none, Cond.methodLink RX2 52 yX2_addRow, Cond.instanceMethod yX2_addRow, Cond.selects RX2 yX2_addRow yX2_addRow, Cond.code yX2_addRow cX2_addRow 10 (some .int), Cond.methodLink RX4 38 yX4_takeSign, Cond.instanceMethod yX4_takeSign, Cond.selects RX4 yX4_takeSign yX4_takeSign, Cond.code yX4_takeSign cX4_takeSign 2 none, Cond.methodLink RX4 30 yX2_isZero, Cond.instanceMethod yX2_isZero, Cond.selects RX2 yX2_isZero yX2_isZero, Cond.code yX2_isZero cX2_isZero 1 (some .boolean), Cond.methodLink RX5 102 yX2_bitLength]
def wsX5_takePower_r4 : List Cond := [Cond.methodLink RX5 99 yX4_take, Cond.instanceMethod yX4_take, Cond.selects RX4 yX4_take yX4_take, Cond.code yX4_take cX4_take 2 none, Cond.methodLink RX4 18 yX2_take, Cond.instanceMethod yX2_take, Cond.selects RX2 yX2_take yX2_take, Cond.code yX2_take cX2_take 2 none, Cond.methodLink RX2 33 arraycopyName, Cond.native arraycopyName, Cond.static arraycopyName, Cond.initialized "java/lang/System"]
def wsX5_takePower : List Cond := .code yX5_takePower cX5_takePower 4 (some .boolean) :: ((wsX5_takePower_r1 ++ (wsX5_takePower_r2 ++ (wsX5_takePower_r3 ++ wsX5_takePower_r4))) ++ wsX50 ++ wsX40 ++ wsX20)
def wsX5_power_r1 : List Cond := [Cond.fieldLink RX5 11 "WholeNumbers" "registers" "[LWholeNumbers$Whole;", Cond.methodLink RX5 46 yX5_isRegister, Cond.static yX5_isRegister, Cond.initialized RX5, Cond.code yX5_isRegister cX5_isRegister 1 (some .boolean), Cond.methodLink RX5 132 yX5_takePower, Cond.instanceMethod yX5_takePower, Cond.selects RX5 yX5_takePower yX5_takePower, Cond.code yX5_takePower cX5_takePower 4 (some .boolean), Cond.fieldLink RX5 16 "WholeNumbers" "result" "LWholeNumbers$Whole;", Cond.methodLink RX5 50 yX4_takeLong, Cond.instanceMethod yX4_takeLong, Cond.selects RX4 yX4_takeLong yX4_takeLong, Cond.initialized RX4, Cond.code yX4_takeLong cX4_takeLong 3 none, Cond.fieldLink RX4 12 "WholeNumbers$Whole" "size" "LWholeNumbers$Natural;", Cond.fieldLink RX4 22 "WholeNumbers$Whole" "negative" "Z", Cond.methodLink RX4 26 yX2_takeUnsigned, Cond.instanceMethod yX2_takeUnsigned, Cond.selects RX2 yX2_takeUnsigned yX2_takeUnsigned, Cond.initialized RX2, Cond.code yX2_takeUnsigned cX2_takeUnsigned 3 none, Cond.fieldLink RX2 9 "WholeNumbers$Natural" "limbs" "[I", Cond.constant RX2 32 (1073741823)]
def wsX5_power_r2 : List Cond := [Cond.methodLink RX2 39 yX2_trim, Cond.instanceMethod yX2_trim, Cond.selects RX2 yX2_trim yX2_trim, Cond.code yX2_trim cX2_trim 3 none, Cond.methodLink RX2 43 Lib.Math.min.name, Cond.static Lib.Math.min.name, Cond.initialized "java/lang/Math", Cond.code Lib.Math.min.name Lib.Math.min.code 2 (some .int), Cond.methodLink RX2 49 Lib.Math.max.name, Cond.static Lib.Math.max.name, Cond.code Lib.Math.max.name Lib.Math.max.code 2 (some .int), Cond.fieldLink RX2 15 "WholeNumbers$Natural" "count" "I", Cond.methodLink RX5 206 yX5_multiplyResult, Cond.instanceMethod yX5_multiplyResult, Cond.selects RX5 yX5_multiplyResult yX5_multiplyResult, Cond.code yX5_multiplyResult cX5_multiplyResult 2 (some .boolean), Cond.fieldLink RX5 20 "WholeNumbers" "second" "LWholeNumbers$Whole;", Cond.fieldLink RX5 74 "WholeNumbers$Whole" "size" "LWholeNumbers$Natural;", Cond.methodLink RX5 70 yX4_takeProduct, Cond.instanceMethod yX4_takeProduct, Cond.selects RX4 yX4_takeProduct yX4_takeProduct, Cond.code yX4_takeProduct cX4_takeProduct 3 (some .boolean), Cond.methodLink RX4 49 yX2_bitLength, Cond.instanceMethod yX2_bitLength]
def wsX5_power_r3 : List Cond := [Cond.selects RX2 yX2_bitLength yX2_bitLength, Cond.code yX2_bitLength cX2_bitLength 1 (some .int), Cond.methodLink RX2 19 yX2_spareBits, Cond.instanceMethod yX2_spareBits, Cond.selects RX2 yX2_spareBits yX2_spareBits, Cond.code yX2_spareBits cX2_spareBits 1 (some .int), Cond.methodLink RX2 23 yX2_limb, Cond.instanceMethod yX2_limb, Cond.selects RX2 yX2_limb yX2_limb, Cond.code yX2_limb cX2_limb 2 (some .int), Cond.methodLink RX2 27 yJ6_numberOfLeadingZeros_0f7a4, Cond.static yJ6_numberOfLeadingZeros_0f7a4, Cond.initialized RJ6, Cond.code yJ6_numberOfLeadingZeros_0f7a4 cJ6_numberOfLeadingZeros_0f7a4 2 (some .int), Cond.constant RJ6 264 (65536), Cond.methodLink RX4 53 yX2_takeProduct, Cond.instanceMethod yX2_takeProduct, Cond.selects RX2 yX2_takeProduct yX2_takeProduct, Cond.code yX2_takeProduct cX2_takeProduct 5 none, Cond.methodLink RX2 52 yX2_addRow, Cond.instanceMethod yX2_addRow, Cond.selects RX2 yX2_addRow yX2_addRow, Cond.code yX2_addRow cX2_addRow 10 (some .int), Cond.methodLink RX4 38 yX4_takeSign]
def wsX5_power_r4 : List Cond := [Cond.instanceMethod yX4_takeSign, Cond.selects RX4 yX4_takeSign yX4_takeSign, Cond.code yX4_takeSign cX4_takeSign 2 none, Cond.methodLink RX4 30 yX2_isZero, Cond.instanceMethod yX2_isZero, Cond.selects RX2 yX2_isZero yX2_isZero, Cond.code yX2_isZero cX2_isZero 1 (some .boolean), Cond.methodLink RX5 102 yX2_bitLength, Cond.methodLink RX5 99 yX4_take, Cond.instanceMethod yX4_take, Cond.selects RX4 yX4_take yX4_take, Cond.code yX4_take cX4_take 2 none, Cond.methodLink RX4 18 yX2_take, Cond.instanceMethod yX2_take, Cond.selects RX2 yX2_take yX2_take, Cond.code yX2_take cX2_take 2 none, Cond.methodLink RX2 33 arraycopyName, Cond.native arraycopyName, Cond.static arraycopyName, Cond.initialized "java/lang/System", Cond.methodLink RX5 66 yX5_keepResult, Cond.instanceMethod yX5_keepResult, Cond.selects RX5 yX5_keepResult yX5_keepResult, Cond.code yX5_keepResult cX5_keepResult 3 (some .int)]
def wsX5_power : List Cond := .code yX5_power cX5_power 4 (some .int) :: ((wsX5_power_r1 ++ (wsX5_power_r2 ++ (wsX5_power_r3 ++ wsX5_power_r4))) ++ wsX50 ++ wsX40 ++ wsX20)
def wsX5_compare : List Cond := .code yX5_compare cX5_compare 3 (some .int) :: ([.fieldLink RX5 11 "WholeNumbers" "registers" "[LWholeNumbers$Whole;", .methodLink RX5 46 yX5_isRegister, .static yX5_isRegister, .initialized RX5, .code yX5_isRegister cX5_isRegister 1 (some .boolean), .methodLink RX5 136 yX4_order, .instanceMethod yX4_order, .selects RX4 yX4_order yX4_order, .initialized RX4, .code yX4_order cX4_order 2 (some .int), .fieldLink RX4 22 "WholeNumbers$Whole" "negative" "Z", .fieldLink RX4 12 "WholeNumbers$Whole" "size" "LWholeNumbers$Natural;", .methodLink RX4 42 yX2_order, .instanceMethod yX2_order, .selects RX2 yX2_order yX2_order, .initialized RX2, .code yX2_order cX2_order 3 (some .int), .fieldLink RX2 15 "WholeNumbers$Natural" "count" "I", .fieldLink RX2 9 "WholeNumbers$Natural" "limbs" "[I"] ++ wsX50 ++ wsX40 ++ wsX20)
def wsX5_sign : List Cond := .code yX5_sign cX5_sign 2 (some .int) :: ([.fieldLink RX5 11 "WholeNumbers" "registers" "[LWholeNumbers$Whole;", .methodLink RX5 46 yX5_isRegister, .static yX5_isRegister, .initialized RX5, .code yX5_isRegister cX5_isRegister 1 (some .boolean), .methodLink RX5 140 yX4_direction, .instanceMethod yX4_direction, .selects RX4 yX4_direction yX4_direction, .initialized RX4, .code yX4_direction cX4_direction 1 (some .int), .fieldLink RX4 12 "WholeNumbers$Whole" "size" "LWholeNumbers$Natural;", .fieldLink RX4 22 "WholeNumbers$Whole" "negative" "Z", .methodLink RX4 30 yX2_isZero, .instanceMethod yX2_isZero, .selects RX2 yX2_isZero yX2_isZero, .initialized RX2, .code yX2_isZero cX2_isZero 1 (some .boolean), .fieldLink RX2 15 "WholeNumbers$Natural" "count" "I"] ++ wsX50 ++ wsX40 ++ wsX20)
def wsX5_bits_r1 : List Cond := [Cond.fieldLink RX5 11 "WholeNumbers" "registers" "[LWholeNumbers$Whole;", Cond.fieldLink RX5 74 "WholeNumbers$Whole" "size" "LWholeNumbers$Natural;", Cond.methodLink RX5 46 yX5_isRegister, Cond.static yX5_isRegister, Cond.initialized RX5, Cond.code yX5_isRegister cX5_isRegister 1 (some .boolean), Cond.methodLink RX5 102 yX2_bitLength, Cond.instanceMethod yX2_bitLength, Cond.selects RX2 yX2_bitLength yX2_bitLength, Cond.initialized RX2, Cond.code yX2_bitLength cX2_bitLength 1 (some .int), Cond.fieldLink RX2 15 "WholeNumbers$Natural" "count" "I", Cond.methodLink RX2 19 yX2_spareBits, Cond.instanceMethod yX2_spareBits, Cond.selects RX2 yX2_spareBits yX2_spareBits, Cond.code yX2_spareBits cX2_spareBits 1 (some .int), Cond.methodLink RX2 23 yX2_limb, Cond.instanceMethod yX2_limb, Cond.selects RX2 yX2_limb yX2_limb, Cond.code yX2_limb cX2_limb 2 (some .int), Cond.fieldLink RX2 9 "WholeNumbers$Natural" "limbs" "[I", Cond.methodLink RX2 27 yJ6_numberOfLeadingZeros_0f7a4, Cond.static yJ6_numberOfLeadingZeros_0f7a4, Cond.initialized RJ6]
def wsX5_bits_r2 : List Cond := [Cond.code yJ6_numberOfLeadingZeros_0f7a4 cJ6_numberOfLeadingZeros_0f7a4 2 (some .int), Cond.constant RJ6 264 (65536)]
def wsX5_bits : List Cond := .code yX5_bits cX5_bits 2 (some .int) :: ((wsX5_bits_r1 ++ wsX5_bits_r2) ++ wsX50 ++ wsX40 ++ wsX20)
def wsX5_part : List Cond := .code yX5_part cX5_part 3 (some .int) :: ([.fieldLink RX5 11 "WholeNumbers" "registers" "[LWholeNumbers$Whole;", .fieldLink RX5 74 "WholeNumbers$Whole" "size" "LWholeNumbers$Natural;", .methodLink RX5 46 yX5_isRegister, .static yX5_isRegister, .initialized RX5, .code yX5_isRegister cX5_isRegister 1 (some .boolean), .methodLink RX5 143 yX2_limbFrom, .instanceMethod yX2_limbFrom, .selects RX2 yX2_limbFrom yX2_limbFrom, .initialized RX2, .code yX2_limbFrom cX2_limbFrom 4 (some .int), .constant RX2 32 (1073741823), .methodLink RX2 23 yX2_limb, .instanceMethod yX2_limb, .selects RX2 yX2_limb yX2_limb, .code yX2_limb cX2_limb 2 (some .int), .fieldLink RX2 15 "WholeNumbers$Natural" "count" "I", .fieldLink RX2 9 "WholeNumbers$Natural" "limbs" "[I"] ++ wsX50 ++ wsX40 ++ wsX20)
def wsX5_hasBelow : List Cond := .code yX5_hasBelow cX5_hasBelow 3 (some .boolean) :: ([.fieldLink RX5 11 "WholeNumbers" "registers" "[LWholeNumbers$Whole;", .fieldLink RX5 74 "WholeNumbers$Whole" "size" "LWholeNumbers$Natural;", .methodLink RX5 46 yX5_isRegister, .static yX5_isRegister, .initialized RX5, .code yX5_isRegister cX5_isRegister 1 (some .boolean), .methodLink RX5 146 yX2_anyBitBelow, .instanceMethod yX2_anyBitBelow, .selects RX2 yX2_anyBitBelow yX2_anyBitBelow, .initialized RX2, .code yX2_anyBitBelow cX2_anyBitBelow 4 (some .boolean), .fieldLink RX2 15 "WholeNumbers$Natural" "count" "I", .fieldLink RX2 9 "WholeNumbers$Natural" "limbs" "[I", .methodLink RX2 23 yX2_limb, .instanceMethod yX2_limb, .selects RX2 yX2_limb yX2_limb, .code yX2_limb cX2_limb 2 (some .int)] ++ wsX50 ++ wsX40 ++ wsX20)
def wsX5_fits_r1 : List Cond := [Cond.fieldLink RX5 11 "WholeNumbers" "registers" "[LWholeNumbers$Whole;", Cond.methodLink RX5 46 yX5_isRegister, Cond.static yX5_isRegister, Cond.initialized RX5, Cond.code yX5_isRegister cX5_isRegister 1 (some .boolean), Cond.methodLink RX5 156 yX4_isLong, Cond.instanceMethod yX4_isLong, Cond.selects RX4 yX4_isLong yX4_isLong, Cond.initialized RX4, Cond.code yX4_isLong cX4_isLong 3 (some .boolean), Cond.fieldLink RX4 12 "WholeNumbers$Whole" "size" "LWholeNumbers$Natural;", Cond.fieldLink RX4 22 "WholeNumbers$Whole" "negative" "Z", Cond.methodLink RX4 49 yX2_bitLength, Cond.instanceMethod yX2_bitLength, Cond.selects RX2 yX2_bitLength yX2_bitLength, Cond.initialized RX2, Cond.code yX2_bitLength cX2_bitLength 1 (some .int), Cond.fieldLink RX2 15 "WholeNumbers$Natural" "count" "I", Cond.methodLink RX2 19 yX2_spareBits, Cond.instanceMethod yX2_spareBits, Cond.selects RX2 yX2_spareBits yX2_spareBits, Cond.code yX2_spareBits cX2_spareBits 1 (some .int), Cond.methodLink RX2 23 yX2_limb, Cond.instanceMethod yX2_limb]
def wsX5_fits_r2 : List Cond := [Cond.selects RX2 yX2_limb yX2_limb, Cond.code yX2_limb cX2_limb 2 (some .int), Cond.fieldLink RX2 9 "WholeNumbers$Natural" "limbs" "[I", Cond.methodLink RX2 27 yJ6_numberOfLeadingZeros_0f7a4, Cond.static yJ6_numberOfLeadingZeros_0f7a4, Cond.initialized RJ6, Cond.code yJ6_numberOfLeadingZeros_0f7a4 cJ6_numberOfLeadingZeros_0f7a4 2 (some .int), Cond.constant RJ6 264 (65536), Cond.methodLink RX4 58 yX2_anyBitBelow, Cond.instanceMethod yX2_anyBitBelow, Cond.selects RX2 yX2_anyBitBelow yX2_anyBitBelow, Cond.code yX2_anyBitBelow cX2_anyBitBelow 4 (some .boolean)]
def wsX5_fits : List Cond := .code yX5_fits cX5_fits 2 (some .boolean) :: ((wsX5_fits_r1 ++ wsX5_fits_r2) ++ wsX50 ++ wsX40 ++ wsX20)
def wsX5_low_r1 : List Cond := [Cond.fieldLink RX5 11 "WholeNumbers" "registers" "[LWholeNumbers$Whole;", Cond.methodLink RX5 149 yX5_fits, Cond.instanceMethod yX5_fits, Cond.selects RX5 yX5_fits yX5_fits, Cond.initialized RX5, Cond.code yX5_fits cX5_fits 2 (some .boolean), Cond.methodLink RX5 46 yX5_isRegister, Cond.static yX5_isRegister, Cond.code yX5_isRegister cX5_isRegister 1 (some .boolean), Cond.methodLink RX5 156 yX4_isLong, Cond.instanceMethod yX4_isLong, Cond.selects RX4 yX4_isLong yX4_isLong, Cond.initialized RX4, Cond.code yX4_isLong cX4_isLong 3 (some .boolean), Cond.fieldLink RX4 12 "WholeNumbers$Whole" "size" "LWholeNumbers$Natural;", Cond.fieldLink RX4 22 "WholeNumbers$Whole" "negative" "Z", Cond.methodLink RX4 49 yX2_bitLength, Cond.instanceMethod yX2_bitLength, Cond.selects RX2 yX2_bitLength yX2_bitLength, Cond.initialized RX2, Cond.code yX2_bitLength cX2_bitLength 1 (some .int), Cond.fieldLink RX2 15 "WholeNumbers$Natural" "count" "I", Cond.methodLink RX2 19 yX2_spareBits, Cond.instanceMethod yX2_spareBits]
def wsX5_low_r2 : List Cond := [Cond.selects RX2 yX2_spareBits yX2_spareBits, Cond.code yX2_spareBits cX2_spareBits 1 (some .int), Cond.methodLink RX2 23 yX2_limb, Cond.instanceMethod yX2_limb, Cond.selects RX2 yX2_limb yX2_limb, Cond.code yX2_limb cX2_limb 2 (some .int), Cond.fieldLink RX2 9 "WholeNumbers$Natural" "limbs" "[I", Cond.methodLink RX2 27 yJ6_numberOfLeadingZeros_0f7a4, Cond.static yJ6_numberOfLeadingZeros_0f7a4, Cond.initialized RJ6, Cond.code yJ6_numberOfLeadingZeros_0f7a4 cJ6_numberOfLeadingZeros_0f7a4 2 (some .int), Cond.constant RJ6 264 (65536), Cond.methodLink RX4 58 yX2_anyBitBelow, Cond.instanceMethod yX2_anyBitBelow, Cond.selects RX2 yX2_anyBitBelow yX2_anyBitBelow, Cond.code yX2_anyBitBelow cX2_anyBitBelow 4 (some .boolean), Cond.methodLink RX5 152 yX4_asLong, Cond.instanceMethod yX4_asLong, Cond.selects RX4 yX4_asLong yX4_asLong, Cond.code yX4_asLong cX4_asLong 1 (some .long), Cond.methodLink RX4 62 yX2_lowestLong, Cond.instanceMethod yX2_lowestLong, Cond.selects RX2 yX2_lowestLong yX2_lowestLong, Cond.code yX2_lowestLong cX2_lowestLong 1 (some .long)]
def wsX5_low : List Cond := .code yX5_low cX5_low 2 (some .long) :: ((wsX5_low_r1 ++ wsX5_low_r2) ++ wsX50 ++ wsX40 ++ wsX20)
def wsX5_isBase : List Cond := .code yX5_isBase cX5_isBase 1 (some .boolean) :: ([])
def wsX5_write_r1 : List Cond := [Cond.fieldLink RX5 16 "WholeNumbers" "result" "LWholeNumbers$Whole;", Cond.fieldLink RX5 11 "WholeNumbers" "registers" "[LWholeNumbers$Whole;", Cond.fieldLink RX5 42 "WholeNumbers" "text" "LWholeNumbers$Text;", Cond.fieldLink RX5 166 "WholeNumbers$Text" "length" "I", Cond.methodLink RX5 46 yX5_isRegister, Cond.static yX5_isRegister, Cond.initialized RX5, Cond.code yX5_isRegister cX5_isRegister 1 (some .boolean), Cond.methodLink RX5 159 yX5_isBase, Cond.static yX5_isBase, Cond.code yX5_isBase cX5_isBase 1 (some .boolean), Cond.methodLink RX5 99 yX4_take, Cond.instanceMethod yX4_take, Cond.selects RX4 yX4_take yX4_take, Cond.initialized RX4, Cond.code yX4_take cX4_take 2 none, Cond.fieldLink RX4 12 "WholeNumbers$Whole" "size" "LWholeNumbers$Natural;", Cond.fieldLink RX4 22 "WholeNumbers$Whole" "negative" "Z", Cond.methodLink RX4 18 yX2_take, Cond.instanceMethod yX2_take, Cond.selects RX2 yX2_take yX2_take, Cond.initialized RX2, Cond.code yX2_take cX2_take 2 none, Cond.fieldLink RX2 9 "WholeNumbers$Natural" "limbs" "[I"]
def wsX5_write_r2 : List Cond := [Cond.fieldLink RX2 15 "WholeNumbers$Natural" "count" "I", Cond.methodLink RX2 33 arraycopyName, Cond.native arraycopyName, Cond.static arraycopyName, Cond.initialized "java/lang/System", Cond.methodLink RX5 162 yX3_spell, Cond.instanceMethod yX3_spell, Cond.selects RX3 yX3_spell yX3_spell, Cond.initialized RX3, Cond.code yX3_spell cX3_spell 3 none, Cond.fieldLink RX3 15 "WholeNumbers$Text" "length" "I", Cond.fieldLink RX3 19 "WholeNumbers$Whole" "size" "LWholeNumbers$Natural;", Cond.fieldLink RX3 29 "WholeNumbers$Whole" "negative" "Z", Cond.methodLink RX3 25 yX3_appendDigitsBackwards, Cond.instanceMethod yX3_appendDigitsBackwards, Cond.selects RX3 yX3_appendDigitsBackwards yX3_appendDigitsBackwards, Cond.code yX3_appendDigitsBackwards cX3_appendDigitsBackwards 8 none, Cond.methodLink RX3 40 yX2_isZero, Cond.instanceMethod yX2_isZero, Cond.selects RX2 yX2_isZero yX2_isZero, Cond.code yX2_isZero cX2_isZero 1 (some .boolean), Cond.methodLink RX3 33 yX3_append, Cond.instanceMethod yX3_append, Cond.selects RX3 yX3_append yX3_append]
def wsX5_write_r3 : List Cond := [Cond.code yX3_append cX3_append 2 none, Cond.fieldLink RX3 9 "WholeNumbers$Text" "letters" "[C", Cond.methodLink RX3 46 yX3_digitsInLimb, Cond.static yX3_digitsInLimb, Cond.code yX3_digitsInLimb cX3_digitsInLimb 5 (some .int), Cond.constantLong RX3 96 (1073741823), Cond.methodLink RX3 50 yX3_powerOf, Cond.static yX3_powerOf, Cond.code yX3_powerOf cX3_powerOf 4 (some .int), Cond.methodLink RX3 54 yX2_cutBy, Cond.instanceMethod yX2_cutBy, Cond.selects RX2 yX2_cutBy yX2_cutBy, Cond.code yX2_cutBy cX2_cutBy 7 (some .int), Cond.methodLink RX2 39 yX2_trim, Cond.instanceMethod yX2_trim, Cond.selects RX2 yX2_trim yX2_trim, Cond.code yX2_trim cX2_trim 3 none, Cond.methodLink RX2 43 Lib.Math.min.name, Cond.static Lib.Math.min.name, Cond.initialized "java/lang/Math", Cond.code Lib.Math.min.name Lib.Math.min.code 2 (some .int), Cond.methodLink RX2 49 Lib.Math.max.name, Cond.static Lib.Math.max.name, Cond.code Lib.Math.max.name Lib.Math.max.code 2 (some .int)]
def wsX5_write_r4 : List Cond := [Cond.methodLink RX3 57 yX3_letterOf, Cond.static yX3_letterOf, Cond.code yX3_letterOf cX3_letterOf 1 (some .char), Cond.methodLink RX3 37 yX3_reverse, Cond.instanceMethod yX3_reverse, Cond.selects RX3 yX3_reverse yX3_reverse, Cond.code yX3_reverse cX3_reverse 4 none]
def wsX5_write : List Cond := .code yX5_write cX5_write 3 (some .int) :: ((wsX5_write_r1 ++ (wsX5_write_r2 ++ (wsX5_write_r3 ++ wsX5_write_r4))) ++ wsX50 ++ wsX30 ++ wsX40 ++ wsX20)
def wsX5_type : List Cond := .code yX5_type cX5_type 2 (some .int) :: ([.fieldLink RX5 42 "WholeNumbers" "text" "LWholeNumbers$Text;", .fieldLink RX5 166 "WholeNumbers$Text" "length" "I", .methodLink RX5 170 yX3_append, .instanceMethod yX3_append, .selects RX3 yX3_append yX3_append, .initialized RX3, .code yX3_append cX3_append 2 none, .fieldLink RX3 15 "WholeNumbers$Text" "length" "I", .fieldLink RX3 9 "WholeNumbers$Text" "letters" "[C"] ++ wsX50 ++ wsX30)
def wsX5_clear : List Cond := .code yX5_clear cX5_clear 1 none :: ([.fieldLink RX5 42 "WholeNumbers" "text" "LWholeNumbers$Text;", .fieldLink RX5 166 "WholeNumbers$Text" "length" "I"] ++ wsX50 ++ wsX30)
def wsX5_character : List Cond := .code yX5_character cX5_character 2 (some .int) :: ([.fieldLink RX5 42 "WholeNumbers" "text" "LWholeNumbers$Text;", .fieldLink RX5 166 "WholeNumbers$Text" "length" "I", .fieldLink RX5 174 "WholeNumbers$Text" "letters" "[C"] ++ wsX50 ++ wsX30)
def wsX5_read_r1 : List Cond := [Cond.fieldLink RX5 42 "WholeNumbers" "text" "LWholeNumbers$Text;", Cond.fieldLink RX5 16 "WholeNumbers" "result" "LWholeNumbers$Whole;", Cond.methodLink RX5 46 yX5_isRegister, Cond.static yX5_isRegister, Cond.initialized RX5, Cond.code yX5_isRegister cX5_isRegister 1 (some .boolean), Cond.methodLink RX5 159 yX5_isBase, Cond.static yX5_isBase, Cond.code yX5_isBase cX5_isBase 1 (some .boolean), Cond.methodLink RX5 178 yX3_tellsNumber, Cond.instanceMethod yX3_tellsNumber, Cond.selects RX3 yX3_tellsNumber yX3_tellsNumber, Cond.initialized RX3, Cond.code yX3_tellsNumber cX3_tellsNumber 5 (some .boolean), Cond.fieldLink RX3 15 "WholeNumbers$Text" "length" "I", Cond.fieldLink RX3 9 "WholeNumbers$Text" "letters" "[C", Cond.methodLink RX3 61 yX3_firstDigit, Cond.instanceMethod yX3_firstDigit, Cond.selects RX3 yX3_firstDigit yX3_firstDigit, Cond.code yX3_firstDigit cX3_firstDigit 1 (some .int), Cond.methodLink RX3 65 yX3_digitOf, Cond.static yX3_digitOf, Cond.code yX3_digitOf cX3_digitOf 1 (some .int), Cond.methodLink RX5 181 yX3_tell]
def wsX5_read_r2 : List Cond := [Cond.instanceMethod yX3_tell, Cond.selects RX3 yX3_tell yX3_tell, Cond.code yX3_tell cX3_tell 7 none, Cond.methodLink RX3 73 Lib.Math.max.name, Cond.static Lib.Math.max.name, Cond.initialized "java/lang/Math", Cond.code Lib.Math.max.name Lib.Math.max.code 2 (some .int), Cond.fieldLink RX3 19 "WholeNumbers$Whole" "size" "LWholeNumbers$Natural;", Cond.methodLink RX3 81 Lib.Math.min.name, Cond.static Lib.Math.min.name, Cond.code Lib.Math.min.name Lib.Math.min.code 2 (some .int), Cond.methodLink RX3 69 yX4_takeLong, Cond.instanceMethod yX4_takeLong, Cond.selects RX4 yX4_takeLong yX4_takeLong, Cond.initialized RX4, Cond.code yX4_takeLong cX4_takeLong 3 none, Cond.fieldLink RX4 12 "WholeNumbers$Whole" "size" "LWholeNumbers$Natural;", Cond.fieldLink RX4 22 "WholeNumbers$Whole" "negative" "Z", Cond.methodLink RX4 26 yX2_takeUnsigned, Cond.instanceMethod yX2_takeUnsigned, Cond.selects RX2 yX2_takeUnsigned yX2_takeUnsigned, Cond.initialized RX2, Cond.code yX2_takeUnsigned cX2_takeUnsigned 3 none, Cond.fieldLink RX2 9 "WholeNumbers$Natural" "limbs" "[I"]
def wsX5_read_r3 : List Cond := [Cond.constant RX2 32 (1073741823), Cond.methodLink RX2 39 yX2_trim, Cond.instanceMethod yX2_trim, Cond.selects RX2 yX2_trim yX2_trim, Cond.code yX2_trim cX2_trim 3 none, Cond.methodLink RX2 43 Lib.Math.min.name, Cond.methodLink RX2 49 Lib.Math.max.name, Cond.fieldLink RX2 15 "WholeNumbers$Natural" "count" "I", Cond.methodLink RX3 46 yX3_digitsInLimb, Cond.static yX3_digitsInLimb, Cond.code yX3_digitsInLimb cX3_digitsInLimb 5 (some .int), Cond.constantLong RX3 96 (1073741823), Cond.methodLink RX3 78 yX2_bitLength, Cond.instanceMethod yX2_bitLength, Cond.selects RX2 yX2_bitLength yX2_bitLength, Cond.code yX2_bitLength cX2_bitLength 1 (some .int), Cond.methodLink RX2 19 yX2_spareBits, Cond.instanceMethod yX2_spareBits, Cond.selects RX2 yX2_spareBits yX2_spareBits, Cond.code yX2_spareBits cX2_spareBits 1 (some .int), Cond.methodLink RX2 23 yX2_limb, Cond.instanceMethod yX2_limb, Cond.selects RX2 yX2_limb yX2_limb, Cond.code yX2_limb cX2_limb 2 (some .int)]
def wsX5_read_r4 : List Cond := [Cond.methodLink RX2 27 yJ6_numberOfLeadingZeros_0f7a4, Cond.static yJ6_numberOfLeadingZeros_0f7a4, Cond.initialized RJ6, Cond.code yJ6_numberOfLeadingZeros_0f7a4 cJ6_numberOfLeadingZeros_0f7a4 2 (some .int), Cond.constant RJ6 264 (65536), Cond.methodLink RX3 50 yX3_powerOf, Cond.static yX3_powerOf, Cond.code yX3_powerOf cX3_powerOf 4 (some .int), Cond.methodLink RX3 84 yX3_pieceBetween, Cond.instanceMethod yX3_pieceBetween, Cond.selects RX3 yX3_pieceBetween yX3_pieceBetween, Cond.code yX3_pieceBetween cX3_pieceBetween 6 (some .int), Cond.methodLink RX3 88 yX2_timesPlus, Cond.instanceMethod yX2_timesPlus, Cond.selects RX2 yX2_timesPlus yX2_timesPlus, Cond.code yX2_timesPlus cX2_timesPlus 8 none, Cond.methodLink RX3 92 yX4_takeSign, Cond.instanceMethod yX4_takeSign, Cond.selects RX4 yX4_takeSign yX4_takeSign, Cond.code yX4_takeSign cX4_takeSign 2 none, Cond.methodLink RX4 30 yX2_isZero, Cond.instanceMethod yX2_isZero, Cond.selects RX2 yX2_isZero yX2_isZero, Cond.code yX2_isZero cX2_isZero 1 (some .boolean)]
def wsX5_read_r5 : List Cond := [Cond.methodLink RX5 66 yX5_keepResult, Cond.instanceMethod yX5_keepResult, Cond.selects RX5 yX5_keepResult yX5_keepResult, Cond.code yX5_keepResult cX5_keepResult 3 (some .int), Cond.fieldLink RX5 74 "WholeNumbers$Whole" "size" "LWholeNumbers$Natural;", Cond.fieldLink RX5 11 "WholeNumbers" "registers" "[LWholeNumbers$Whole;", Cond.methodLink RX5 102 yX2_bitLength, Cond.methodLink RX5 99 yX4_take, Cond.instanceMethod yX4_take, Cond.selects RX4 yX4_take yX4_take, Cond.code yX4_take cX4_take 2 none, Cond.methodLink RX4 18 yX2_take, Cond.instanceMethod yX2_take, Cond.selects RX2 yX2_take yX2_take, Cond.code yX2_take cX2_take 2 none, Cond.methodLink RX2 33 arraycopyName, Cond.native arraycopyName, Cond.static arraycopyName, Cond.initialized "java/lang/System"]
def wsX5_read : List Cond := .code yX5_read cX5_read 3 (some .int) :: ((wsX5_read_r1 ++ (wsX5_read_r2 ++ (wsX5_read_r3 ++ (wsX5_read_r4 ++ wsX5_read_r5)))) ++ wsX50 ++ wsX30 ++ wsX40 ++ wsX20)
def wsX6_scaled : List Cond := .code yX6_scaled cX6_scaled 7 (some .int) :: ([])
def wsX6_twice : List Cond := .code yX6_twice cX6_twice 2 (some .int) :: ([.methodLink RX6 48 yX6_scaled, .static yX6_scaled, .initialized RX6, .code yX6_scaled cX6_scaled 7 (some .int)])
def wsX6_init : List Cond := .code yX6_init cX6_init 2 none :: ([.methodLink RX6 1 objectInit, .instanceMethod objectInit, .code objectInit ⟨#[0xb1]⟩ 1 none, .arrayClass .int, .fieldLink RX6 7 "WholeNumbersModel" "digits" "[I", .fieldLink RX6 13 "WholeNumbersModel" "length" "[I", .fieldLink RX6 16 "WholeNumbersModel" "sign" "[I", .fieldLink RX6 19 "WholeNumbersModel" "limit" "[I", .fieldLink RX6 22 "WholeNumbersModel" "x" "[I", .fieldLink RX6 25 "WholeNumbersModel" "y" "[I", .fieldLink RX6 28 "WholeNumbersModel" "z" "[I", .fieldLink RX6 31 "WholeNumbersModel" "text" "[I", .fieldLink RX6 34 "WholeNumbersModel" "xn" "I", .fieldLink RX6 42 "WholeNumbersModel" "limitLength" "I", .methodLink RX6 38 yX6_twice, .static yX6_twice, .initialized RX6, .code yX6_twice cX6_twice 2 (some .int), .methodLink RX6 48 yX6_scaled, .static yX6_scaled, .code yX6_scaled cX6_scaled 7 (some .int)] ++ wsX60)
def wsX6_thrown : List Cond := .code yX6_thrown cX6_thrown 1 (some .int) :: ([.fieldLink RX6 45 "WholeNumbersModel" "thrown" "I"] ++ wsX60)
def wsX6_isRegister : List Cond := .code yX6_isRegister cX6_isRegister 1 (some .boolean) :: ([])
def wsX6_shortened : List Cond := .code yX6_shortened cX6_shortened 3 (some .int) :: ([])
def wsX6_compareRows : List Cond := .code yX6_compareRows cX6_compareRows 5 (some .int) :: ([])
def wsX6_half : List Cond := .code yX6_half cX6_half 5 (some .int) :: ([.methodLink RX6 52 yX6_shortened, .static yX6_shortened, .initialized RX6, .code yX6_shortened cX6_shortened 3 (some .int)])
def wsX6_added : List Cond := .code yX6_added cX6_added 7 (some .int) :: ([])
def wsX6_taken : List Cond := .code yX6_taken cX6_taken 7 (some .int) :: ([.methodLink RX6 52 yX6_shortened, .static yX6_shortened, .initialized RX6, .code yX6_shortened cX6_shortened 3 (some .int)])
def wsX6_isOdd : List Cond := .code yX6_isOdd cX6_isOdd 2 (some .boolean) :: ([])
def wsX6_toX : List Cond := .code yX6_toX cX6_toX 3 none :: ([.fieldLink RX6 13 "WholeNumbersModel" "length" "[I", .fieldLink RX6 34 "WholeNumbersModel" "xn" "I", .fieldLink RX6 22 "WholeNumbersModel" "x" "[I", .fieldLink RX6 7 "WholeNumbersModel" "digits" "[I"] ++ wsX60)
def wsX6_toY : List Cond := .code yX6_toY cX6_toY 3 none :: ([.fieldLink RX6 13 "WholeNumbersModel" "length" "[I", .fieldLink RX6 55 "WholeNumbersModel" "yn" "I", .fieldLink RX6 25 "WholeNumbersModel" "y" "[I", .fieldLink RX6 7 "WholeNumbersModel" "digits" "[I"] ++ wsX60)
def wsX6_isWithin : List Cond := .code yX6_isWithin cX6_isWithin 3 (some .boolean) :: ([.fieldLink RX6 19 "WholeNumbersModel" "limit" "[I", .fieldLink RX6 42 "WholeNumbersModel" "limitLength" "I", .methodLink RX6 58 yX6_compareRows, .static yX6_compareRows, .initialized RX6, .code yX6_compareRows cX6_compareRows 5 (some .int)] ++ wsX60)
def wsX6_bitsOf : List Cond := .code yX6_bitsOf cX6_bitsOf 3 (some .int) :: ([.fieldLink RX6 34 "WholeNumbersModel" "xn" "I", .fieldLink RX6 22 "WholeNumbersModel" "x" "[I", .methodLink RX6 70 yX6_toX, .instanceMethod yX6_toX, .selects RX6 yX6_toX yX6_toX, .initialized RX6, .code yX6_toX cX6_toX 3 none, .fieldLink RX6 13 "WholeNumbersModel" "length" "[I", .fieldLink RX6 7 "WholeNumbersModel" "digits" "[I", .methodLink RX6 74 yX6_half, .static yX6_half, .code yX6_half cX6_half 5 (some .int), .methodLink RX6 52 yX6_shortened, .static yX6_shortened, .code yX6_shortened cX6_shortened 3 (some .int)] ++ wsX60)
def wsX6_put_r1 : List Cond := [Cond.fieldLink RX6 13 "WholeNumbersModel" "length" "[I", Cond.fieldLink RX6 16 "WholeNumbersModel" "sign" "[I", Cond.fieldLink RX6 7 "WholeNumbersModel" "digits" "[I", Cond.methodLink RX6 62 yX6_isWithin, Cond.instanceMethod yX6_isWithin, Cond.selects RX6 yX6_isWithin yX6_isWithin, Cond.initialized RX6, Cond.code yX6_isWithin cX6_isWithin 3 (some .boolean), Cond.fieldLink RX6 19 "WholeNumbersModel" "limit" "[I", Cond.fieldLink RX6 42 "WholeNumbersModel" "limitLength" "I", Cond.methodLink RX6 58 yX6_compareRows, Cond.static yX6_compareRows, Cond.code yX6_compareRows cX6_compareRows 5 (some .int), Cond.methodLink RX6 66 yX6_bitsOf, Cond.instanceMethod yX6_bitsOf, Cond.selects RX6 yX6_bitsOf yX6_bitsOf, Cond.code yX6_bitsOf cX6_bitsOf 3 (some .int), Cond.fieldLink RX6 34 "WholeNumbersModel" "xn" "I", Cond.fieldLink RX6 22 "WholeNumbersModel" "x" "[I", Cond.methodLink RX6 70 yX6_toX, Cond.instanceMethod yX6_toX, Cond.selects RX6 yX6_toX yX6_toX, Cond.code yX6_toX cX6_toX 3 none, Cond.methodLink RX6 74 yX6_half]
def wsX6_put_r2 : List Cond := [Cond.static yX6_half, Cond.code yX6_half cX6_half 5 (some .int), Cond.methodLink RX6 52 yX6_shortened, Cond.static yX6_shortened, Cond.code yX6_shortened cX6_shortened 3 (some .int)]
def wsX6_put : List Cond := .code yX6_put cX6_put 6 (some .int) :: ((wsX6_put_r1 ++ wsX6_put_r2) ++ wsX60)
def wsX6_load : List Cond := .code yX6_load cX6_load 9 (some .boolean) :: ([.fieldLink RX6 45 "WholeNumbersModel" "thrown" "I", .constantLong RX6 81 (10000), .fieldLink RX6 7 "WholeNumbersModel" "digits" "[I", .fieldLink RX6 13 "WholeNumbersModel" "length" "[I", .fieldLink RX6 16 "WholeNumbersModel" "sign" "[I", .methodLink RX6 77 yX6_isRegister, .static yX6_isRegister, .initialized RX6, .code yX6_isRegister cX6_isRegister 1 (some .boolean)] ++ wsX60)
def wsX6_sum : List Cond := .code yX6_sum cX6_sum 4 (some .int) :: ([.fieldLink RX6 22 "WholeNumbersModel" "x" "[I", .fieldLink RX6 34 "WholeNumbersModel" "xn" "I", .fieldLink RX6 25 "WholeNumbersModel" "y" "[I", .fieldLink RX6 55 "WholeNumbersModel" "yn" "I", .methodLink RX6 83 yX6_added, .static yX6_added, .initialized RX6, .code yX6_added cX6_added 7 (some .int), .methodLink RX6 58 yX6_compareRows, .static yX6_compareRows, .code yX6_compareRows cX6_compareRows 5 (some .int), .methodLink RX6 86 yX6_taken, .static yX6_taken, .code yX6_taken cX6_taken 7 (some .int), .methodLink RX6 52 yX6_shortened, .static yX6_shortened, .code yX6_shortened cX6_shortened 3 (some .int)] ++ wsX60)
def wsX6_multiply : List Cond := .code yX6_multiply cX6_multiply 5 none :: ([.fieldLink RX6 34 "WholeNumbersModel" "xn" "I", .fieldLink RX6 55 "WholeNumbersModel" "yn" "I", .fieldLink RX6 28 "WholeNumbersModel" "z" "[I", .fieldLink RX6 22 "WholeNumbersModel" "x" "[I", .fieldLink RX6 25 "WholeNumbersModel" "y" "[I", .fieldLink RX6 89 "WholeNumbersModel" "zn" "I", .methodLink RX6 52 yX6_shortened, .static yX6_shortened, .initialized RX6, .code yX6_shortened cX6_shortened 3 (some .int)] ++ wsX60)
def wsX6_reckon_r1 : List Cond := [Cond.fieldLink RX6 45 "WholeNumbersModel" "thrown" "I", Cond.fieldLink RX6 28 "WholeNumbersModel" "z" "[I", Cond.fieldLink RX6 89 "WholeNumbersModel" "zn" "I", Cond.fieldLink RX6 16 "WholeNumbersModel" "sign" "[I", Cond.fieldLink RX6 22 "WholeNumbersModel" "x" "[I", Cond.fieldLink RX6 34 "WholeNumbersModel" "xn" "I", Cond.methodLink RX6 77 yX6_isRegister, Cond.static yX6_isRegister, Cond.initialized RX6, Cond.code yX6_isRegister cX6_isRegister 1 (some .boolean), Cond.methodLink RX6 70 yX6_toX, Cond.instanceMethod yX6_toX, Cond.selects RX6 yX6_toX yX6_toX, Cond.code yX6_toX cX6_toX 3 none, Cond.fieldLink RX6 13 "WholeNumbersModel" "length" "[I", Cond.fieldLink RX6 7 "WholeNumbersModel" "digits" "[I", Cond.methodLink RX6 92 yX6_toY, Cond.instanceMethod yX6_toY, Cond.selects RX6 yX6_toY yX6_toY, Cond.code yX6_toY cX6_toY 3 none, Cond.fieldLink RX6 55 "WholeNumbersModel" "yn" "I", Cond.fieldLink RX6 25 "WholeNumbersModel" "y" "[I", Cond.methodLink RX6 95 yX6_multiply, Cond.instanceMethod yX6_multiply]
def wsX6_reckon_r2 : List Cond := [Cond.selects RX6 yX6_multiply yX6_multiply, Cond.code yX6_multiply cX6_multiply 5 none, Cond.methodLink RX6 52 yX6_shortened, Cond.static yX6_shortened, Cond.code yX6_shortened cX6_shortened 3 (some .int), Cond.methodLink RX6 98 yX6_put, Cond.instanceMethod yX6_put, Cond.selects RX6 yX6_put yX6_put, Cond.code yX6_put cX6_put 6 (some .int), Cond.methodLink RX6 62 yX6_isWithin, Cond.instanceMethod yX6_isWithin, Cond.selects RX6 yX6_isWithin yX6_isWithin, Cond.code yX6_isWithin cX6_isWithin 3 (some .boolean), Cond.fieldLink RX6 19 "WholeNumbersModel" "limit" "[I", Cond.fieldLink RX6 42 "WholeNumbersModel" "limitLength" "I", Cond.methodLink RX6 58 yX6_compareRows, Cond.static yX6_compareRows, Cond.code yX6_compareRows cX6_compareRows 5 (some .int), Cond.methodLink RX6 66 yX6_bitsOf, Cond.instanceMethod yX6_bitsOf, Cond.selects RX6 yX6_bitsOf yX6_bitsOf, Cond.code yX6_bitsOf cX6_bitsOf 3 (some .int), Cond.methodLink RX6 74 yX6_half, Cond.static yX6_half]
def wsX6_reckon_r3 : List Cond := [Cond.code yX6_half cX6_half 5 (some .int), Cond.methodLink RX6 102 yX6_sum, Cond.instanceMethod yX6_sum, Cond.selects RX6 yX6_sum yX6_sum, Cond.code yX6_sum cX6_sum 4 (some .int), Cond.methodLink RX6 83 yX6_added, Cond.static yX6_added, Cond.code yX6_added cX6_added 7 (some .int), Cond.methodLink RX6 86 yX6_taken, Cond.static yX6_taken, Cond.code yX6_taken cX6_taken 7 (some .int)]
def wsX6_reckon : List Cond := .code yX6_reckon cX6_reckon 6 (some .int) :: ((wsX6_reckon_r1 ++ (wsX6_reckon_r2 ++ wsX6_reckon_r3)) ++ wsX60)
def wsX6_split_r1 : List Cond := [Cond.fieldLink RX6 25 "WholeNumbersModel" "y" "[I", Cond.fieldLink RX6 55 "WholeNumbersModel" "yn" "I", Cond.fieldLink RX6 22 "WholeNumbersModel" "x" "[I", Cond.fieldLink RX6 34 "WholeNumbersModel" "xn" "I", Cond.fieldLink RX6 89 "WholeNumbersModel" "zn" "I", Cond.fieldLink RX6 28 "WholeNumbersModel" "z" "[I", Cond.methodLink RX6 58 yX6_compareRows, Cond.static yX6_compareRows, Cond.initialized RX6, Cond.code yX6_compareRows cX6_compareRows 5 (some .int), Cond.methodLink RX6 38 yX6_twice, Cond.static yX6_twice, Cond.code yX6_twice cX6_twice 2 (some .int), Cond.methodLink RX6 48 yX6_scaled, Cond.static yX6_scaled, Cond.code yX6_scaled cX6_scaled 7 (some .int), Cond.methodLink RX6 74 yX6_half, Cond.static yX6_half, Cond.code yX6_half cX6_half 5 (some .int), Cond.methodLink RX6 52 yX6_shortened, Cond.static yX6_shortened, Cond.code yX6_shortened cX6_shortened 3 (some .int), Cond.methodLink RX6 86 yX6_taken, Cond.static yX6_taken]
def wsX6_split_r2 : List Cond := [Cond.code yX6_taken cX6_taken 7 (some .int)]
def wsX6_split : List Cond := .code yX6_split cX6_split 3 none :: ((wsX6_split_r1 ++ wsX6_split_r2) ++ wsX60)
def wsX6_divide_r1 : List Cond := [Cond.fieldLink RX6 45 "WholeNumbersModel" "thrown" "I", Cond.fieldLink RX6 16 "WholeNumbersModel" "sign" "[I", Cond.fieldLink RX6 34 "WholeNumbersModel" "xn" "I", Cond.fieldLink RX6 28 "WholeNumbersModel" "z" "[I", Cond.fieldLink RX6 89 "WholeNumbersModel" "zn" "I", Cond.fieldLink RX6 25 "WholeNumbersModel" "y" "[I", Cond.fieldLink RX6 22 "WholeNumbersModel" "x" "[I", Cond.fieldLink RX6 55 "WholeNumbersModel" "yn" "I", Cond.methodLink RX6 77 yX6_isRegister, Cond.static yX6_isRegister, Cond.initialized RX6, Cond.code yX6_isRegister cX6_isRegister 1 (some .boolean), Cond.methodLink RX6 70 yX6_toX, Cond.instanceMethod yX6_toX, Cond.selects RX6 yX6_toX yX6_toX, Cond.code yX6_toX cX6_toX 3 none, Cond.fieldLink RX6 13 "WholeNumbersModel" "length" "[I", Cond.fieldLink RX6 7 "WholeNumbersModel" "digits" "[I", Cond.methodLink RX6 92 yX6_toY, Cond.instanceMethod yX6_toY, Cond.selects RX6 yX6_toY yX6_toY, Cond.code yX6_toY cX6_toY 3 none, Cond.methodLink RX6 106 yX6_split, Cond.instanceMethod yX6_split]
def wsX6_divide_r2 : List Cond := [Cond.selects RX6 yX6_split yX6_split, Cond.code yX6_split cX6_split 3 none, Cond.methodLink RX6 58 yX6_compareRows, Cond.static yX6_compareRows, Cond.code yX6_compareRows cX6_compareRows 5 (some .int), Cond.methodLink RX6 38 yX6_twice, Cond.static yX6_twice, Cond.code yX6_twice cX6_twice 2 (some .int), Cond.methodLink RX6 48 yX6_scaled, Cond.static yX6_scaled, Cond.code yX6_scaled cX6_scaled 7 (some .int), Cond.methodLink RX6 74 yX6_half, Cond.static yX6_half, Cond.code yX6_half cX6_half 5 (some .int), Cond.methodLink RX6 52 yX6_shortened, Cond.static yX6_shortened, Cond.code yX6_shortened cX6_shortened 3 (some .int), Cond.methodLink RX6 86 yX6_taken, Cond.static yX6_taken, Cond.code yX6_taken cX6_taken 7 (some .int), Cond.methodLink RX6 98 yX6_put, Cond.instanceMethod yX6_put, Cond.selects RX6 yX6_put yX6_put, Cond.code yX6_put cX6_put 6 (some .int)]
def wsX6_divide_r3 : List Cond := [Cond.methodLink RX6 62 yX6_isWithin, Cond.instanceMethod yX6_isWithin, Cond.selects RX6 yX6_isWithin yX6_isWithin, Cond.code yX6_isWithin cX6_isWithin 3 (some .boolean), Cond.fieldLink RX6 19 "WholeNumbersModel" "limit" "[I", Cond.fieldLink RX6 42 "WholeNumbersModel" "limitLength" "I", Cond.methodLink RX6 66 yX6_bitsOf, Cond.instanceMethod yX6_bitsOf, Cond.selects RX6 yX6_bitsOf yX6_bitsOf, Cond.code yX6_bitsOf cX6_bitsOf 3 (some .int)]
def wsX6_divide : List Cond := .code yX6_divide cX6_divide 10 (some .int) :: ((wsX6_divide_r1 ++ (wsX6_divide_r2 ++ wsX6_divide_r3)) ++ wsX60)
def wsX6_gcd_r1 : List Cond := [Cond.fieldLink RX6 45 "WholeNumbersModel" "thrown" "I", Cond.fieldLink RX6 34 "WholeNumbersModel" "xn" "I", Cond.fieldLink RX6 55 "WholeNumbersModel" "yn" "I", Cond.fieldLink RX6 25 "WholeNumbersModel" "y" "[I", Cond.fieldLink RX6 22 "WholeNumbersModel" "x" "[I", Cond.methodLink RX6 77 yX6_isRegister, Cond.static yX6_isRegister, Cond.initialized RX6, Cond.code yX6_isRegister cX6_isRegister 1 (some .boolean), Cond.methodLink RX6 70 yX6_toX, Cond.instanceMethod yX6_toX, Cond.selects RX6 yX6_toX yX6_toX, Cond.code yX6_toX cX6_toX 3 none, Cond.fieldLink RX6 13 "WholeNumbersModel" "length" "[I", Cond.fieldLink RX6 7 "WholeNumbersModel" "digits" "[I", Cond.methodLink RX6 92 yX6_toY, Cond.instanceMethod yX6_toY, Cond.selects RX6 yX6_toY yX6_toY, Cond.code yX6_toY cX6_toY 3 none, Cond.methodLink RX6 98 yX6_put, Cond.instanceMethod yX6_put, Cond.selects RX6 yX6_put yX6_put, Cond.code yX6_put cX6_put 6 (some .int), Cond.fieldLink RX6 16 "WholeNumbersModel" "sign" "[I"]
def wsX6_gcd_r2 : List Cond := [Cond.methodLink RX6 62 yX6_isWithin, Cond.instanceMethod yX6_isWithin, Cond.selects RX6 yX6_isWithin yX6_isWithin, Cond.code yX6_isWithin cX6_isWithin 3 (some .boolean), Cond.fieldLink RX6 19 "WholeNumbersModel" "limit" "[I", Cond.fieldLink RX6 42 "WholeNumbersModel" "limitLength" "I", Cond.methodLink RX6 58 yX6_compareRows, Cond.static yX6_compareRows, Cond.code yX6_compareRows cX6_compareRows 5 (some .int), Cond.methodLink RX6 66 yX6_bitsOf, Cond.instanceMethod yX6_bitsOf, Cond.selects RX6 yX6_bitsOf yX6_bitsOf, Cond.code yX6_bitsOf cX6_bitsOf 3 (some .int), Cond.methodLink RX6 74 yX6_half, Cond.static yX6_half, Cond.code yX6_half cX6_half 5 (some .int), Cond.methodLink RX6 52 yX6_shortened, Cond.static yX6_shortened, Cond.code yX6_shortened cX6_shortened 3 (some .int), Cond.methodLink RX6 109 yX6_isOdd, Cond.static yX6_isOdd, Cond.code yX6_isOdd cX6_isOdd 2 (some .boolean), Cond.methodLink RX6 86 yX6_taken, Cond.static yX6_taken]
def wsX6_gcd_r3 : List Cond := [Cond.code yX6_taken cX6_taken 7 (some .int), Cond.methodLink RX6 38 yX6_twice, Cond.static yX6_twice, Cond.code yX6_twice cX6_twice 2 (some .int), Cond.methodLink RX6 48 yX6_scaled, Cond.static yX6_scaled, Cond.code yX6_scaled cX6_scaled 7 (some .int)]
def wsX6_gcd : List Cond := .code yX6_gcd cX6_gcd 6 (some .int) :: ((wsX6_gcd_r1 ++ (wsX6_gcd_r2 ++ wsX6_gcd_r3)) ++ wsX60)
def wsX6_isOne : List Cond := .code yX6_isOne cX6_isOne 1 (some .boolean) :: ([.fieldLink RX6 55 "WholeNumbersModel" "yn" "I", .fieldLink RX6 25 "WholeNumbersModel" "y" "[I"] ++ wsX60)
def wsX6_root_r1 : List Cond := [Cond.fieldLink RX6 45 "WholeNumbersModel" "thrown" "I", Cond.fieldLink RX6 16 "WholeNumbersModel" "sign" "[I", Cond.fieldLink RX6 25 "WholeNumbersModel" "y" "[I", Cond.fieldLink RX6 55 "WholeNumbersModel" "yn" "I", Cond.fieldLink RX6 22 "WholeNumbersModel" "x" "[I", Cond.fieldLink RX6 34 "WholeNumbersModel" "xn" "I", Cond.fieldLink RX6 89 "WholeNumbersModel" "zn" "I", Cond.fieldLink RX6 28 "WholeNumbersModel" "z" "[I", Cond.methodLink RX6 77 yX6_isRegister, Cond.static yX6_isRegister, Cond.initialized RX6, Cond.code yX6_isRegister cX6_isRegister 1 (some .boolean), Cond.methodLink RX6 70 yX6_toX, Cond.instanceMethod yX6_toX, Cond.selects RX6 yX6_toX yX6_toX, Cond.code yX6_toX cX6_toX 3 none, Cond.fieldLink RX6 13 "WholeNumbersModel" "length" "[I", Cond.fieldLink RX6 7 "WholeNumbersModel" "digits" "[I", Cond.methodLink RX6 58 yX6_compareRows, Cond.static yX6_compareRows, Cond.code yX6_compareRows cX6_compareRows 5 (some .int), Cond.methodLink RX6 48 yX6_scaled, Cond.static yX6_scaled, Cond.code yX6_scaled cX6_scaled 7 (some .int)]
def wsX6_root_r2 : List Cond := [Cond.methodLink RX6 112 yX6_isOne, Cond.instanceMethod yX6_isOne, Cond.selects RX6 yX6_isOne yX6_isOne, Cond.code yX6_isOne cX6_isOne 1 (some .boolean), Cond.methodLink RX6 74 yX6_half, Cond.static yX6_half, Cond.code yX6_half cX6_half 5 (some .int), Cond.methodLink RX6 52 yX6_shortened, Cond.static yX6_shortened, Cond.code yX6_shortened cX6_shortened 3 (some .int), Cond.methodLink RX6 83 yX6_added, Cond.static yX6_added, Cond.code yX6_added cX6_added 7 (some .int), Cond.methodLink RX6 86 yX6_taken, Cond.static yX6_taken, Cond.code yX6_taken cX6_taken 7 (some .int), Cond.methodLink RX6 98 yX6_put, Cond.instanceMethod yX6_put, Cond.selects RX6 yX6_put yX6_put, Cond.code yX6_put cX6_put 6 (some .int), Cond.methodLink RX6 62 yX6_isWithin, Cond.instanceMethod yX6_isWithin, Cond.selects RX6 yX6_isWithin yX6_isWithin, Cond.code yX6_isWithin cX6_isWithin 3 (some .boolean)]
def wsX6_root_r3 : List Cond := [Cond.fieldLink RX6 19 "WholeNumbersModel" "limit" "[I", Cond.fieldLink RX6 42 "WholeNumbersModel" "limitLength" "I", Cond.methodLink RX6 66 yX6_bitsOf, Cond.instanceMethod yX6_bitsOf, Cond.selects RX6 yX6_bitsOf yX6_bitsOf, Cond.code yX6_bitsOf cX6_bitsOf 3 (some .int)]
def wsX6_root : List Cond := .code yX6_root cX6_root 3 (some .int) :: ((wsX6_root_r1 ++ (wsX6_root_r2 ++ wsX6_root_r3)) ++ wsX60)
def wsX6_shift_r1 : List Cond := [Cond.fieldLink RX6 45 "WholeNumbersModel" "thrown" "I", Cond.fieldLink RX6 22 "WholeNumbersModel" "x" "[I", Cond.fieldLink RX6 34 "WholeNumbersModel" "xn" "I", Cond.fieldLink RX6 25 "WholeNumbersModel" "y" "[I", Cond.fieldLink RX6 16 "WholeNumbersModel" "sign" "[I", Cond.methodLink RX6 77 yX6_isRegister, Cond.static yX6_isRegister, Cond.initialized RX6, Cond.code yX6_isRegister cX6_isRegister 1 (some .boolean), Cond.methodLink RX6 70 yX6_toX, Cond.instanceMethod yX6_toX, Cond.selects RX6 yX6_toX yX6_toX, Cond.code yX6_toX cX6_toX 3 none, Cond.fieldLink RX6 13 "WholeNumbersModel" "length" "[I", Cond.fieldLink RX6 7 "WholeNumbersModel" "digits" "[I", Cond.methodLink RX6 38 yX6_twice, Cond.static yX6_twice, Cond.code yX6_twice cX6_twice 2 (some .int), Cond.methodLink RX6 48 yX6_scaled, Cond.static yX6_scaled, Cond.code yX6_scaled cX6_scaled 7 (some .int), Cond.methodLink RX6 62 yX6_isWithin, Cond.instanceMethod yX6_isWithin, Cond.selects RX6 yX6_isWithin yX6_isWithin]
def wsX6_shift_r2 : List Cond := [Cond.code yX6_isWithin cX6_isWithin 3 (some .boolean), Cond.fieldLink RX6 19 "WholeNumbersModel" "limit" "[I", Cond.fieldLink RX6 42 "WholeNumbersModel" "limitLength" "I", Cond.methodLink RX6 58 yX6_compareRows, Cond.static yX6_compareRows, Cond.code yX6_compareRows cX6_compareRows 5 (some .int), Cond.methodLink RX6 74 yX6_half, Cond.static yX6_half, Cond.code yX6_half cX6_half 5 (some .int), Cond.methodLink RX6 52 yX6_shortened, Cond.static yX6_shortened, Cond.code yX6_shortened cX6_shortened 3 (some .int), Cond.methodLink RX6 98 yX6_put, Cond.instanceMethod yX6_put, Cond.selects RX6 yX6_put yX6_put, Cond.code yX6_put cX6_put 6 (some .int), Cond.methodLink RX6 66 yX6_bitsOf, Cond.instanceMethod yX6_bitsOf, Cond.selects RX6 yX6_bitsOf yX6_bitsOf, Cond.code yX6_bitsOf cX6_bitsOf 3 (some .int)]
def wsX6_shift : List Cond := .code yX6_shift cX6_shift 5 (some .int) :: ((wsX6_shift_r1 ++ wsX6_shift_r2) ++ wsX60)
def wsX6_power_r1 : List Cond := [Cond.fieldLink RX6 45 "WholeNumbersModel" "thrown" "I", Cond.fieldLink RX6 28 "WholeNumbersModel" "z" "[I", Cond.fieldLink RX6 89 "WholeNumbersModel" "zn" "I", Cond.fieldLink RX6 34 "WholeNumbersModel" "xn" "I", Cond.fieldLink RX6 22 "WholeNumbersModel" "x" "[I", Cond.fieldLink RX6 16 "WholeNumbersModel" "sign" "[I", Cond.methodLink RX6 77 yX6_isRegister, Cond.static yX6_isRegister, Cond.initialized RX6, Cond.code yX6_isRegister cX6_isRegister 1 (some .boolean), Cond.methodLink RX6 92 yX6_toY, Cond.instanceMethod yX6_toY, Cond.selects RX6 yX6_toY yX6_toY, Cond.code yX6_toY cX6_toY 3 none, Cond.fieldLink RX6 13 "WholeNumbersModel" "length" "[I", Cond.fieldLink RX6 55 "WholeNumbersModel" "yn" "I", Cond.fieldLink RX6 25 "WholeNumbersModel" "y" "[I", Cond.fieldLink RX6 7 "WholeNumbersModel" "digits" "[I", Cond.methodLink RX6 95 yX6_multiply, Cond.instanceMethod yX6_multiply, Cond.selects RX6 yX6_multiply yX6_multiply, Cond.code yX6_multiply cX6_multiply 5 none, Cond.methodLink RX6 52 yX6_shortened, Cond.static yX6_shortened]
def wsX6_power_r2 : List Cond := [Cond.code yX6_shortened cX6_shortened 3 (some .int), Cond.methodLink RX6 62 yX6_isWithin, Cond.instanceMethod yX6_isWithin, Cond.selects RX6 yX6_isWithin yX6_isWithin, Cond.code yX6_isWithin cX6_isWithin 3 (some .boolean), Cond.fieldLink RX6 19 "WholeNumbersModel" "limit" "[I", Cond.fieldLink RX6 42 "WholeNumbersModel" "limitLength" "I", Cond.methodLink RX6 58 yX6_compareRows, Cond.static yX6_compareRows, Cond.code yX6_compareRows cX6_compareRows 5 (some .int), Cond.methodLink RX6 98 yX6_put, Cond.instanceMethod yX6_put, Cond.selects RX6 yX6_put yX6_put, Cond.code yX6_put cX6_put 6 (some .int), Cond.methodLink RX6 66 yX6_bitsOf, Cond.instanceMethod yX6_bitsOf, Cond.selects RX6 yX6_bitsOf yX6_bitsOf, Cond.code yX6_bitsOf cX6_bitsOf 3 (some .int), Cond.methodLink RX6 70 yX6_toX, Cond.instanceMethod yX6_toX, Cond.selects RX6 yX6_toX yX6_toX, Cond.code yX6_toX cX6_toX 3 none, Cond.methodLink RX6 74 yX6_half, Cond.static yX6_half]
def wsX6_power_r3 : List Cond := [Cond.code yX6_half cX6_half 5 (some .int)]
def wsX6_power : List Cond := .code yX6_power cX6_power 7 (some .int) :: ((wsX6_power_r1 ++ (wsX6_power_r2 ++ wsX6_power_r3)) ++ wsX60)
def wsX6_compare : List Cond := .code yX6_compare cX6_compare 4 (some .int) :: ([.fieldLink RX6 45 "WholeNumbersModel" "thrown" "I", .fieldLink RX6 16 "WholeNumbersModel" "sign" "[I", .fieldLink RX6 22 "WholeNumbersModel" "x" "[I", .fieldLink RX6 34 "WholeNumbersModel" "xn" "I", .fieldLink RX6 25 "WholeNumbersModel" "y" "[I", .fieldLink RX6 55 "WholeNumbersModel" "yn" "I", .methodLink RX6 77 yX6_isRegister, .static yX6_isRegister, .initialized RX6, .code yX6_isRegister cX6_isRegister 1 (some .boolean), .methodLink RX6 70 yX6_toX, .instanceMethod yX6_toX, .selects RX6 yX6_toX yX6_toX, .code yX6_toX cX6_toX 3 none, .fieldLink RX6 13 "WholeNumbersModel" "length" "[I", .fieldLink RX6 7 "WholeNumbersModel" "digits" "[I", .methodLink RX6 92 yX6_toY, .instanceMethod yX6_toY, .selects RX6 yX6_toY yX6_toY, .code yX6_toY cX6_toY 3 none, .methodLink RX6 58 yX6_compareRows, .static yX6_compareRows, .code yX6_compareRows cX6_compareRows 5 (some .int)] ++ wsX60)
def wsX6_sign : List Cond := .code yX6_sign cX6_sign 2 (some .int) :: ([.fieldLink RX6 45 "WholeNumbersModel" "thrown" "I", .fieldLink RX6 16 "WholeNumbersModel" "sign" "[I", .methodLink RX6 77 yX6_isRegister, .static yX6_isRegister, .initialized RX6, .code yX6_isRegister cX6_isRegister 1 (some .boolean)] ++ wsX60)
def wsX6_bits : List Cond := .code yX6_bits cX6_bits 2 (some .int) :: ([.fieldLink RX6 45 "WholeNumbersModel" "thrown" "I", .methodLink RX6 77 yX6_isRegister, .static yX6_isRegister, .initialized RX6, .code yX6_isRegister cX6_isRegister 1 (some .boolean), .methodLink RX6 66 yX6_bitsOf, .instanceMethod yX6_bitsOf, .selects RX6 yX6_bitsOf yX6_bitsOf, .code yX6_bitsOf cX6_bitsOf 3 (some .int), .fieldLink RX6 34 "WholeNumbersModel" "xn" "I", .fieldLink RX6 22 "WholeNumbersModel" "x" "[I", .methodLink RX6 70 yX6_toX, .instanceMethod yX6_toX, .selects RX6 yX6_toX yX6_toX, .code yX6_toX cX6_toX 3 none, .fieldLink RX6 13 "WholeNumbersModel" "length" "[I", .fieldLink RX6 7 "WholeNumbersModel" "digits" "[I", .methodLink RX6 74 yX6_half, .static yX6_half, .code yX6_half cX6_half 5 (some .int), .methodLink RX6 52 yX6_shortened, .static yX6_shortened, .code yX6_shortened cX6_shortened 3 (some .int)] ++ wsX60)
def wsX6_part : List Cond := .code yX6_part cX6_part 5 (some .int) :: ([.fieldLink RX6 45 "WholeNumbersModel" "thrown" "I", .fieldLink RX6 34 "WholeNumbersModel" "xn" "I", .fieldLink RX6 22 "WholeNumbersModel" "x" "[I", .methodLink RX6 77 yX6_isRegister, .static yX6_isRegister, .initialized RX6, .code yX6_isRegister cX6_isRegister 1 (some .boolean), .methodLink RX6 70 yX6_toX, .instanceMethod yX6_toX, .selects RX6 yX6_toX yX6_toX, .code yX6_toX cX6_toX 3 none, .fieldLink RX6 13 "WholeNumbersModel" "length" "[I", .fieldLink RX6 7 "WholeNumbersModel" "digits" "[I", .methodLink RX6 74 yX6_half, .static yX6_half, .code yX6_half cX6_half 5 (some .int), .methodLink RX6 52 yX6_shortened, .static yX6_shortened, .code yX6_shortened cX6_shortened 3 (some .int), .methodLink RX6 109 yX6_isOdd, .static yX6_isOdd, .code yX6_isOdd cX6_isOdd 2 (some .boolean)] ++ wsX60)
def wsX6_anyBelow : List Cond := .code yX6_anyBelow cX6_anyBelow 4 (some .boolean) :: ([.fieldLink RX6 34 "WholeNumbersModel" "xn" "I", .fieldLink RX6 22 "WholeNumbersModel" "x" "[I", .methodLink RX6 70 yX6_toX, .instanceMethod yX6_toX, .selects RX6 yX6_toX yX6_toX, .initialized RX6, .code yX6_toX cX6_toX 3 none, .fieldLink RX6 13 "WholeNumbersModel" "length" "[I", .fieldLink RX6 7 "WholeNumbersModel" "digits" "[I", .methodLink RX6 109 yX6_isOdd, .static yX6_isOdd, .code yX6_isOdd cX6_isOdd 2 (some .boolean), .methodLink RX6 74 yX6_half, .static yX6_half, .code yX6_half cX6_half 5 (some .int), .methodLink RX6 52 yX6_shortened, .static yX6_shortened, .code yX6_shortened cX6_shortened 3 (some .int)] ++ wsX60)
def wsX6_hasBelow_r1 : List Cond := [Cond.fieldLink RX6 45 "WholeNumbersModel" "thrown" "I", Cond.methodLink RX6 77 yX6_isRegister, Cond.static yX6_isRegister, Cond.initialized RX6, Cond.code yX6_isRegister cX6_isRegister 1 (some .boolean), Cond.methodLink RX6 116 yX6_anyBelow, Cond.instanceMethod yX6_anyBelow, Cond.selects RX6 yX6_anyBelow yX6_anyBelow, Cond.code yX6_anyBelow cX6_anyBelow 4 (some .boolean), Cond.fieldLink RX6 34 "WholeNumbersModel" "xn" "I", Cond.fieldLink RX6 22 "WholeNumbersModel" "x" "[I", Cond.methodLink RX6 70 yX6_toX, Cond.instanceMethod yX6_toX, Cond.selects RX6 yX6_toX yX6_toX, Cond.code yX6_toX cX6_toX 3 none, Cond.fieldLink RX6 13 "WholeNumbersModel" "length" "[I", Cond.fieldLink RX6 7 "WholeNumbersModel" "digits" "[I", Cond.methodLink RX6 109 yX6_isOdd, Cond.static yX6_isOdd, Cond.code yX6_isOdd cX6_isOdd 2 (some .boolean), Cond.methodLink RX6 74 yX6_half, Cond.static yX6_half, Cond.code yX6_half cX6_half 5 (some .int), Cond.methodLink RX6 52 yX6_shortened]
def wsX6_hasBelow_r2 : List Cond := [Cond.static yX6_shortened, Cond.code yX6_shortened cX6_shortened 3 (some .int)]
def wsX6_hasBelow : List Cond := .code yX6_hasBelow cX6_hasBelow 3 (some .boolean) :: ((wsX6_hasBelow_r1 ++ wsX6_hasBelow_r2) ++ wsX60)
def wsX6_isLong_r1 : List Cond := [Cond.fieldLink RX6 16 "WholeNumbersModel" "sign" "[I", Cond.methodLink RX6 66 yX6_bitsOf, Cond.instanceMethod yX6_bitsOf, Cond.selects RX6 yX6_bitsOf yX6_bitsOf, Cond.initialized RX6, Cond.code yX6_bitsOf cX6_bitsOf 3 (some .int), Cond.fieldLink RX6 34 "WholeNumbersModel" "xn" "I", Cond.fieldLink RX6 22 "WholeNumbersModel" "x" "[I", Cond.methodLink RX6 70 yX6_toX, Cond.instanceMethod yX6_toX, Cond.selects RX6 yX6_toX yX6_toX, Cond.code yX6_toX cX6_toX 3 none, Cond.fieldLink RX6 13 "WholeNumbersModel" "length" "[I", Cond.fieldLink RX6 7 "WholeNumbersModel" "digits" "[I", Cond.methodLink RX6 74 yX6_half, Cond.static yX6_half, Cond.code yX6_half cX6_half 5 (some .int), Cond.methodLink RX6 52 yX6_shortened, Cond.static yX6_shortened, Cond.code yX6_shortened cX6_shortened 3 (some .int), Cond.methodLink RX6 116 yX6_anyBelow, Cond.instanceMethod yX6_anyBelow, Cond.selects RX6 yX6_anyBelow yX6_anyBelow, Cond.code yX6_anyBelow cX6_anyBelow 4 (some .boolean)]
def wsX6_isLong_r2 : List Cond := [Cond.methodLink RX6 109 yX6_isOdd, Cond.static yX6_isOdd, Cond.code yX6_isOdd cX6_isOdd 2 (some .boolean)]
def wsX6_isLong : List Cond := .code yX6_isLong cX6_isLong 3 (some .boolean) :: ((wsX6_isLong_r1 ++ wsX6_isLong_r2) ++ wsX60)
def wsX6_low_r1 : List Cond := [Cond.fieldLink RX6 45 "WholeNumbersModel" "thrown" "I", Cond.fieldLink RX6 13 "WholeNumbersModel" "length" "[I", Cond.constantLong RX6 81 (10000), Cond.fieldLink RX6 16 "WholeNumbersModel" "sign" "[I", Cond.fieldLink RX6 7 "WholeNumbersModel" "digits" "[I", Cond.methodLink RX6 77 yX6_isRegister, Cond.static yX6_isRegister, Cond.initialized RX6, Cond.code yX6_isRegister cX6_isRegister 1 (some .boolean), Cond.methodLink RX6 120 yX6_isLong, Cond.instanceMethod yX6_isLong, Cond.selects RX6 yX6_isLong yX6_isLong, Cond.code yX6_isLong cX6_isLong 3 (some .boolean), Cond.methodLink RX6 66 yX6_bitsOf, Cond.instanceMethod yX6_bitsOf, Cond.selects RX6 yX6_bitsOf yX6_bitsOf, Cond.code yX6_bitsOf cX6_bitsOf 3 (some .int), Cond.fieldLink RX6 34 "WholeNumbersModel" "xn" "I", Cond.fieldLink RX6 22 "WholeNumbersModel" "x" "[I", Cond.methodLink RX6 70 yX6_toX, Cond.instanceMethod yX6_toX, Cond.selects RX6 yX6_toX yX6_toX, Cond.code yX6_toX cX6_toX 3 none, Cond.methodLink RX6 74 yX6_half]
def wsX6_low_r2 : List Cond := [Cond.static yX6_half, Cond.code yX6_half cX6_half 5 (some .int), Cond.methodLink RX6 52 yX6_shortened, Cond.static yX6_shortened, Cond.code yX6_shortened cX6_shortened 3 (some .int), Cond.methodLink RX6 116 yX6_anyBelow, Cond.instanceMethod yX6_anyBelow, Cond.selects RX6 yX6_anyBelow yX6_anyBelow, Cond.code yX6_anyBelow cX6_anyBelow 4 (some .boolean), Cond.methodLink RX6 109 yX6_isOdd, Cond.static yX6_isOdd, Cond.code yX6_isOdd cX6_isOdd 2 (some .boolean)]
def wsX6_low : List Cond := .code yX6_low cX6_low 5 (some .long) :: ((wsX6_low_r1 ++ wsX6_low_r2) ++ wsX60)
def wsX6_fits_r1 : List Cond := [Cond.fieldLink RX6 45 "WholeNumbersModel" "thrown" "I", Cond.methodLink RX6 77 yX6_isRegister, Cond.static yX6_isRegister, Cond.initialized RX6, Cond.code yX6_isRegister cX6_isRegister 1 (some .boolean), Cond.methodLink RX6 120 yX6_isLong, Cond.instanceMethod yX6_isLong, Cond.selects RX6 yX6_isLong yX6_isLong, Cond.code yX6_isLong cX6_isLong 3 (some .boolean), Cond.fieldLink RX6 16 "WholeNumbersModel" "sign" "[I", Cond.methodLink RX6 66 yX6_bitsOf, Cond.instanceMethod yX6_bitsOf, Cond.selects RX6 yX6_bitsOf yX6_bitsOf, Cond.code yX6_bitsOf cX6_bitsOf 3 (some .int), Cond.fieldLink RX6 34 "WholeNumbersModel" "xn" "I", Cond.fieldLink RX6 22 "WholeNumbersModel" "x" "[I", Cond.methodLink RX6 70 yX6_toX, Cond.instanceMethod yX6_toX, Cond.selects RX6 yX6_toX yX6_toX, Cond.code yX6_toX cX6_toX 3 none, Cond.fieldLink RX6 13 "WholeNumbersModel" "length" "[I", Cond.fieldLink RX6 7 "WholeNumbersModel" "digits" "[I", Cond.methodLink RX6 74 yX6_half, Cond.static yX6_half]
def wsX6_fits_r2 : List Cond := [Cond.code yX6_half cX6_half 5 (some .int), Cond.methodLink RX6 52 yX6_shortened, Cond.static yX6_shortened, Cond.code yX6_shortened cX6_shortened 3 (some .int), Cond.methodLink RX6 116 yX6_anyBelow, Cond.instanceMethod yX6_anyBelow, Cond.selects RX6 yX6_anyBelow yX6_anyBelow, Cond.code yX6_anyBelow cX6_anyBelow 4 (some .boolean), Cond.methodLink RX6 109 yX6_isOdd, Cond.static yX6_isOdd, Cond.code yX6_isOdd cX6_isOdd 2 (some .boolean)]
def wsX6_fits : List Cond := .code yX6_fits cX6_fits 2 (some .boolean) :: ((wsX6_fits_r1 ++ wsX6_fits_r2) ++ wsX60)
def wsX6_write : List Cond := .code yX6_write cX6_write 7 (some .int) :: ([.fieldLink RX6 45 "WholeNumbersModel" "thrown" "I", .fieldLink RX6 34 "WholeNumbersModel" "xn" "I", .fieldLink RX6 22 "WholeNumbersModel" "x" "[I", .fieldLink RX6 31 "WholeNumbersModel" "text" "[I", .fieldLink RX6 16 "WholeNumbersModel" "sign" "[I", .fieldLink RX6 123 "WholeNumbersModel" "letters" "I", .methodLink RX6 77 yX6_isRegister, .static yX6_isRegister, .initialized RX6, .code yX6_isRegister cX6_isRegister 1 (some .boolean), .methodLink RX6 70 yX6_toX, .instanceMethod yX6_toX, .selects RX6 yX6_toX yX6_toX, .code yX6_toX cX6_toX 3 none, .fieldLink RX6 13 "WholeNumbersModel" "length" "[I", .fieldLink RX6 7 "WholeNumbersModel" "digits" "[I", .methodLink RX6 52 yX6_shortened, .static yX6_shortened, .code yX6_shortened cX6_shortened 3 (some .int)] ++ wsX60)
def wsX6_type : List Cond := .code yX6_type cX6_type 2 (some .int) :: ([.fieldLink RX6 45 "WholeNumbersModel" "thrown" "I", .fieldLink RX6 123 "WholeNumbersModel" "letters" "I", .fieldLink RX6 31 "WholeNumbersModel" "text" "[I"] ++ wsX60)
def wsX6_clear : List Cond := .code yX6_clear cX6_clear 1 none :: ([.fieldLink RX6 45 "WholeNumbersModel" "thrown" "I", .fieldLink RX6 123 "WholeNumbersModel" "letters" "I"] ++ wsX60)
def wsX6_character : List Cond := .code yX6_character cX6_character 2 (some .int) :: ([.fieldLink RX6 45 "WholeNumbersModel" "thrown" "I", .fieldLink RX6 123 "WholeNumbersModel" "letters" "I", .fieldLink RX6 31 "WholeNumbersModel" "text" "[I"] ++ wsX60)
def wsX6_digit : List Cond := .code yX6_digit cX6_digit 3 (some .int) :: ([])
def wsX6_read_r1 : List Cond := [Cond.fieldLink RX6 45 "WholeNumbersModel" "thrown" "I", Cond.fieldLink RX6 123 "WholeNumbersModel" "letters" "I", Cond.fieldLink RX6 31 "WholeNumbersModel" "text" "[I", Cond.fieldLink RX6 55 "WholeNumbersModel" "yn" "I", Cond.fieldLink RX6 25 "WholeNumbersModel" "y" "[I", Cond.methodLink RX6 77 yX6_isRegister, Cond.static yX6_isRegister, Cond.initialized RX6, Cond.code yX6_isRegister cX6_isRegister 1 (some .boolean), Cond.methodLink RX6 126 yX6_digit, Cond.static yX6_digit, Cond.code yX6_digit cX6_digit 3 (some .int), Cond.methodLink RX6 48 yX6_scaled, Cond.static yX6_scaled, Cond.code yX6_scaled cX6_scaled 7 (some .int), Cond.methodLink RX6 62 yX6_isWithin, Cond.instanceMethod yX6_isWithin, Cond.selects RX6 yX6_isWithin yX6_isWithin, Cond.code yX6_isWithin cX6_isWithin 3 (some .boolean), Cond.fieldLink RX6 19 "WholeNumbersModel" "limit" "[I", Cond.fieldLink RX6 42 "WholeNumbersModel" "limitLength" "I", Cond.methodLink RX6 58 yX6_compareRows, Cond.static yX6_compareRows, Cond.code yX6_compareRows cX6_compareRows 5 (some .int)]
def wsX6_read_r2 : List Cond := [Cond.methodLink RX6 98 yX6_put, Cond.instanceMethod yX6_put, Cond.selects RX6 yX6_put yX6_put, Cond.code yX6_put cX6_put 6 (some .int), Cond.fieldLink RX6 13 "WholeNumbersModel" "length" "[I", Cond.fieldLink RX6 16 "WholeNumbersModel" "sign" "[I", Cond.fieldLink RX6 7 "WholeNumbersModel" "digits" "[I", Cond.methodLink RX6 66 yX6_bitsOf, Cond.instanceMethod yX6_bitsOf, Cond.selects RX6 yX6_bitsOf yX6_bitsOf, Cond.code yX6_bitsOf cX6_bitsOf 3 (some .int), Cond.fieldLink RX6 34 "WholeNumbersModel" "xn" "I", Cond.fieldLink RX6 22 "WholeNumbersModel" "x" "[I", Cond.methodLink RX6 70 yX6_toX, Cond.instanceMethod yX6_toX, Cond.selects RX6 yX6_toX yX6_toX, Cond.code yX6_toX cX6_toX 3 none, Cond.methodLink RX6 74 yX6_half, Cond.static yX6_half, Cond.code yX6_half cX6_half 5 (some .int), Cond.methodLink RX6 52 yX6_shortened, Cond.static yX6_shortened, Cond.code yX6_shortened cX6_shortened 3 (some .int)]
def wsX6_read : List Cond := .code yX6_read cX6_read 7 (some .int) :: ((wsX6_read_r1 ++ wsX6_read_r2) ++ wsX60)
def wsJ9_max_7cf53 : List Cond := .code yJ9_max_7cf53 cJ9_max_7cf53 2 (some .int) :: ([])
def wsJ9_min_7cf53 : List Cond := .code yJ9_min_7cf53 cJ9_min_7cf53 2 (some .int) :: ([])
def wsL_divide_r1 : List Cond := [Cond.classLink RL 13 "java/lang/ArithmeticException", Cond.methodLink RL 7 yX5_divide, Cond.instanceMethod yX5_divide, Cond.selects RX5 yX5_divide yX5_divide, Cond.initialized RX5, Cond.code yX5_divide cX5_divide 8 (some .int), Cond.classLink RX5 84 "java/lang/ArithmeticException", Cond.initialized "java/lang/ArithmeticException", Cond.fieldLink RX5 11 "WholeNumbers" "registers" "[LWholeNumbers$Whole;", Cond.fieldLink RX5 74 "WholeNumbers$Whole" "size" "LWholeNumbers$Natural;", Cond.fieldLink RX5 58 "WholeNumbers$Whole" "negative" "Z", Cond.fieldLink RX5 20 "WholeNumbers" "second" "LWholeNumbers$Whole;", Cond.fieldLink RX5 16 "WholeNumbers" "result" "LWholeNumbers$Whole;", Cond.methodLink RX5 46 yX5_isRegister, Cond.static yX5_isRegister, Cond.code yX5_isRegister cX5_isRegister 1 (some .boolean), Cond.methodLink RX5 54 yX5_areRegisters, Cond.static yX5_areRegisters, Cond.code yX5_areRegisters cX5_areRegisters 3 (some .boolean), Cond.methodLink RX5 78 yX2_isZero, Cond.instanceMethod yX2_isZero, Cond.selects RX2 yX2_isZero yX2_isZero, Cond.initialized RX2, Cond.code yX2_isZero cX2_isZero 1 (some .boolean)]
def wsL_divide_r2 : List Cond := [Cond.fieldLink RX2 15 "WholeNumbers$Natural" "count" "I", Cond.methodLink RX5 91 yX5_cutQuotient, Cond.instanceMethod yX5_cutQuotient, Cond.selects RX5 yX5_cutQuotient yX5_cutQuotient, Cond.code yX5_cutQuotient cX5_cutQuotient 3 none, Cond.fieldLink RX5 26 "WholeNumbers" "division" "LWholeNumbers$LongDivision;", Cond.fieldLink RX5 188 "WholeNumbers$LongDivision" "quotient" "LWholeNumbers$Natural;", Cond.fieldLink RX5 191 "WholeNumbers$LongDivision" "rest" "LWholeNumbers$Natural;", Cond.methodLink RX5 184 yX1_split, Cond.instanceMethod yX1_split, Cond.selects RX1 yX1_split yX1_split, Cond.initialized RX1, Cond.code yX1_split cX1_split 7 none, Cond.fieldLink RX1 21 "WholeNumbers$LongDivision" "divisor" "LWholeNumbers$Natural;", Cond.fieldLink RX1 18 "WholeNumbers$LongDivision" "rest" "LWholeNumbers$Natural;", Cond.fieldLink RX1 36 "WholeNumbers$Natural" "count" "I", Cond.methodLink RX1 44 Lib.Math.max.name, Cond.static Lib.Math.max.name, Cond.initialized "java/lang/Math", Cond.code Lib.Math.max.name Lib.Math.max.code 2 (some .int), Cond.fieldLink RX1 12 "WholeNumbers$LongDivision" "quotient" "LWholeNumbers$Natural;", Cond.fieldLink RX1 50 "WholeNumbers$Natural" "limbs" "[I", Cond.methodLink RX1 24 yX2_isZero, Cond.methodLink RX1 28 yX2_spareBits]
def wsL_divide_r3 : List Cond := [Cond.instanceMethod yX2_spareBits, Cond.selects RX2 yX2_spareBits yX2_spareBits, Cond.code yX2_spareBits cX2_spareBits 1 (some .int), Cond.methodLink RX2 23 yX2_limb, Cond.instanceMethod yX2_limb, Cond.selects RX2 yX2_limb yX2_limb, Cond.code yX2_limb cX2_limb 2 (some .int), Cond.fieldLink RX2 9 "WholeNumbers$Natural" "limbs" "[I", Cond.methodLink RX2 27 yJ6_numberOfLeadingZeros_0f7a4, Cond.static yJ6_numberOfLeadingZeros_0f7a4, Cond.initialized RJ6, Cond.code yJ6_numberOfLeadingZeros_0f7a4 cJ6_numberOfLeadingZeros_0f7a4 2 (some .int), Cond.constant RJ6 264 (65536), Cond.methodLink RX1 32 yX2_shiftUp, Cond.instanceMethod yX2_shiftUp, Cond.selects RX2 yX2_shiftUp yX2_shiftUp, Cond.code yX2_shiftUp cX2_shiftUp 8 none, Cond.methodLink RX2 43 Lib.Math.min.name, Cond.static Lib.Math.min.name, Cond.code Lib.Math.min.name Lib.Math.min.code 2 (some .int), Cond.constant RX2 32 (1073741823), Cond.methodLink RX2 39 yX2_trim, Cond.instanceMethod yX2_trim, Cond.selects RX2 yX2_trim yX2_trim]
def wsL_divide_r4 : List Cond := [Cond.code yX2_trim cX2_trim 3 none, Cond.methodLink RX2 49 Lib.Math.max.name, Cond.methodLink RX1 40 yX2_padTo, Cond.instanceMethod yX2_padTo, Cond.selects RX2 yX2_padTo yX2_padTo, Cond.code yX2_padTo cX2_padTo 3 none, Cond.methodLink RX1 54 yX1_takeDigit, Cond.instanceMethod yX1_takeDigit, Cond.selects RX1 yX1_takeDigit yX1_takeDigit, Cond.code yX1_takeDigit cX1_takeDigit 3 (some .int), Cond.methodLink RX1 64 yX1_guessDigit, Cond.instanceMethod yX1_guessDigit, Cond.selects RX1 yX1_guessDigit yX1_guessDigit, Cond.code yX1_guessDigit cX1_guessDigit 16 (some .int), Cond.constantLong RX1 77 (1073741823), Cond.methodLink RX1 74 yX2_limb, Cond.methodLink RX1 67 yX1_subtractAt, Cond.instanceMethod yX1_subtractAt, Cond.selects RX1 yX1_subtractAt yX1_subtractAt, Cond.code yX1_subtractAt cX1_subtractAt 10 (some .boolean), Cond.constant RX1 79 (1073741823), Cond.methodLink RX1 71 yX1_addBackAt, Cond.instanceMethod yX1_addBackAt, Cond.selects RX1 yX1_addBackAt yX1_addBackAt]
def wsL_divide_r5 : List Cond := [Cond.code yX1_addBackAt cX1_addBackAt 6 none, Cond.methodLink RX1 58 yX2_trim, Cond.methodLink RX1 61 yX2_shiftDown, Cond.instanceMethod yX2_shiftDown, Cond.selects RX2 yX2_shiftDown yX2_shiftDown, Cond.code yX2_shiftDown cX2_shiftDown 5 none, Cond.methodLink RX2 56 yX2_limbFrom, Cond.instanceMethod yX2_limbFrom, Cond.selects RX2 yX2_limbFrom yX2_limbFrom, Cond.code yX2_limbFrom cX2_limbFrom 4 (some .int), Cond.methodLink RX5 110 yX2_take, Cond.instanceMethod yX2_take, Cond.selects RX2 yX2_take yX2_take, Cond.code yX2_take cX2_take 2 none, Cond.methodLink RX2 33 arraycopyName, Cond.native arraycopyName, Cond.static arraycopyName, Cond.initialized "java/lang/System", Cond.methodLink RX5 113 yX4_takeSign, Cond.instanceMethod yX4_takeSign, Cond.selects RX4 yX4_takeSign yX4_takeSign, Cond.initialized RX4, Cond.code yX4_takeSign cX4_takeSign 2 none, Cond.fieldLink RX4 12 "WholeNumbers$Whole" "size" "LWholeNumbers$Natural;"]
def wsL_divide_r6 : List Cond := [Cond.fieldLink RX4 22 "WholeNumbers$Whole" "negative" "Z", Cond.methodLink RX4 30 yX2_isZero, Cond.methodLink RX5 95 yX5_stepDown, Cond.instanceMethod yX5_stepDown, Cond.selects RX5 yX5_stepDown yX5_stepDown, Cond.code yX5_stepDown cX5_stepDown 2 none, Cond.methodLink RX5 194 yX2_timesPlus, Cond.instanceMethod yX2_timesPlus, Cond.selects RX2 yX2_timesPlus yX2_timesPlus, Cond.code yX2_timesPlus cX2_timesPlus 8 none, Cond.methodLink RX5 198 yX2_takeDifference, Cond.instanceMethod yX2_takeDifference, Cond.selects RX2 yX2_takeDifference yX2_takeDifference, Cond.code yX2_takeDifference cX2_takeDifference 7 none, Cond.methodLink RX5 99 yX4_take, Cond.instanceMethod yX4_take, Cond.selects RX4 yX4_take yX4_take, Cond.code yX4_take cX4_take 2 none, Cond.methodLink RX4 18 yX2_take, Cond.methodLink RX5 102 yX2_bitLength, Cond.instanceMethod yX2_bitLength, Cond.selects RX2 yX2_bitLength yX2_bitLength, Cond.code yX2_bitLength cX2_bitLength 1 (some .int), Cond.methodLink RX2 19 yX2_spareBits]
def wsL_divide : List Cond := .codeWith yL_divide cL_divide 8 (some .int) [(0, 16, 19, 13)] :: ((wsL_divide_r1 ++ (wsL_divide_r2 ++ (wsL_divide_r3 ++ (wsL_divide_r4 ++ (wsL_divide_r5 ++ wsL_divide_r6))))) ++ wsX50 ++ wsX40 ++ wsX20 ++ wsX10 ++ (vx_atS RX5 88 "java/lang/ArithmeticException" ["java/lang/RuntimeException", "java/lang/Exception"]).filter goodWord)
def wsL_root_r1 : List Cond := [Cond.classLink RL 19 "java/lang/IllegalArgumentException", Cond.methodLink RL 15 yX5_root, Cond.instanceMethod yX5_root, Cond.selects RX5 yX5_root yX5_root, Cond.initialized RX5, Cond.code yX5_root cX5_root 3 (some .int), Cond.classLink RX5 117 "java/lang/IllegalArgumentException", Cond.initialized "java/lang/IllegalArgumentException", Cond.fieldLink RX5 11 "WholeNumbers" "registers" "[LWholeNumbers$Whole;", Cond.fieldLink RX5 58 "WholeNumbers$Whole" "negative" "Z", Cond.fieldLink RX5 74 "WholeNumbers$Whole" "size" "LWholeNumbers$Natural;", Cond.methodLink RX5 46 yX5_isRegister, Cond.static yX5_isRegister, Cond.code yX5_isRegister cX5_isRegister 1 (some .boolean), Cond.methodLink RX5 122 yX5_takeRoot, Cond.instanceMethod yX5_takeRoot, Cond.selects RX5 yX5_takeRoot yX5_takeRoot, Cond.code yX5_takeRoot cX5_takeRoot 5 none, Cond.fieldLink RX5 16 "WholeNumbers" "result" "LWholeNumbers$Whole;", Cond.fieldLink RX5 20 "WholeNumbers" "second" "LWholeNumbers$Whole;", Cond.fieldLink RX5 26 "WholeNumbers" "division" "LWholeNumbers$LongDivision;", Cond.fieldLink RX5 188 "WholeNumbers$LongDivision" "quotient" "LWholeNumbers$Natural;", Cond.methodLink RX5 50 yX4_takeLong, Cond.instanceMethod yX4_takeLong]
def wsL_root_r2 : List Cond := [Cond.selects RX4 yX4_takeLong yX4_takeLong, Cond.initialized RX4, Cond.code yX4_takeLong cX4_takeLong 3 none, Cond.fieldLink RX4 12 "WholeNumbers$Whole" "size" "LWholeNumbers$Natural;", Cond.fieldLink RX4 22 "WholeNumbers$Whole" "negative" "Z", Cond.methodLink RX4 26 yX2_takeUnsigned, Cond.instanceMethod yX2_takeUnsigned, Cond.selects RX2 yX2_takeUnsigned yX2_takeUnsigned, Cond.initialized RX2, Cond.code yX2_takeUnsigned cX2_takeUnsigned 3 none, Cond.fieldLink RX2 9 "WholeNumbers$Natural" "limbs" "[I", Cond.constant RX2 32 (1073741823), Cond.methodLink RX2 39 yX2_trim, Cond.instanceMethod yX2_trim, Cond.selects RX2 yX2_trim yX2_trim, Cond.code yX2_trim cX2_trim 3 none, Cond.methodLink RX2 43 Lib.Math.min.name, Cond.static Lib.Math.min.name, Cond.initialized "java/lang/Math", Cond.code Lib.Math.min.name Lib.Math.min.code 2 (some .int), Cond.methodLink RX2 49 Lib.Math.max.name, Cond.static Lib.Math.max.name, Cond.code Lib.Math.max.name Lib.Math.max.code 2 (some .int), Cond.fieldLink RX2 15 "WholeNumbers$Natural" "count" "I"]
def wsL_root_r3 : List Cond := [Cond.methodLink RX5 78 yX2_isZero, Cond.instanceMethod yX2_isZero, Cond.selects RX2 yX2_isZero yX2_isZero, Cond.code yX2_isZero cX2_isZero 1 (some .boolean), Cond.methodLink RX5 110 yX2_take, Cond.instanceMethod yX2_take, Cond.selects RX2 yX2_take yX2_take, Cond.code yX2_take cX2_take 2 none, Cond.methodLink RX2 33 arraycopyName, Cond.native arraycopyName, Cond.static arraycopyName, Cond.initialized "java/lang/System", Cond.methodLink RX5 102 yX2_bitLength, Cond.instanceMethod yX2_bitLength, Cond.selects RX2 yX2_bitLength yX2_bitLength, Cond.code yX2_bitLength cX2_bitLength 1 (some .int), Cond.methodLink RX2 19 yX2_spareBits, Cond.instanceMethod yX2_spareBits, Cond.selects RX2 yX2_spareBits yX2_spareBits, Cond.code yX2_spareBits cX2_spareBits 1 (some .int), Cond.methodLink RX2 23 yX2_limb, Cond.instanceMethod yX2_limb, Cond.selects RX2 yX2_limb yX2_limb, Cond.code yX2_limb cX2_limb 2 (some .int)]
def wsL_root_r4 : List Cond := [Cond.methodLink RX2 27 yJ6_numberOfLeadingZeros_0f7a4, Cond.static yJ6_numberOfLeadingZeros_0f7a4, Cond.initialized RJ6, Cond.code yJ6_numberOfLeadingZeros_0f7a4 cJ6_numberOfLeadingZeros_0f7a4 2 (some .int), Cond.constant RJ6 264 (65536), Cond.methodLink RX5 129 yX2_shiftUp, Cond.instanceMethod yX2_shiftUp, Cond.selects RX2 yX2_shiftUp yX2_shiftUp, Cond.code yX2_shiftUp cX2_shiftUp 8 none, Cond.methodLink RX5 184 yX1_split, Cond.instanceMethod yX1_split, Cond.selects RX1 yX1_split yX1_split, Cond.initialized RX1, Cond.code yX1_split cX1_split 7 none, Cond.fieldLink RX1 21 "WholeNumbers$LongDivision" "divisor" "LWholeNumbers$Natural;", Cond.fieldLink RX1 18 "WholeNumbers$LongDivision" "rest" "LWholeNumbers$Natural;", Cond.fieldLink RX1 36 "WholeNumbers$Natural" "count" "I", Cond.methodLink RX1 44 Lib.Math.max.name, Cond.fieldLink RX1 12 "WholeNumbers$LongDivision" "quotient" "LWholeNumbers$Natural;", Cond.fieldLink RX1 50 "WholeNumbers$Natural" "limbs" "[I", Cond.methodLink RX1 24 yX2_isZero, Cond.methodLink RX1 28 yX2_spareBits, Cond.methodLink RX1 32 yX2_shiftUp, Cond.methodLink RX1 40 yX2_padTo]
def wsL_root_r5 : List Cond := [Cond.instanceMethod yX2_padTo, Cond.selects RX2 yX2_padTo yX2_padTo, Cond.code yX2_padTo cX2_padTo 3 none, Cond.methodLink RX1 54 yX1_takeDigit, Cond.instanceMethod yX1_takeDigit, Cond.selects RX1 yX1_takeDigit yX1_takeDigit, Cond.code yX1_takeDigit cX1_takeDigit 3 (some .int), Cond.methodLink RX1 64 yX1_guessDigit, Cond.instanceMethod yX1_guessDigit, Cond.selects RX1 yX1_guessDigit yX1_guessDigit, Cond.code yX1_guessDigit cX1_guessDigit 16 (some .int), Cond.constantLong RX1 77 (1073741823), Cond.methodLink RX1 74 yX2_limb, Cond.methodLink RX1 67 yX1_subtractAt, Cond.instanceMethod yX1_subtractAt, Cond.selects RX1 yX1_subtractAt yX1_subtractAt, Cond.code yX1_subtractAt cX1_subtractAt 10 (some .boolean), Cond.constant RX1 79 (1073741823), Cond.methodLink RX1 71 yX1_addBackAt, Cond.instanceMethod yX1_addBackAt, Cond.selects RX1 yX1_addBackAt yX1_addBackAt, Cond.code yX1_addBackAt cX1_addBackAt 6 none, Cond.methodLink RX1 58 yX2_trim, Cond.methodLink RX1 61 yX2_shiftDown]
def wsL_root_r6 : List Cond := [Cond.instanceMethod yX2_shiftDown, Cond.selects RX2 yX2_shiftDown yX2_shiftDown, Cond.code yX2_shiftDown cX2_shiftDown 5 none, Cond.methodLink RX2 56 yX2_limbFrom, Cond.instanceMethod yX2_limbFrom, Cond.selects RX2 yX2_limbFrom yX2_limbFrom, Cond.code yX2_limbFrom cX2_limbFrom 4 (some .int), Cond.methodLink RX5 201 yX2_takeSum, Cond.instanceMethod yX2_takeSum, Cond.selects RX2 yX2_takeSum yX2_takeSum, Cond.code yX2_takeSum cX2_takeSum 7 none, Cond.methodLink RX5 125 yX2_shiftDown, Cond.methodLink RX5 203 yX2_order, Cond.instanceMethod yX2_order, Cond.selects RX2 yX2_order yX2_order, Cond.code yX2_order cX2_order 3 (some .int), Cond.methodLink RX5 66 yX5_keepResult, Cond.instanceMethod yX5_keepResult, Cond.selects RX5 yX5_keepResult yX5_keepResult, Cond.code yX5_keepResult cX5_keepResult 3 (some .int), Cond.methodLink RX5 99 yX4_take, Cond.instanceMethod yX4_take, Cond.selects RX4 yX4_take yX4_take, Cond.code yX4_take cX4_take 2 none]
def wsL_root_r7 : List Cond := [Cond.methodLink RX4 18 yX2_take]
def wsL_root : List Cond := .codeWith yL_root cL_root 5 (some .int) [(0, 10, 13, 19)] :: ((wsL_root_r1 ++ (wsL_root_r2 ++ (wsL_root_r3 ++ (wsL_root_r4 ++ (wsL_root_r5 ++ (wsL_root_r6 ++ wsL_root_r7)))))) ++ wsX50 ++ wsX40 ++ wsX10 ++ wsX20 ++ (vx_atS RX5 121 "java/lang/IllegalArgumentException" ["java/lang/RuntimeException", "java/lang/Exception"]).filter goodWord)
def wsL_law0_r1 : List Cond := [Cond.classLink RL 8 RX5, Cond.instantiable RX5 6, Cond.initialized RX5, Cond.classLink RL 22 RX6, Cond.instantiable RX6 14, Cond.initialized RX6, Cond.arrayClass .long, Cond.constantLong RL 25 (4294967295), Cond.methodLink RL 21 yX5_init, Cond.instanceMethod yX5_init, Cond.code yX5_init cX5_init 2 none, Cond.methodLink RX5 3 objectInit, Cond.instanceMethod objectInit, Cond.code objectInit ⟨#[0xb1]⟩ 1 none, Cond.classLink RX5 9 RX4, Cond.fieldLink RX5 11 "WholeNumbers" "registers" "[LWholeNumbers$Whole;", Cond.instantiable RX4 2, Cond.initialized RX4, Cond.fieldLink RX5 16 "WholeNumbers" "result" "LWholeNumbers$Whole;", Cond.fieldLink RX5 20 "WholeNumbers" "second" "LWholeNumbers$Whole;", Cond.classLink RX5 23 RX1, Cond.instantiable RX1 3, Cond.initialized RX1, Cond.fieldLink RX5 26 "WholeNumbers" "division" "LWholeNumbers$LongDivision;"]
def wsL_law0_r2 : List Cond := [Cond.classLink RX5 30 RX0, Cond.instantiable RX0 7, Cond.initialized RX0, Cond.fieldLink RX5 35 "WholeNumbers" "euclid" "LWholeNumbers$Euclid;", Cond.classLink RX5 39 RX3, Cond.instantiable RX3 2, Cond.initialized RX3, Cond.fieldLink RX5 42 "WholeNumbers" "text" "LWholeNumbers$Text;", Cond.instanceMethod yX4_init, Cond.code yX4_init cX4_init 1 none, Cond.methodLink RX4 3 objectInit, Cond.classLink RX4 9 RX2, Cond.instantiable RX2 2, Cond.initialized RX2, Cond.fieldLink RX4 12 "WholeNumbers$Whole" "size" "LWholeNumbers$Natural;", Cond.instanceMethod yX2_init, Cond.code yX2_init cX2_init 1 none, Cond.methodLink RX2 3 objectInit, Cond.arrayClass .int, Cond.fieldLink RX2 9 "WholeNumbers$Natural" "limbs" "[I", Cond.instanceMethod yX1_init, Cond.code yX1_init cX1_init 1 none, Cond.methodLink RX1 3 objectInit, Cond.classLink RX1 9 RX2]
def wsL_law0_r3 : List Cond := [Cond.fieldLink RX1 12 "WholeNumbers$LongDivision" "quotient" "LWholeNumbers$Natural;", Cond.fieldLink RX1 18 "WholeNumbers$LongDivision" "rest" "LWholeNumbers$Natural;", Cond.fieldLink RX1 21 "WholeNumbers$LongDivision" "divisor" "LWholeNumbers$Natural;", Cond.methodLink RX5 32 yX0_init, Cond.instanceMethod yX0_init, Cond.code yX0_init cX0_init 2 none, Cond.methodLink RX0 5 objectInit, Cond.classLink RX0 11 RX2, Cond.fieldLink RX0 14 "WholeNumbers$Euclid" "greater" "LWholeNumbers$Natural;", Cond.fieldLink RX0 18 "WholeNumbers$Euclid" "lesser" "LWholeNumbers$Natural;", Cond.fieldLink RX0 21 "WholeNumbers$Euclid" "division" "LWholeNumbers$LongDivision;", Cond.instanceMethod yX3_init, Cond.code yX3_init cX3_init 1 none, Cond.methodLink RX3 3 objectInit, Cond.arrayClass .char, Cond.fieldLink RX3 9 "WholeNumbers$Text" "letters" "[C", Cond.methodLink RL 24 yX6_init, Cond.instanceMethod yX6_init, Cond.code yX6_init cX6_init 2 none, Cond.methodLink RX6 1 objectInit, Cond.fieldLink RX6 7 "WholeNumbersModel" "digits" "[I", Cond.fieldLink RX6 13 "WholeNumbersModel" "length" "[I", Cond.fieldLink RX6 16 "WholeNumbersModel" "sign" "[I", Cond.fieldLink RX6 19 "WholeNumbersModel" "limit" "[I"]
def wsL_law0_r4 : List Cond := [Cond.fieldLink RX6 22 "WholeNumbersModel" "x" "[I", Cond.fieldLink RX6 25 "WholeNumbersModel" "y" "[I", Cond.fieldLink RX6 28 "WholeNumbersModel" "z" "[I", Cond.fieldLink RX6 31 "WholeNumbersModel" "text" "[I", Cond.fieldLink RX6 34 "WholeNumbersModel" "xn" "I", Cond.fieldLink RX6 42 "WholeNumbersModel" "limitLength" "I", Cond.methodLink RX6 38 yX6_twice, Cond.static yX6_twice, Cond.code yX6_twice cX6_twice 2 (some .int), Cond.methodLink RX6 48 yX6_scaled, Cond.static yX6_scaled, Cond.code yX6_scaled cX6_scaled 7 (some .int), Cond.methodLink RL 27 yX5_load, Cond.instanceMethod yX5_load, Cond.selects RX5 yX5_load yX5_load, Cond.code yX5_load cX5_load 4 (some .boolean), Cond.methodLink RX5 46 yX5_isRegister, Cond.static yX5_isRegister, Cond.code yX5_isRegister cX5_isRegister 1 (some .boolean), Cond.methodLink RX5 50 yX4_takeLong, Cond.instanceMethod yX4_takeLong, Cond.selects RX4 yX4_takeLong yX4_takeLong, Cond.code yX4_takeLong cX4_takeLong 3 none, Cond.fieldLink RX4 22 "WholeNumbers$Whole" "negative" "Z"]
def wsL_law0_r5 : List Cond := [Cond.methodLink RX4 26 yX2_takeUnsigned, Cond.instanceMethod yX2_takeUnsigned, Cond.selects RX2 yX2_takeUnsigned yX2_takeUnsigned, Cond.code yX2_takeUnsigned cX2_takeUnsigned 3 none, Cond.constant RX2 32 (1073741823), Cond.methodLink RX2 39 yX2_trim, Cond.instanceMethod yX2_trim, Cond.selects RX2 yX2_trim yX2_trim, Cond.code yX2_trim cX2_trim 3 none, Cond.methodLink RX2 43 Lib.Math.min.name, Cond.static Lib.Math.min.name, Cond.initialized "java/lang/Math", Cond.code Lib.Math.min.name Lib.Math.min.code 2 (some .int), Cond.methodLink RX2 49 Lib.Math.max.name, Cond.static Lib.Math.max.name, Cond.code Lib.Math.max.name Lib.Math.max.code 2 (some .int), Cond.fieldLink RX2 15 "WholeNumbers$Natural" "count" "I", Cond.methodLink RL 31 yX6_load, Cond.instanceMethod yX6_load, Cond.selects RX6 yX6_load yX6_load, Cond.code yX6_load cX6_load 9 (some .boolean), Cond.fieldLink RX6 45 "WholeNumbersModel" "thrown" "I", Cond.constantLong RX6 81 (10000), Cond.methodLink RX6 77 yX6_isRegister]
def wsL_law0_r6 : List Cond := [Cond.static yX6_isRegister, Cond.code yX6_isRegister cX6_isRegister 1 (some .boolean), Cond.methodLink RL 32 yX5_reckon, Cond.instanceMethod yX5_reckon, Cond.selects RX5 yX5_reckon yX5_reckon, Cond.code yX5_reckon cX5_reckon 7 (some .int), Cond.fieldLink RX5 58 "WholeNumbers$Whole" "negative" "Z", Cond.methodLink RX5 54 yX5_areRegisters, Cond.static yX5_areRegisters, Cond.code yX5_areRegisters cX5_areRegisters 3 (some .boolean), Cond.methodLink RX5 62 yX4_takeSum, Cond.instanceMethod yX4_takeSum, Cond.selects RX4 yX4_takeSum yX4_takeSum, Cond.code yX4_takeSum cX4_takeSum 4 none, Cond.methodLink RX4 34 yX2_takeSum, Cond.instanceMethod yX2_takeSum, Cond.selects RX2 yX2_takeSum yX2_takeSum, Cond.code yX2_takeSum cX2_takeSum 7 none, Cond.methodLink RX2 23 yX2_limb, Cond.instanceMethod yX2_limb, Cond.selects RX2 yX2_limb yX2_limb, Cond.code yX2_limb cX2_limb 2 (some .int), Cond.methodLink RX4 38 yX4_takeSign, Cond.instanceMethod yX4_takeSign]
def wsL_law0_r7 : List Cond := [Cond.selects RX4 yX4_takeSign yX4_takeSign, Cond.code yX4_takeSign cX4_takeSign 2 none, Cond.methodLink RX4 30 yX2_isZero, Cond.instanceMethod yX2_isZero, Cond.selects RX2 yX2_isZero yX2_isZero, Cond.code yX2_isZero cX2_isZero 1 (some .boolean), Cond.methodLink RX4 42 yX2_order, Cond.instanceMethod yX2_order, Cond.selects RX2 yX2_order yX2_order, Cond.code yX2_order cX2_order 3 (some .int), Cond.methodLink RX4 46 yX2_takeDifference, Cond.instanceMethod yX2_takeDifference, Cond.selects RX2 yX2_takeDifference yX2_takeDifference, Cond.code yX2_takeDifference cX2_takeDifference 7 none, Cond.methodLink RX5 66 yX5_keepResult, Cond.instanceMethod yX5_keepResult, Cond.selects RX5 yX5_keepResult yX5_keepResult, Cond.code yX5_keepResult cX5_keepResult 3 (some .int), Cond.fieldLink RX5 74 "WholeNumbers$Whole" "size" "LWholeNumbers$Natural;", Cond.methodLink RX5 102 yX2_bitLength, Cond.instanceMethod yX2_bitLength, Cond.selects RX2 yX2_bitLength yX2_bitLength, Cond.code yX2_bitLength cX2_bitLength 1 (some .int), Cond.methodLink RX2 19 yX2_spareBits]
def wsL_law0_r8 : List Cond := [Cond.instanceMethod yX2_spareBits, Cond.selects RX2 yX2_spareBits yX2_spareBits, Cond.code yX2_spareBits cX2_spareBits 1 (some .int), Cond.methodLink RX2 27 yJ6_numberOfLeadingZeros_0f7a4, Cond.static yJ6_numberOfLeadingZeros_0f7a4, Cond.initialized RJ6, Cond.code yJ6_numberOfLeadingZeros_0f7a4 cJ6_numberOfLeadingZeros_0f7a4 2 (some .int), Cond.constant RJ6 264 (65536), Cond.methodLink RX5 99 yX4_take, Cond.instanceMethod yX4_take, Cond.selects RX4 yX4_take yX4_take, Cond.code yX4_take cX4_take 2 none, Cond.methodLink RX4 18 yX2_take, Cond.instanceMethod yX2_take, Cond.selects RX2 yX2_take yX2_take, Cond.code yX2_take cX2_take 2 none, Cond.methodLink RX2 33 arraycopyName, Cond.native arraycopyName, Cond.static arraycopyName, Cond.initialized "java/lang/System", Cond.methodLink RX5 70 yX4_takeProduct, Cond.instanceMethod yX4_takeProduct, Cond.selects RX4 yX4_takeProduct yX4_takeProduct, Cond.code yX4_takeProduct cX4_takeProduct 3 (some .boolean)]
def wsL_law0_r9 : List Cond := [Cond.methodLink RX4 49 yX2_bitLength, Cond.methodLink RX4 53 yX2_takeProduct, Cond.instanceMethod yX2_takeProduct, Cond.selects RX2 yX2_takeProduct yX2_takeProduct, Cond.code yX2_takeProduct cX2_takeProduct 5 none, Cond.methodLink RX2 52 yX2_addRow, Cond.instanceMethod yX2_addRow, Cond.selects RX2 yX2_addRow yX2_addRow, Cond.code yX2_addRow cX2_addRow 10 (some .int), Cond.methodLink RL 36 yX6_reckon, Cond.instanceMethod yX6_reckon, Cond.selects RX6 yX6_reckon yX6_reckon, Cond.code yX6_reckon cX6_reckon 6 (some .int), Cond.fieldLink RX6 89 "WholeNumbersModel" "zn" "I", Cond.methodLink RX6 70 yX6_toX, Cond.instanceMethod yX6_toX, Cond.selects RX6 yX6_toX yX6_toX, Cond.code yX6_toX cX6_toX 3 none, Cond.methodLink RX6 92 yX6_toY, Cond.instanceMethod yX6_toY, Cond.selects RX6 yX6_toY yX6_toY, Cond.code yX6_toY cX6_toY 3 none, Cond.fieldLink RX6 55 "WholeNumbersModel" "yn" "I", Cond.methodLink RX6 95 yX6_multiply]
def wsL_law0_r10 : List Cond := [Cond.instanceMethod yX6_multiply, Cond.selects RX6 yX6_multiply yX6_multiply, Cond.code yX6_multiply cX6_multiply 5 none, Cond.methodLink RX6 52 yX6_shortened, Cond.static yX6_shortened, Cond.code yX6_shortened cX6_shortened 3 (some .int), Cond.methodLink RX6 98 yX6_put, Cond.instanceMethod yX6_put, Cond.selects RX6 yX6_put yX6_put, Cond.code yX6_put cX6_put 6 (some .int), Cond.methodLink RX6 62 yX6_isWithin, Cond.instanceMethod yX6_isWithin, Cond.selects RX6 yX6_isWithin yX6_isWithin, Cond.code yX6_isWithin cX6_isWithin 3 (some .boolean), Cond.methodLink RX6 58 yX6_compareRows, Cond.static yX6_compareRows, Cond.code yX6_compareRows cX6_compareRows 5 (some .int), Cond.methodLink RX6 66 yX6_bitsOf, Cond.instanceMethod yX6_bitsOf, Cond.selects RX6 yX6_bitsOf yX6_bitsOf, Cond.code yX6_bitsOf cX6_bitsOf 3 (some .int), Cond.methodLink RX6 74 yX6_half, Cond.static yX6_half, Cond.code yX6_half cX6_half 5 (some .int)]
def wsL_law0_r11 : List Cond := [Cond.methodLink RX6 102 yX6_sum, Cond.instanceMethod yX6_sum, Cond.selects RX6 yX6_sum yX6_sum, Cond.code yX6_sum cX6_sum 4 (some .int), Cond.methodLink RX6 83 yX6_added, Cond.static yX6_added, Cond.code yX6_added cX6_added 7 (some .int), Cond.methodLink RX6 86 yX6_taken, Cond.static yX6_taken, Cond.code yX6_taken cX6_taken 7 (some .int), Cond.methodLink RL 37 yL_divide, Cond.static yL_divide, Cond.initialized RL, Cond.codeWith yL_divide cL_divide 8 (some .int) [(0, 16, 19, 13)], Cond.classLink RL 13 "java/lang/ArithmeticException", Cond.methodLink RL 7 yX5_divide, Cond.instanceMethod yX5_divide, Cond.selects RX5 yX5_divide yX5_divide, Cond.code yX5_divide cX5_divide 8 (some .int), Cond.classLink RX5 84 "java/lang/ArithmeticException", Cond.initialized "java/lang/ArithmeticException", Cond.methodLink RX5 78 yX2_isZero, Cond.methodLink RX5 91 yX5_cutQuotient, Cond.instanceMethod yX5_cutQuotient]
def wsL_law0_r12 : List Cond := [Cond.selects RX5 yX5_cutQuotient yX5_cutQuotient, Cond.code yX5_cutQuotient cX5_cutQuotient 3 none, Cond.fieldLink RX5 188 "WholeNumbers$LongDivision" "quotient" "LWholeNumbers$Natural;", Cond.fieldLink RX5 191 "WholeNumbers$LongDivision" "rest" "LWholeNumbers$Natural;", Cond.methodLink RX5 184 yX1_split, Cond.instanceMethod yX1_split, Cond.selects RX1 yX1_split yX1_split, Cond.code yX1_split cX1_split 7 none, Cond.fieldLink RX1 36 "WholeNumbers$Natural" "count" "I", Cond.methodLink RX1 44 Lib.Math.max.name, Cond.fieldLink RX1 50 "WholeNumbers$Natural" "limbs" "[I", Cond.methodLink RX1 24 yX2_isZero, Cond.methodLink RX1 28 yX2_spareBits, Cond.methodLink RX1 32 yX2_shiftUp, Cond.instanceMethod yX2_shiftUp, Cond.selects RX2 yX2_shiftUp yX2_shiftUp, Cond.code yX2_shiftUp cX2_shiftUp 8 none, Cond.methodLink RX1 40 yX2_padTo, Cond.instanceMethod yX2_padTo, Cond.selects RX2 yX2_padTo yX2_padTo, Cond.code yX2_padTo cX2_padTo 3 none, Cond.methodLink RX1 54 yX1_takeDigit, Cond.instanceMethod yX1_takeDigit, Cond.selects RX1 yX1_takeDigit yX1_takeDigit]
def wsL_law0_r13 : List Cond := [Cond.code yX1_takeDigit cX1_takeDigit 3 (some .int), Cond.methodLink RX1 64 yX1_guessDigit, Cond.instanceMethod yX1_guessDigit, Cond.selects RX1 yX1_guessDigit yX1_guessDigit, Cond.code yX1_guessDigit cX1_guessDigit 16 (some .int), Cond.constantLong RX1 77 (1073741823), Cond.methodLink RX1 74 yX2_limb, Cond.methodLink RX1 67 yX1_subtractAt, Cond.instanceMethod yX1_subtractAt, Cond.selects RX1 yX1_subtractAt yX1_subtractAt, Cond.code yX1_subtractAt cX1_subtractAt 10 (some .boolean), Cond.constant RX1 79 (1073741823), Cond.methodLink RX1 71 yX1_addBackAt, Cond.instanceMethod yX1_addBackAt, Cond.selects RX1 yX1_addBackAt yX1_addBackAt, Cond.code yX1_addBackAt cX1_addBackAt 6 none, Cond.methodLink RX1 58 yX2_trim, Cond.methodLink RX1 61 yX2_shiftDown, Cond.instanceMethod yX2_shiftDown, Cond.selects RX2 yX2_shiftDown yX2_shiftDown, Cond.code yX2_shiftDown cX2_shiftDown 5 none, Cond.methodLink RX2 56 yX2_limbFrom, Cond.instanceMethod yX2_limbFrom, Cond.selects RX2 yX2_limbFrom yX2_limbFrom]
def wsL_law0_r14 : List Cond := [Cond.code yX2_limbFrom cX2_limbFrom 4 (some .int), Cond.methodLink RX5 110 yX2_take, Cond.methodLink RX5 113 yX4_takeSign, Cond.methodLink RX5 95 yX5_stepDown, Cond.instanceMethod yX5_stepDown, Cond.selects RX5 yX5_stepDown yX5_stepDown, Cond.code yX5_stepDown cX5_stepDown 2 none, Cond.methodLink RX5 194 yX2_timesPlus, Cond.instanceMethod yX2_timesPlus, Cond.selects RX2 yX2_timesPlus yX2_timesPlus, Cond.code yX2_timesPlus cX2_timesPlus 8 none, Cond.methodLink RX5 198 yX2_takeDifference, Cond.methodLink RL 42 yX6_divide, Cond.instanceMethod yX6_divide, Cond.selects RX6 yX6_divide yX6_divide, Cond.code yX6_divide cX6_divide 10 (some .int), Cond.methodLink RX6 106 yX6_split, Cond.instanceMethod yX6_split, Cond.selects RX6 yX6_split yX6_split, Cond.code yX6_split cX6_split 3 none, Cond.methodLink RL 43 yX6_thrown, Cond.instanceMethod yX6_thrown, Cond.selects RX6 yX6_thrown yX6_thrown, Cond.code yX6_thrown cX6_thrown 1 (some .int)]
def wsL_law0_r15 : List Cond := [Cond.methodLink RL 47 yX5_gcd, Cond.instanceMethod yX5_gcd, Cond.selects RX5 yX5_gcd yX5_gcd, Cond.code yX5_gcd cX5_gcd 4 (some .int), Cond.methodLink RX5 106 yX0_commonDivisor, Cond.instanceMethod yX0_commonDivisor, Cond.selects RX0 yX0_commonDivisor yX0_commonDivisor, Cond.code yX0_commonDivisor cX0_commonDivisor 5 (some (.object "WholeNumbers$Natural")), Cond.methodLink RX0 25 yX2_order, Cond.methodLink RX0 29 yX2_take, Cond.methodLink RX0 33 yX2_isZero, Cond.methodLink RX0 37 yX0_foreseeSteps, Cond.instanceMethod yX0_foreseeSteps, Cond.selects RX0 yX0_foreseeSteps yX0_foreseeSteps, Cond.code yX0_foreseeSteps cX0_foreseeSteps 15 (some .boolean), Cond.methodLink RX0 59 Lib.Math.max.name, Cond.fieldLink RX0 69 "WholeNumbers$Euclid" "a" "J", Cond.fieldLink RX0 73 "WholeNumbers$Euclid" "b" "J", Cond.fieldLink RX0 76 "WholeNumbers$Euclid" "c" "J", Cond.fieldLink RX0 79 "WholeNumbers$Euclid" "d" "J", Cond.methodLink RX0 55 yX2_bitLength, Cond.methodLink RX0 65 yX0_headFrom, Cond.static yX0_headFrom, Cond.code yX0_headFrom cX0_headFrom 2 (some .long)]
def wsL_law0_r16 : List Cond := [Cond.methodLink RX0 82 yX2_limbFrom, Cond.methodLink RX0 40 yX0_takeForeseenSteps, Cond.instanceMethod yX0_takeForeseenSteps, Cond.selects RX0 yX0_takeForeseenSteps yX0_takeForeseenSteps, Cond.code yX0_takeForeseenSteps cX0_takeForeseenSteps 11 none, Cond.fieldLink RX0 86 "WholeNumbers$Natural" "count" "I", Cond.fieldLink RX0 94 "WholeNumbers$Natural" "limbs" "[I", Cond.constant RX0 98 (1073741823), Cond.methodLink RX0 90 yX2_padTo, Cond.methodLink RX0 99 yX2_trim, Cond.methodLink RX0 43 yX0_takeStep, Cond.instanceMethod yX0_takeStep, Cond.selects RX0 yX0_takeStep yX0_takeStep, Cond.code yX0_takeStep cX0_takeStep 2 none, Cond.fieldLink RX0 52 "WholeNumbers$LongDivision" "rest" "LWholeNumbers$Natural;", Cond.methodLink RX0 46 yX1_split, Cond.methodLink RL 51 yX6_gcd, Cond.instanceMethod yX6_gcd, Cond.selects RX6 yX6_gcd yX6_gcd, Cond.code yX6_gcd cX6_gcd 6 (some .int), Cond.methodLink RX6 109 yX6_isOdd, Cond.static yX6_isOdd, Cond.code yX6_isOdd cX6_isOdd 2 (some .boolean), Cond.methodLink RL 52 yL_root]
def wsL_law0_r17 : List Cond := [Cond.static yL_root, Cond.codeWith yL_root cL_root 5 (some .int) [(0, 10, 13, 19)], Cond.classLink RL 19 "java/lang/IllegalArgumentException", Cond.methodLink RL 15 yX5_root, Cond.instanceMethod yX5_root, Cond.selects RX5 yX5_root yX5_root, Cond.code yX5_root cX5_root 3 (some .int), Cond.classLink RX5 117 "java/lang/IllegalArgumentException", Cond.initialized "java/lang/IllegalArgumentException", Cond.methodLink RX5 122 yX5_takeRoot, Cond.instanceMethod yX5_takeRoot, Cond.selects RX5 yX5_takeRoot yX5_takeRoot, Cond.code yX5_takeRoot cX5_takeRoot 5 none, Cond.methodLink RX5 129 yX2_shiftUp, Cond.methodLink RX5 201 yX2_takeSum, Cond.methodLink RX5 125 yX2_shiftDown, Cond.methodLink RX5 203 yX2_order, Cond.methodLink RL 55 yX6_root, Cond.instanceMethod yX6_root, Cond.selects RX6 yX6_root yX6_root, Cond.code yX6_root cX6_root 3 (some .int), Cond.methodLink RX6 112 yX6_isOne, Cond.instanceMethod yX6_isOne, Cond.selects RX6 yX6_isOne yX6_isOne]
def wsL_law0_r18 : List Cond := [Cond.code yX6_isOne cX6_isOne 1 (some .boolean), Cond.methodLink RL 56 yX5_shift, Cond.instanceMethod yX5_shift, Cond.selects RX5 yX5_shift yX5_shift, Cond.code yX5_shift cX5_shift 5 (some .int), Cond.methodLink RL 59 yX6_shift, Cond.instanceMethod yX6_shift, Cond.selects RX6 yX6_shift yX6_shift, Cond.code yX6_shift cX6_shift 5 (some .int), Cond.methodLink RL 60 yX5_power, Cond.instanceMethod yX5_power, Cond.selects RX5 yX5_power yX5_power, Cond.code yX5_power cX5_power 4 (some .int), Cond.methodLink RX5 132 yX5_takePower, Cond.instanceMethod yX5_takePower, Cond.selects RX5 yX5_takePower yX5_takePower, Cond.code yX5_takePower cX5_takePower 4 (some .boolean), Cond.methodLink RX5 206 yX5_multiplyResult, Cond.instanceMethod yX5_multiplyResult, Cond.selects RX5 yX5_multiplyResult yX5_multiplyResult, Cond.code yX5_multiplyResult cX5_multiplyResult 2 (some .boolean), Cond.methodLink RL 63 yX6_power, Cond.instanceMethod yX6_power, Cond.selects RX6 yX6_power yX6_power]
def wsL_law0_r19 : List Cond := [Cond.code yX6_power cX6_power 7 (some .int), Cond.methodLink RL 64 yX5_compare, Cond.instanceMethod yX5_compare, Cond.selects RX5 yX5_compare yX5_compare, Cond.code yX5_compare cX5_compare 3 (some .int), Cond.methodLink RX5 136 yX4_order, Cond.instanceMethod yX4_order, Cond.selects RX4 yX4_order yX4_order, Cond.code yX4_order cX4_order 2 (some .int), Cond.methodLink RL 67 yX6_compare, Cond.instanceMethod yX6_compare, Cond.selects RX6 yX6_compare yX6_compare, Cond.code yX6_compare cX6_compare 4 (some .int), Cond.methodLink RL 68 yX5_sign, Cond.instanceMethod yX5_sign, Cond.selects RX5 yX5_sign yX5_sign, Cond.code yX5_sign cX5_sign 2 (some .int), Cond.methodLink RX5 140 yX4_direction, Cond.instanceMethod yX4_direction, Cond.selects RX4 yX4_direction yX4_direction, Cond.code yX4_direction cX4_direction 1 (some .int), Cond.methodLink RL 72 yX6_sign, Cond.instanceMethod yX6_sign, Cond.selects RX6 yX6_sign yX6_sign]
def wsL_law0_r20 : List Cond := [Cond.code yX6_sign cX6_sign 2 (some .int), Cond.methodLink RL 73 yX5_bits, Cond.instanceMethod yX5_bits, Cond.selects RX5 yX5_bits yX5_bits, Cond.code yX5_bits cX5_bits 2 (some .int), Cond.methodLink RL 76 yX6_bits, Cond.instanceMethod yX6_bits, Cond.selects RX6 yX6_bits yX6_bits, Cond.code yX6_bits cX6_bits 2 (some .int), Cond.methodLink RL 77 yX5_part, Cond.instanceMethod yX5_part, Cond.selects RX5 yX5_part yX5_part, Cond.code yX5_part cX5_part 3 (some .int), Cond.methodLink RX5 143 yX2_limbFrom, Cond.methodLink RL 80 yX6_part, Cond.instanceMethod yX6_part, Cond.selects RX6 yX6_part yX6_part, Cond.code yX6_part cX6_part 5 (some .int), Cond.methodLink RL 81 yX5_hasBelow, Cond.instanceMethod yX5_hasBelow, Cond.selects RX5 yX5_hasBelow yX5_hasBelow, Cond.code yX5_hasBelow cX5_hasBelow 3 (some .boolean), Cond.methodLink RX5 146 yX2_anyBitBelow, Cond.instanceMethod yX2_anyBitBelow]
def wsL_law0_r21 : List Cond := [Cond.selects RX2 yX2_anyBitBelow yX2_anyBitBelow, Cond.code yX2_anyBitBelow cX2_anyBitBelow 4 (some .boolean), Cond.methodLink RL 85 yX6_hasBelow, Cond.instanceMethod yX6_hasBelow, Cond.selects RX6 yX6_hasBelow yX6_hasBelow, Cond.code yX6_hasBelow cX6_hasBelow 3 (some .boolean), Cond.methodLink RX6 116 yX6_anyBelow, Cond.instanceMethod yX6_anyBelow, Cond.selects RX6 yX6_anyBelow yX6_anyBelow, Cond.code yX6_anyBelow cX6_anyBelow 4 (some .boolean), Cond.methodLink RL 86 yX5_low, Cond.instanceMethod yX5_low, Cond.selects RX5 yX5_low yX5_low, Cond.code yX5_low cX5_low 2 (some .long), Cond.methodLink RX5 149 yX5_fits, Cond.instanceMethod yX5_fits, Cond.selects RX5 yX5_fits yX5_fits, Cond.code yX5_fits cX5_fits 2 (some .boolean), Cond.methodLink RX5 156 yX4_isLong, Cond.instanceMethod yX4_isLong, Cond.selects RX4 yX4_isLong yX4_isLong, Cond.code yX4_isLong cX4_isLong 3 (some .boolean), Cond.methodLink RX4 58 yX2_anyBitBelow, Cond.methodLink RX5 152 yX4_asLong]
def wsL_law0_r22 : List Cond := [Cond.instanceMethod yX4_asLong, Cond.selects RX4 yX4_asLong yX4_asLong, Cond.code yX4_asLong cX4_asLong 1 (some .long), Cond.methodLink RX4 62 yX2_lowestLong, Cond.instanceMethod yX2_lowestLong, Cond.selects RX2 yX2_lowestLong yX2_lowestLong, Cond.code yX2_lowestLong cX2_lowestLong 1 (some .long), Cond.methodLink RL 90 yX6_low, Cond.instanceMethod yX6_low, Cond.selects RX6 yX6_low yX6_low, Cond.code yX6_low cX6_low 5 (some .long), Cond.methodLink RX6 120 yX6_isLong, Cond.instanceMethod yX6_isLong, Cond.selects RX6 yX6_isLong yX6_isLong, Cond.code yX6_isLong cX6_isLong 3 (some .boolean), Cond.methodLink RL 91 yX5_fits, Cond.methodLink RL 95 yX6_fits, Cond.instanceMethod yX6_fits, Cond.selects RX6 yX6_fits yX6_fits, Cond.code yX6_fits cX6_fits 2 (some .boolean), Cond.methodLink RL 96 yX5_write, Cond.instanceMethod yX5_write, Cond.selects RX5 yX5_write yX5_write, Cond.code yX5_write cX5_write 3 (some .int)]
def wsL_law0_r23 : List Cond := [Cond.fieldLink RX5 166 "WholeNumbers$Text" "length" "I", Cond.methodLink RX5 159 yX5_isBase, Cond.static yX5_isBase, Cond.code yX5_isBase cX5_isBase 1 (some .boolean), Cond.methodLink RX5 162 yX3_spell, Cond.instanceMethod yX3_spell, Cond.selects RX3 yX3_spell yX3_spell, Cond.code yX3_spell cX3_spell 3 none, Cond.fieldLink RX3 15 "WholeNumbers$Text" "length" "I", Cond.fieldLink RX3 19 "WholeNumbers$Whole" "size" "LWholeNumbers$Natural;", Cond.fieldLink RX3 29 "WholeNumbers$Whole" "negative" "Z", Cond.methodLink RX3 25 yX3_appendDigitsBackwards, Cond.instanceMethod yX3_appendDigitsBackwards, Cond.selects RX3 yX3_appendDigitsBackwards yX3_appendDigitsBackwards, Cond.code yX3_appendDigitsBackwards cX3_appendDigitsBackwards 8 none, Cond.methodLink RX3 40 yX2_isZero, Cond.methodLink RX3 33 yX3_append, Cond.instanceMethod yX3_append, Cond.selects RX3 yX3_append yX3_append, Cond.code yX3_append cX3_append 2 none, Cond.methodLink RX3 46 yX3_digitsInLimb, Cond.static yX3_digitsInLimb, Cond.code yX3_digitsInLimb cX3_digitsInLimb 5 (some .int), Cond.constantLong RX3 96 (1073741823)]
def wsL_law0_r24 : List Cond := [Cond.methodLink RX3 50 yX3_powerOf, Cond.static yX3_powerOf, Cond.code yX3_powerOf cX3_powerOf 4 (some .int), Cond.methodLink RX3 54 yX2_cutBy, Cond.instanceMethod yX2_cutBy, Cond.selects RX2 yX2_cutBy yX2_cutBy, Cond.code yX2_cutBy cX2_cutBy 7 (some .int), Cond.methodLink RX3 57 yX3_letterOf, Cond.static yX3_letterOf, Cond.code yX3_letterOf cX3_letterOf 1 (some .char), Cond.methodLink RX3 37 yX3_reverse, Cond.instanceMethod yX3_reverse, Cond.selects RX3 yX3_reverse yX3_reverse, Cond.code yX3_reverse cX3_reverse 4 none, Cond.methodLink RL 99 yX6_write, Cond.instanceMethod yX6_write, Cond.selects RX6 yX6_write yX6_write, Cond.code yX6_write cX6_write 7 (some .int), Cond.fieldLink RX6 123 "WholeNumbersModel" "letters" "I", Cond.methodLink RL 100 yX5_type, Cond.instanceMethod yX5_type, Cond.selects RX5 yX5_type yX5_type, Cond.code yX5_type cX5_type 2 (some .int), Cond.methodLink RX5 170 yX3_append]
def wsL_law0_r25 : List Cond := [Cond.methodLink RL 103 yX6_type, Cond.instanceMethod yX6_type, Cond.selects RX6 yX6_type yX6_type, Cond.code yX6_type cX6_type 2 (some .int), Cond.methodLink RL 104 yX5_clear, Cond.instanceMethod yX5_clear, Cond.selects RX5 yX5_clear yX5_clear, Cond.code yX5_clear cX5_clear 1 none, Cond.methodLink RL 107 yX6_clear, Cond.instanceMethod yX6_clear, Cond.selects RX6 yX6_clear yX6_clear, Cond.code yX6_clear cX6_clear 1 none, Cond.methodLink RL 108 yX5_character, Cond.instanceMethod yX5_character, Cond.selects RX5 yX5_character yX5_character, Cond.code yX5_character cX5_character 2 (some .int), Cond.fieldLink RX5 174 "WholeNumbers$Text" "letters" "[C", Cond.methodLink RL 111 yX6_character, Cond.instanceMethod yX6_character, Cond.selects RX6 yX6_character yX6_character, Cond.code yX6_character cX6_character 2 (some .int), Cond.methodLink RL 112 yX5_read, Cond.instanceMethod yX5_read, Cond.selects RX5 yX5_read yX5_read]
def wsL_law0_r26 : List Cond := [Cond.code yX5_read cX5_read 3 (some .int), Cond.methodLink RX5 178 yX3_tellsNumber, Cond.instanceMethod yX3_tellsNumber, Cond.selects RX3 yX3_tellsNumber yX3_tellsNumber, Cond.code yX3_tellsNumber cX3_tellsNumber 5 (some .boolean), Cond.methodLink RX3 61 yX3_firstDigit, Cond.instanceMethod yX3_firstDigit, Cond.selects RX3 yX3_firstDigit yX3_firstDigit, Cond.code yX3_firstDigit cX3_firstDigit 1 (some .int), Cond.methodLink RX3 65 yX3_digitOf, Cond.static yX3_digitOf, Cond.code yX3_digitOf cX3_digitOf 1 (some .int), Cond.methodLink RX5 181 yX3_tell, Cond.instanceMethod yX3_tell, Cond.selects RX3 yX3_tell yX3_tell, Cond.code yX3_tell cX3_tell 7 none, Cond.methodLink RX3 73 Lib.Math.max.name, Cond.methodLink RX3 81 Lib.Math.min.name, Cond.methodLink RX3 69 yX4_takeLong, Cond.methodLink RX3 78 yX2_bitLength, Cond.methodLink RX3 84 yX3_pieceBetween, Cond.instanceMethod yX3_pieceBetween, Cond.selects RX3 yX3_pieceBetween yX3_pieceBetween, Cond.code yX3_pieceBetween cX3_pieceBetween 6 (some .int)]
def wsL_law0_r27 : List Cond := [Cond.methodLink RX3 88 yX2_timesPlus, Cond.methodLink RX3 92 yX4_takeSign, Cond.methodLink RL 115 yX6_read, Cond.instanceMethod yX6_read, Cond.selects RX6 yX6_read yX6_read, Cond.code yX6_read cX6_read 7 (some .int), Cond.methodLink RX6 126 yX6_digit, Cond.static yX6_digit, Cond.code yX6_digit cX6_digit 3 (some .int)]
def wsL_law0 : List Cond := (wsL_law0_r1 ++ (wsL_law0_r2 ++ (wsL_law0_r3 ++ (wsL_law0_r4 ++ (wsL_law0_r5 ++ (wsL_law0_r6 ++ (wsL_law0_r7 ++ (wsL_law0_r8 ++ (wsL_law0_r9 ++ (wsL_law0_r10 ++ (wsL_law0_r11 ++ (wsL_law0_r12 ++ (wsL_law0_r13 ++ (wsL_law0_r14 ++ (wsL_law0_r15 ++ (wsL_law0_r16 ++ (wsL_law0_r17 ++ (wsL_law0_r18 ++ (wsL_law0_r19 ++ (wsL_law0_r20 ++ (wsL_law0_r21 ++ (wsL_law0_r22 ++ (wsL_law0_r23 ++ (wsL_law0_r24 ++ (wsL_law0_r25 ++ (wsL_law0_r26 ++ wsL_law0_r27)))))))))))))))))))))))))) ++ wsX50 ++ wsX60 ++ wsX40 ++ wsX10 ++ wsX00 ++ wsX30 ++ wsX20 ++ ([] : List Cond)
def wsL_law : List Cond := wsL_law0 ++ (vx_atS RX5 88 "java/lang/ArithmeticException" ["java/lang/RuntimeException", "java/lang/Exception"]).filter goodWord ++ (vx_atS RX5 121 "java/lang/IllegalArgumentException" ["java/lang/RuntimeException", "java/lang/Exception"]).filter goodWord
end
section
set_option maxRecDepth 20000 in
theorem ggX0_init_X2_init : GoodIn wsX0_init wsX2_init := goodIn_r _ [11, 12, 2, 3, 13, 14, 15, 16] (by decide +kernel) (by decide +kernel)
set_option maxRecDepth 20000 in
theorem gX0_init_X2_init_n13 : GoodIn wsX0_init (wsX2_init) := ggX0_init_X2_init
theorem dX0_init_0 : decode cX0_init 0 = .ok (.aload_n 0, 1) := by decide +kernel
theorem dX0_init_1 : decode cX0_init 1 = .ok (.invokespecial 5, 3) := by decide +kernel
theorem dX0_init_4 : decode cX0_init 4 = .ok (.aload_n 0, 1) := by decide +kernel
theorem dX0_init_5 : decode cX0_init 5 = .ok (.new 11, 3) := by decide +kernel
theorem dX0_init_8 : decode cX0_init 8 = .ok (.dup, 1) := by decide +kernel
theorem dX0_init_9 : decode cX0_init 9 = .ok (.invokespecial 13, 3) := by decide +kernel
theorem dX0_init_12 : decode cX0_init 12 = .ok (.putfield 14, 3) := by decide +kernel
theorem dX0_init_15 : decode cX0_init 15 = .ok (.aload_n 0, 1) := by decide +kernel
theorem dX0_init_16 : decode cX0_init 16 = .ok (.new 11, 3) := by decide +kernel
theorem dX0_init_19 : decode cX0_init 19 = .ok (.dup, 1) := by decide +kernel
theorem dX0_init_20 : decode cX0_init 20 = .ok (.invokespecial 13, 3) := by decide +kernel
theorem dX0_init_23 : decode cX0_init 23 = .ok (.putfield 18, 3) := by decide +kernel
theorem dX0_init_26 : decode cX0_init 26 = .ok (.aload_n 0, 1) := by decide +kernel
theorem dX0_init_27 : decode cX0_init 27 = .ok (.aload_n 1, 1) := by decide +kernel
theorem dX0_init_28 : decode cX0_init 28 = .ok (.putfield 21, 3) := by decide +kernel
theorem dX0_init_31 : decode cX0_init 31 = .ok (.return_, 1) := by decide +kernel
set_option maxRecDepth 20000 in
theorem ggX0_commonDivisor_X2_order : GoodIn wsX0_commonDivisor wsX2_order := goodIn_r _ [7, 8, 9, 136, 137] (by decide +kernel) (by decide +kernel)
set_option maxRecDepth 20000 in
theorem gX0_commonDivisor_X2_order : GoodIn wsX0_commonDivisor (wsV RX0 25 RX2 yX2_order wsX2_order) := goodIn_app (goodIn_of _ (by decide +kernel)) ggX0_commonDivisor_X2_order
set_option maxRecDepth 20000 in
theorem ggX0_commonDivisor_X2_take : GoodIn wsX0_commonDivisor wsX2_take := goodIn_r _ [13, 9, 8, 14, 15, 16, 17, 136, 137] (by decide +kernel) (by decide +kernel)
set_option maxRecDepth 20000 in
theorem gX0_commonDivisor_X2_take : GoodIn wsX0_commonDivisor (wsV RX0 29 RX2 yX2_take wsX2_take) := goodIn_app (goodIn_of _ (by decide +kernel)) ggX0_commonDivisor_X2_take
set_option maxRecDepth 20000 in
theorem ggX0_commonDivisor_X2_isZero : GoodIn wsX0_commonDivisor wsX2_isZero := goodIn_r _ [21, 8, 136, 137] (by decide +kernel) (by decide +kernel)
set_option maxRecDepth 20000 in
theorem gX0_commonDivisor_X2_isZero : GoodIn wsX0_commonDivisor (wsV RX0 33 RX2 yX2_isZero wsX2_isZero) := goodIn_app (goodIn_of _ (by decide +kernel)) ggX0_commonDivisor_X2_isZero
set_option maxRecDepth 20000 in
theorem ggX0_commonDivisor_X0_foreseeSteps : GoodIn wsX0_commonDivisor wsX0_foreseeSteps := goodIn_r _ [26, 1, 27, 28, 29, 30, 2, 31, 32, 33, 34, 35, 36, 37, 6, 38, 8, 39, 40, 41, 42, 43, 44, 45, 46, 9, 47, 48, 49, 50, 51, 52, 53, 25, 54, 55, 56, 57, 58, 59, 129, 130, 131, 132, 133, 134, 135, 136, 137] (by decide +kernel) (by decide +kernel)
set_option maxRecDepth 20000 in
theorem gX0_commonDivisor_X0_foreseeSteps : GoodIn wsX0_commonDivisor (wsV RX0 37 RX0 yX0_foreseeSteps wsX0_foreseeSteps) := goodIn_app (goodIn_of _ (by decide +kernel)) ggX0_commonDivisor_X0_foreseeSteps
set_option maxRecDepth 20000 in
theorem ggX0_commonDivisor_X0_takeForeseenSteps : GoodIn wsX0_commonDivisor wsX0_takeForeseenSteps := goodIn_r _ [63, 1, 64, 2, 65, 31, 32, 33, 34, 66, 67, 68, 69, 6, 70, 8, 9, 71, 72, 73, 74, 75, 76, 29, 77, 78, 28, 30, 129, 130, 131, 132, 133, 134, 135, 136, 137] (by decide +kernel) (by decide +kernel)
set_option maxRecDepth 20000 in
theorem gX0_commonDivisor_X0_takeForeseenSteps : GoodIn wsX0_commonDivisor (wsV RX0 40 RX0 yX0_takeForeseenSteps wsX0_takeForeseenSteps) := goodIn_app (goodIn_of _ (by decide +kernel)) ggX0_commonDivisor_X0_takeForeseenSteps
set_option maxRecDepth 20000 in
theorem ggX0_commonDivisor_X0_takeStep : GoodIn wsX0_commonDivisor wsX0_takeStep := goodIn_r _ [82, 83, 1, 2, 84, 85, 86, 87, 88, 89, 90, 91, 92, 93, 28, 29, 30, 94, 95, 96, 19, 20, 6, 21, 8, 97, 40, 41, 42, 43, 44, 45, 46, 9, 47, 48, 49, 50, 51, 98, 99, 100, 101, 75, 76, 77, 59, 102, 72, 73, 74, 78, 103, 68, 69, 70, 104, 105, 106, 107, 108, 109, 110, 111, 112, 113, 114, 115, 116, 117, 118, 119, 120, 121, 122, 123, 124, 125, 126, 127, 128, 56, 57, 58, 10, 11, 12, 13, 14, 15, 16, 17, 129, 130, 131, 132, 133, 134, 135, 138, 139, 140, 136, 137] (by decide +kernel) (by decide +kernel)
set_option maxRecDepth 20000 in
theorem gX0_commonDivisor_X0_takeStep : GoodIn wsX0_commonDivisor (wsV RX0 43 RX0 yX0_takeStep wsX0_takeStep) := goodIn_app (goodIn_of _ (by decide +kernel)) ggX0_commonDivisor_X0_takeStep
theorem dX0_commonDivisor_0 : decode cX0_commonDivisor 0 = .ok (.aload_n 1, 1) := by decide +kernel
theorem dX0_commonDivisor_1 : decode cX0_commonDivisor 1 = .ok (.aload_n 2, 1) := by decide +kernel
theorem dX0_commonDivisor_2 : decode cX0_commonDivisor 2 = .ok (.invokevirtual 25, 3) := by decide +kernel
theorem dX0_commonDivisor_5 : decode cX0_commonDivisor 5 = .ok (.ifCond .lt 7, 3) := by decide +kernel
theorem dX0_commonDivisor_8 : decode cX0_commonDivisor 8 = .ok (.iconst 1, 1) := by decide +kernel
theorem dX0_commonDivisor_9 : decode cX0_commonDivisor 9 = .ok (.goto 4, 3) := by decide +kernel
theorem dX0_commonDivisor_12 : decode cX0_commonDivisor 12 = .ok (.iconst 0, 1) := by decide +kernel
theorem dX0_commonDivisor_13 : decode cX0_commonDivisor 13 = .ok (.istore_n 3, 1) := by decide +kernel
theorem dX0_commonDivisor_14 : decode cX0_commonDivisor 14 = .ok (.aload_n 0, 1) := by decide +kernel
theorem dX0_commonDivisor_15 : decode cX0_commonDivisor 15 = .ok (.getfield 14, 3) := by decide +kernel
theorem dX0_commonDivisor_18 : decode cX0_commonDivisor 18 = .ok (.iload_n 3, 1) := by decide +kernel
theorem dX0_commonDivisor_19 : decode cX0_commonDivisor 19 = .ok (.ifCond .eq 7, 3) := by decide +kernel
theorem dX0_commonDivisor_22 : decode cX0_commonDivisor 22 = .ok (.aload_n 1, 1) := by decide +kernel
theorem dX0_commonDivisor_23 : decode cX0_commonDivisor 23 = .ok (.goto 4, 3) := by decide +kernel
theorem dX0_commonDivisor_26 : decode cX0_commonDivisor 26 = .ok (.aload_n 2, 1) := by decide +kernel
theorem dX0_commonDivisor_27 : decode cX0_commonDivisor 27 = .ok (.invokevirtual 29, 3) := by decide +kernel
theorem dX0_commonDivisor_30 : decode cX0_commonDivisor 30 = .ok (.aload_n 0, 1) := by decide +kernel
theorem dX0_commonDivisor_31 : decode cX0_commonDivisor 31 = .ok (.getfield 18, 3) := by decide +kernel
theorem dX0_commonDivisor_34 : decode cX0_commonDivisor 34 = .ok (.iload_n 3, 1) := by decide +kernel
theorem dX0_commonDivisor_35 : decode cX0_commonDivisor 35 = .ok (.ifCond .eq 7, 3) := by decide +kernel
theorem dX0_commonDivisor_38 : decode cX0_commonDivisor 38 = .ok (.aload_n 2, 1) := by decide +kernel
theorem dX0_commonDivisor_39 : decode cX0_commonDivisor 39 = .ok (.goto 4, 3) := by decide +kernel
theorem dX0_commonDivisor_42 : decode cX0_commonDivisor 42 = .ok (.aload_n 1, 1) := by decide +kernel
theorem dX0_commonDivisor_43 : decode cX0_commonDivisor 43 = .ok (.invokevirtual 29, 3) := by decide +kernel
theorem dX0_commonDivisor_46 : decode cX0_commonDivisor 46 = .ok (.iconst 0, 1) := by decide +kernel
theorem dX0_commonDivisor_47 : decode cX0_commonDivisor 47 = .ok (.istore 4, 2) := by decide +kernel
theorem dX0_commonDivisor_49 : decode cX0_commonDivisor 49 = .ok (.iload 4, 2) := by decide +kernel
theorem dX0_commonDivisor_51 : decode cX0_commonDivisor 51 = .ok (.sipush 8194, 3) := by decide +kernel
theorem dX0_commonDivisor_54 : decode cX0_commonDivisor 54 = .ok (.if_icmp .ge 37, 3) := by decide +kernel
theorem dX0_commonDivisor_57 : decode cX0_commonDivisor 57 = .ok (.aload_n 0, 1) := by decide +kernel
theorem dX0_commonDivisor_58 : decode cX0_commonDivisor 58 = .ok (.getfield 18, 3) := by decide +kernel
theorem dX0_commonDivisor_61 : decode cX0_commonDivisor 61 = .ok (.invokevirtual 33, 3) := by decide +kernel
theorem dX0_commonDivisor_64 : decode cX0_commonDivisor 64 = .ok (.ifCond .ne 27, 3) := by decide +kernel
theorem dX0_commonDivisor_67 : decode cX0_commonDivisor 67 = .ok (.aload_n 0, 1) := by decide +kernel
theorem dX0_commonDivisor_68 : decode cX0_commonDivisor 68 = .ok (.invokevirtual 37, 3) := by decide +kernel
theorem dX0_commonDivisor_71 : decode cX0_commonDivisor 71 = .ok (.ifCond .eq 10, 3) := by decide +kernel
theorem dX0_commonDivisor_74 : decode cX0_commonDivisor 74 = .ok (.aload_n 0, 1) := by decide +kernel
theorem dX0_commonDivisor_75 : decode cX0_commonDivisor 75 = .ok (.invokevirtual 40, 3) := by decide +kernel
theorem dX0_commonDivisor_78 : decode cX0_commonDivisor 78 = .ok (.goto 7, 3) := by decide +kernel
theorem dX0_commonDivisor_81 : decode cX0_commonDivisor 81 = .ok (.aload_n 0, 1) := by decide +kernel
theorem dX0_commonDivisor_82 : decode cX0_commonDivisor 82 = .ok (.invokevirtual 43, 3) := by decide +kernel
theorem dX0_commonDivisor_85 : decode cX0_commonDivisor 85 = .ok (.iinc 4 1, 3) := by decide +kernel
theorem dX0_commonDivisor_88 : decode cX0_commonDivisor 88 = .ok (.goto (-39), 3) := by decide +kernel
theorem dX0_commonDivisor_91 : decode cX0_commonDivisor 91 = .ok (.aload_n 0, 1) := by decide +kernel
theorem dX0_commonDivisor_92 : decode cX0_commonDivisor 92 = .ok (.getfield 14, 3) := by decide +kernel
theorem dX0_commonDivisor_95 : decode cX0_commonDivisor 95 = .ok (.areturn, 1) := by decide +kernel
set_option maxRecDepth 20000 in
theorem ggX0_takeStep_X1_split : GoodIn wsX0_takeStep wsX1_split := goodIn_r _ [9, 10, 11, 12, 13, 14, 15, 16, 17, 18, 19, 20, 21, 22, 23, 24, 25, 26, 27, 28, 29, 30, 31, 32, 33, 34, 35, 36, 37, 38, 39, 40, 41, 42, 43, 44, 45, 46, 47, 48, 49, 50, 51, 52, 53, 54, 55, 56, 57, 58, 8, 59, 60, 61, 62, 63, 64, 65, 66, 67, 68, 69, 70, 71, 72, 73, 74, 75, 76, 77, 78, 79, 80, 81, 82, 83, 99, 100, 101, 102, 103] (by decide +kernel) (by decide +kernel)
set_option maxRecDepth 20000 in
theorem gX0_takeStep_X1_split : GoodIn wsX0_takeStep (wsV RX0 46 RX1 yX1_split wsX1_split) := goodIn_app (goodIn_of _ (by decide +kernel)) ggX0_takeStep_X1_split
set_option maxRecDepth 20000 in
theorem ggX0_takeStep_X2_take : GoodIn wsX0_takeStep wsX2_take := goodIn_r _ [87, 33, 24, 88, 89, 90, 91, 102, 103] (by decide +kernel) (by decide +kernel)
set_option maxRecDepth 20000 in
theorem gX0_takeStep_X2_take : GoodIn wsX0_takeStep (wsV RX0 29 RX2 yX2_take wsX2_take) := goodIn_app (goodIn_of _ (by decide +kernel)) ggX0_takeStep_X2_take
theorem dX0_takeStep_0 : decode cX0_takeStep 0 = .ok (.aload_n 0, 1) := by decide +kernel
theorem dX0_takeStep_1 : decode cX0_takeStep 1 = .ok (.getfield 21, 3) := by decide +kernel
theorem dX0_takeStep_4 : decode cX0_takeStep 4 = .ok (.aload_n 0, 1) := by decide +kernel
theorem dX0_takeStep_5 : decode cX0_takeStep 5 = .ok (.getfield 14, 3) := by decide +kernel
theorem dX0_takeStep_8 : decode cX0_takeStep 8 = .ok (.aload_n 0, 1) := by decide +kernel
theorem dX0_takeStep_9 : decode cX0_takeStep 9 = .ok (.getfield 18, 3) := by decide +kernel
theorem dX0_takeStep_12 : decode cX0_takeStep 12 = .ok (.invokevirtual 46, 3) := by decide +kernel
theorem dX0_takeStep_15 : decode cX0_takeStep 15 = .ok (.aload_n 0, 1) := by decide +kernel
theorem dX0_takeStep_16 : decode cX0_takeStep 16 = .ok (.getfield 14, 3) := by decide +kernel
theorem dX0_takeStep_19 : decode cX0_takeStep 19 = .ok (.astore_n 1, 1) := by decide +kernel
theorem dX0_takeStep_20 : decode cX0_takeStep 20 = .ok (.aload_n 0, 1) := by decide +kernel
theorem dX0_takeStep_21 : decode cX0_takeStep 21 = .ok (.aload_n 0, 1) := by decide +kernel
theorem dX0_takeStep_22 : decode cX0_takeStep 22 = .ok (.getfield 18, 3) := by decide +kernel
theorem dX0_takeStep_25 : decode cX0_takeStep 25 = .ok (.putfield 14, 3) := by decide +kernel
theorem dX0_takeStep_28 : decode cX0_takeStep 28 = .ok (.aload_n 0, 1) := by decide +kernel
theorem dX0_takeStep_29 : decode cX0_takeStep 29 = .ok (.aload_n 1, 1) := by decide +kernel
theorem dX0_takeStep_30 : decode cX0_takeStep 30 = .ok (.putfield 18, 3) := by decide +kernel
theorem dX0_takeStep_33 : decode cX0_takeStep 33 = .ok (.aload_n 0, 1) := by decide +kernel
theorem dX0_takeStep_34 : decode cX0_takeStep 34 = .ok (.getfield 18, 3) := by decide +kernel
theorem dX0_takeStep_37 : decode cX0_takeStep 37 = .ok (.aload_n 0, 1) := by decide +kernel
theorem dX0_takeStep_38 : decode cX0_takeStep 38 = .ok (.getfield 21, 3) := by decide +kernel
theorem dX0_takeStep_41 : decode cX0_takeStep 41 = .ok (.getfield 52, 3) := by decide +kernel
theorem dX0_takeStep_44 : decode cX0_takeStep 44 = .ok (.invokevirtual 29, 3) := by decide +kernel
theorem dX0_takeStep_47 : decode cX0_takeStep 47 = .ok (.return_, 1) := by decide +kernel
set_option maxRecDepth 20000 in
theorem ggX0_foreseeSteps_X2_bitLength : GoodIn wsX0_foreseeSteps wsX2_bitLength := goodIn_r _ [15, 16, 17, 18, 19, 14, 20, 21, 22, 23, 24, 25, 26, 27, 28, 29, 30, 47, 48] (by decide +kernel) (by decide +kernel)
set_option maxRecDepth 20000 in
theorem gX0_foreseeSteps_X2_bitLength : GoodIn wsX0_foreseeSteps (wsV RX0 55 RX2 yX2_bitLength wsX2_bitLength) := goodIn_app (goodIn_of _ (by decide +kernel)) ggX0_foreseeSteps_X2_bitLength
set_option maxRecDepth 20000 in
theorem ggX0_foreseeSteps_X0_headFrom : GoodIn wsX0_foreseeSteps wsX0_headFrom := goodIn_r _ [34, 35, 36, 37, 14, 38, 39, 21, 22, 23, 24, 16, 25, 47, 48] (by decide +kernel) (by decide +kernel)
set_option maxRecDepth 20000 in
theorem gX0_foreseeSteps_X0_headFrom : GoodIn wsX0_foreseeSteps (va_wsS RX0 65 yX0_headFrom wsX0_headFrom) := goodIn_app (goodIn_of _ (by decide +kernel)) ggX0_foreseeSteps_X0_headFrom
theorem dX0_foreseeSteps_0 : decode cX0_foreseeSteps 0 = .ok (.aload_n 0, 1) := by decide +kernel
theorem dX0_foreseeSteps_1 : decode cX0_foreseeSteps 1 = .ok (.getfield 14, 3) := by decide +kernel
theorem dX0_foreseeSteps_4 : decode cX0_foreseeSteps 4 = .ok (.invokevirtual 55, 3) := by decide +kernel
theorem dX0_foreseeSteps_7 : decode cX0_foreseeSteps 7 = .ok (.bipush 60, 2) := by decide +kernel
theorem dX0_foreseeSteps_9 : decode cX0_foreseeSteps 9 = .ok (.isub, 1) := by decide +kernel
theorem dX0_foreseeSteps_10 : decode cX0_foreseeSteps 10 = .ok (.iconst 0, 1) := by decide +kernel
theorem dX0_foreseeSteps_11 : decode cX0_foreseeSteps 11 = .ok (.invokestatic 59, 3) := by decide +kernel
theorem dX0_foreseeSteps_14 : decode cX0_foreseeSteps 14 = .ok (.istore_n 1, 1) := by decide +kernel
theorem dX0_foreseeSteps_15 : decode cX0_foreseeSteps 15 = .ok (.aload_n 0, 1) := by decide +kernel
theorem dX0_foreseeSteps_16 : decode cX0_foreseeSteps 16 = .ok (.getfield 14, 3) := by decide +kernel
theorem dX0_foreseeSteps_19 : decode cX0_foreseeSteps 19 = .ok (.iload_n 1, 1) := by decide +kernel
theorem dX0_foreseeSteps_20 : decode cX0_foreseeSteps 20 = .ok (.invokestatic 65, 3) := by decide +kernel
theorem dX0_foreseeSteps_23 : decode cX0_foreseeSteps 23 = .ok (.lstore_n 2, 1) := by decide +kernel
theorem dX0_foreseeSteps_24 : decode cX0_foreseeSteps 24 = .ok (.aload_n 0, 1) := by decide +kernel
theorem dX0_foreseeSteps_25 : decode cX0_foreseeSteps 25 = .ok (.getfield 18, 3) := by decide +kernel
theorem dX0_foreseeSteps_28 : decode cX0_foreseeSteps 28 = .ok (.iload_n 1, 1) := by decide +kernel
theorem dX0_foreseeSteps_29 : decode cX0_foreseeSteps 29 = .ok (.invokestatic 65, 3) := by decide +kernel
theorem dX0_foreseeSteps_32 : decode cX0_foreseeSteps 32 = .ok (.lstore 4, 2) := by decide +kernel
theorem dX0_foreseeSteps_34 : decode cX0_foreseeSteps 34 = .ok (.aload_n 0, 1) := by decide +kernel
theorem dX0_foreseeSteps_35 : decode cX0_foreseeSteps 35 = .ok (.lconst 1, 1) := by decide +kernel
theorem dX0_foreseeSteps_36 : decode cX0_foreseeSteps 36 = .ok (.putfield 69, 3) := by decide +kernel
theorem dX0_foreseeSteps_39 : decode cX0_foreseeSteps 39 = .ok (.aload_n 0, 1) := by decide +kernel
theorem dX0_foreseeSteps_40 : decode cX0_foreseeSteps 40 = .ok (.lconst 0, 1) := by decide +kernel
theorem dX0_foreseeSteps_41 : decode cX0_foreseeSteps 41 = .ok (.putfield 73, 3) := by decide +kernel
theorem dX0_foreseeSteps_44 : decode cX0_foreseeSteps 44 = .ok (.aload_n 0, 1) := by decide +kernel
theorem dX0_foreseeSteps_45 : decode cX0_foreseeSteps 45 = .ok (.lconst 0, 1) := by decide +kernel
theorem dX0_foreseeSteps_46 : decode cX0_foreseeSteps 46 = .ok (.putfield 76, 3) := by decide +kernel
theorem dX0_foreseeSteps_49 : decode cX0_foreseeSteps 49 = .ok (.aload_n 0, 1) := by decide +kernel
theorem dX0_foreseeSteps_50 : decode cX0_foreseeSteps 50 = .ok (.lconst 1, 1) := by decide +kernel
theorem dX0_foreseeSteps_51 : decode cX0_foreseeSteps 51 = .ok (.putfield 79, 3) := by decide +kernel
theorem dX0_foreseeSteps_54 : decode cX0_foreseeSteps 54 = .ok (.iconst 0, 1) := by decide +kernel
theorem dX0_foreseeSteps_55 : decode cX0_foreseeSteps 55 = .ok (.istore 6, 2) := by decide +kernel
theorem dX0_foreseeSteps_57 : decode cX0_foreseeSteps 57 = .ok (.iload 6, 2) := by decide +kernel
theorem dX0_foreseeSteps_59 : decode cX0_foreseeSteps 59 = .ok (.bipush 120, 2) := by decide +kernel
theorem dX0_foreseeSteps_61 : decode cX0_foreseeSteps 61 = .ok (.if_icmp .ge 144, 3) := by decide +kernel
theorem dX0_foreseeSteps_64 : decode cX0_foreseeSteps 64 = .ok (.lload 4, 2) := by decide +kernel
theorem dX0_foreseeSteps_66 : decode cX0_foreseeSteps 66 = .ok (.aload_n 0, 1) := by decide +kernel
theorem dX0_foreseeSteps_67 : decode cX0_foreseeSteps 67 = .ok (.getfield 76, 3) := by decide +kernel
theorem dX0_foreseeSteps_70 : decode cX0_foreseeSteps 70 = .ok (.ladd, 1) := by decide +kernel
theorem dX0_foreseeSteps_71 : decode cX0_foreseeSteps 71 = .ok (.lconst 0, 1) := by decide +kernel
theorem dX0_foreseeSteps_72 : decode cX0_foreseeSteps 72 = .ok (.lcmp, 1) := by decide +kernel
theorem dX0_foreseeSteps_73 : decode cX0_foreseeSteps 73 = .ok (.ifCond .le 132, 3) := by decide +kernel
theorem dX0_foreseeSteps_76 : decode cX0_foreseeSteps 76 = .ok (.lload 4, 2) := by decide +kernel
theorem dX0_foreseeSteps_78 : decode cX0_foreseeSteps 78 = .ok (.aload_n 0, 1) := by decide +kernel
theorem dX0_foreseeSteps_79 : decode cX0_foreseeSteps 79 = .ok (.getfield 79, 3) := by decide +kernel
theorem dX0_foreseeSteps_82 : decode cX0_foreseeSteps 82 = .ok (.ladd, 1) := by decide +kernel
theorem dX0_foreseeSteps_83 : decode cX0_foreseeSteps 83 = .ok (.lconst 0, 1) := by decide +kernel
theorem dX0_foreseeSteps_84 : decode cX0_foreseeSteps 84 = .ok (.lcmp, 1) := by decide +kernel
theorem dX0_foreseeSteps_85 : decode cX0_foreseeSteps 85 = .ok (.ifCond .le 120, 3) := by decide +kernel
theorem dX0_foreseeSteps_88 : decode cX0_foreseeSteps 88 = .ok (.lload_n 2, 1) := by decide +kernel
theorem dX0_foreseeSteps_89 : decode cX0_foreseeSteps 89 = .ok (.aload_n 0, 1) := by decide +kernel
theorem dX0_foreseeSteps_90 : decode cX0_foreseeSteps 90 = .ok (.getfield 69, 3) := by decide +kernel
theorem dX0_foreseeSteps_93 : decode cX0_foreseeSteps 93 = .ok (.ladd, 1) := by decide +kernel
theorem dX0_foreseeSteps_94 : decode cX0_foreseeSteps 94 = .ok (.lload 4, 2) := by decide +kernel
theorem dX0_foreseeSteps_96 : decode cX0_foreseeSteps 96 = .ok (.aload_n 0, 1) := by decide +kernel
theorem dX0_foreseeSteps_97 : decode cX0_foreseeSteps 97 = .ok (.getfield 76, 3) := by decide +kernel
theorem dX0_foreseeSteps_100 : decode cX0_foreseeSteps 100 = .ok (.ladd, 1) := by decide +kernel
theorem dX0_foreseeSteps_101 : decode cX0_foreseeSteps 101 = .ok (.ldiv, 1) := by decide +kernel
theorem dX0_foreseeSteps_102 : decode cX0_foreseeSteps 102 = .ok (.lstore 7, 2) := by decide +kernel
theorem dX0_foreseeSteps_104 : decode cX0_foreseeSteps 104 = .ok (.lload 7, 2) := by decide +kernel
theorem dX0_foreseeSteps_106 : decode cX0_foreseeSteps 106 = .ok (.lload_n 2, 1) := by decide +kernel
theorem dX0_foreseeSteps_107 : decode cX0_foreseeSteps 107 = .ok (.aload_n 0, 1) := by decide +kernel
theorem dX0_foreseeSteps_108 : decode cX0_foreseeSteps 108 = .ok (.getfield 73, 3) := by decide +kernel
theorem dX0_foreseeSteps_111 : decode cX0_foreseeSteps 111 = .ok (.ladd, 1) := by decide +kernel
theorem dX0_foreseeSteps_112 : decode cX0_foreseeSteps 112 = .ok (.lload 4, 2) := by decide +kernel
theorem dX0_foreseeSteps_114 : decode cX0_foreseeSteps 114 = .ok (.aload_n 0, 1) := by decide +kernel
theorem dX0_foreseeSteps_115 : decode cX0_foreseeSteps 115 = .ok (.getfield 79, 3) := by decide +kernel
theorem dX0_foreseeSteps_118 : decode cX0_foreseeSteps 118 = .ok (.ladd, 1) := by decide +kernel
theorem dX0_foreseeSteps_119 : decode cX0_foreseeSteps 119 = .ok (.ldiv, 1) := by decide +kernel
theorem dX0_foreseeSteps_120 : decode cX0_foreseeSteps 120 = .ok (.lcmp, 1) := by decide +kernel
theorem dX0_foreseeSteps_121 : decode cX0_foreseeSteps 121 = .ok (.ifCond .eq 6, 3) := by decide +kernel
theorem dX0_foreseeSteps_124 : decode cX0_foreseeSteps 124 = .ok (.goto 81, 3) := by decide +kernel
theorem dX0_foreseeSteps_127 : decode cX0_foreseeSteps 127 = .ok (.aload_n 0, 1) := by decide +kernel
theorem dX0_foreseeSteps_128 : decode cX0_foreseeSteps 128 = .ok (.getfield 69, 3) := by decide +kernel
theorem dX0_foreseeSteps_131 : decode cX0_foreseeSteps 131 = .ok (.lload 7, 2) := by decide +kernel
theorem dX0_foreseeSteps_133 : decode cX0_foreseeSteps 133 = .ok (.aload_n 0, 1) := by decide +kernel
theorem dX0_foreseeSteps_134 : decode cX0_foreseeSteps 134 = .ok (.getfield 76, 3) := by decide +kernel
theorem dX0_foreseeSteps_137 : decode cX0_foreseeSteps 137 = .ok (.lmul, 1) := by decide +kernel
theorem dX0_foreseeSteps_138 : decode cX0_foreseeSteps 138 = .ok (.lsub, 1) := by decide +kernel
theorem dX0_foreseeSteps_139 : decode cX0_foreseeSteps 139 = .ok (.lstore 9, 2) := by decide +kernel
theorem dX0_foreseeSteps_141 : decode cX0_foreseeSteps 141 = .ok (.aload_n 0, 1) := by decide +kernel
theorem dX0_foreseeSteps_142 : decode cX0_foreseeSteps 142 = .ok (.getfield 73, 3) := by decide +kernel
theorem dX0_foreseeSteps_145 : decode cX0_foreseeSteps 145 = .ok (.lload 7, 2) := by decide +kernel
theorem dX0_foreseeSteps_147 : decode cX0_foreseeSteps 147 = .ok (.aload_n 0, 1) := by decide +kernel
theorem dX0_foreseeSteps_148 : decode cX0_foreseeSteps 148 = .ok (.getfield 79, 3) := by decide +kernel
theorem dX0_foreseeSteps_151 : decode cX0_foreseeSteps 151 = .ok (.lmul, 1) := by decide +kernel
theorem dX0_foreseeSteps_152 : decode cX0_foreseeSteps 152 = .ok (.lsub, 1) := by decide +kernel
theorem dX0_foreseeSteps_153 : decode cX0_foreseeSteps 153 = .ok (.lstore 11, 2) := by decide +kernel
theorem dX0_foreseeSteps_155 : decode cX0_foreseeSteps 155 = .ok (.lload_n 2, 1) := by decide +kernel
theorem dX0_foreseeSteps_156 : decode cX0_foreseeSteps 156 = .ok (.lload 7, 2) := by decide +kernel
theorem dX0_foreseeSteps_158 : decode cX0_foreseeSteps 158 = .ok (.lload 4, 2) := by decide +kernel
theorem dX0_foreseeSteps_160 : decode cX0_foreseeSteps 160 = .ok (.lmul, 1) := by decide +kernel
theorem dX0_foreseeSteps_161 : decode cX0_foreseeSteps 161 = .ok (.lsub, 1) := by decide +kernel
theorem dX0_foreseeSteps_162 : decode cX0_foreseeSteps 162 = .ok (.lstore 13, 2) := by decide +kernel
theorem dX0_foreseeSteps_164 : decode cX0_foreseeSteps 164 = .ok (.aload_n 0, 1) := by decide +kernel
theorem dX0_foreseeSteps_165 : decode cX0_foreseeSteps 165 = .ok (.aload_n 0, 1) := by decide +kernel
theorem dX0_foreseeSteps_166 : decode cX0_foreseeSteps 166 = .ok (.getfield 76, 3) := by decide +kernel
theorem dX0_foreseeSteps_169 : decode cX0_foreseeSteps 169 = .ok (.putfield 69, 3) := by decide +kernel
theorem dX0_foreseeSteps_172 : decode cX0_foreseeSteps 172 = .ok (.aload_n 0, 1) := by decide +kernel
theorem dX0_foreseeSteps_173 : decode cX0_foreseeSteps 173 = .ok (.aload_n 0, 1) := by decide +kernel
theorem dX0_foreseeSteps_174 : decode cX0_foreseeSteps 174 = .ok (.getfield 79, 3) := by decide +kernel
theorem dX0_foreseeSteps_177 : decode cX0_foreseeSteps 177 = .ok (.putfield 73, 3) := by decide +kernel
theorem dX0_foreseeSteps_180 : decode cX0_foreseeSteps 180 = .ok (.lload 4, 2) := by decide +kernel
theorem dX0_foreseeSteps_182 : decode cX0_foreseeSteps 182 = .ok (.lstore_n 2, 1) := by decide +kernel
theorem dX0_foreseeSteps_183 : decode cX0_foreseeSteps 183 = .ok (.aload_n 0, 1) := by decide +kernel
theorem dX0_foreseeSteps_184 : decode cX0_foreseeSteps 184 = .ok (.lload 9, 2) := by decide +kernel
theorem dX0_foreseeSteps_186 : decode cX0_foreseeSteps 186 = .ok (.putfield 76, 3) := by decide +kernel
theorem dX0_foreseeSteps_189 : decode cX0_foreseeSteps 189 = .ok (.aload_n 0, 1) := by decide +kernel
theorem dX0_foreseeSteps_190 : decode cX0_foreseeSteps 190 = .ok (.lload 11, 2) := by decide +kernel
theorem dX0_foreseeSteps_192 : decode cX0_foreseeSteps 192 = .ok (.putfield 79, 3) := by decide +kernel
theorem dX0_foreseeSteps_195 : decode cX0_foreseeSteps 195 = .ok (.lload 13, 2) := by decide +kernel
theorem dX0_foreseeSteps_197 : decode cX0_foreseeSteps 197 = .ok (.lstore 4, 2) := by decide +kernel
theorem dX0_foreseeSteps_199 : decode cX0_foreseeSteps 199 = .ok (.iinc 6 1, 3) := by decide +kernel
theorem dX0_foreseeSteps_202 : decode cX0_foreseeSteps 202 = .ok (.goto (-145), 3) := by decide +kernel
theorem dX0_foreseeSteps_205 : decode cX0_foreseeSteps 205 = .ok (.aload_n 0, 1) := by decide +kernel
theorem dX0_foreseeSteps_206 : decode cX0_foreseeSteps 206 = .ok (.getfield 73, 3) := by decide +kernel
theorem dX0_foreseeSteps_209 : decode cX0_foreseeSteps 209 = .ok (.lconst 0, 1) := by decide +kernel
theorem dX0_foreseeSteps_210 : decode cX0_foreseeSteps 210 = .ok (.lcmp, 1) := by decide +kernel
theorem dX0_foreseeSteps_211 : decode cX0_foreseeSteps 211 = .ok (.ifCond .eq 7, 3) := by decide +kernel
theorem dX0_foreseeSteps_214 : decode cX0_foreseeSteps 214 = .ok (.iconst 1, 1) := by decide +kernel
theorem dX0_foreseeSteps_215 : decode cX0_foreseeSteps 215 = .ok (.goto 4, 3) := by decide +kernel
theorem dX0_foreseeSteps_218 : decode cX0_foreseeSteps 218 = .ok (.iconst 0, 1) := by decide +kernel
theorem dX0_foreseeSteps_219 : decode cX0_foreseeSteps 219 = .ok (.ireturn, 1) := by decide +kernel
set_option maxRecDepth 20000 in
theorem ggX0_headFrom_X2_limbFrom : GoodIn wsX0_headFrom wsX2_limbFrom := goodIn_r _ [5, 6, 7, 8, 9, 4, 10, 11, 12, 13, 14] (by decide +kernel) (by decide +kernel)
set_option maxRecDepth 20000 in
theorem gX0_headFrom_X2_limbFrom : GoodIn wsX0_headFrom (wsV RX0 82 RX2 yX2_limbFrom wsX2_limbFrom) := goodIn_app (goodIn_of _ (by decide +kernel)) ggX0_headFrom_X2_limbFrom
theorem dX0_headFrom_0 : decode cX0_headFrom 0 = .ok (.aload_n 0, 1) := by decide +kernel
theorem dX0_headFrom_1 : decode cX0_headFrom 1 = .ok (.iload_n 1, 1) := by decide +kernel
theorem dX0_headFrom_2 : decode cX0_headFrom 2 = .ok (.bipush 30, 2) := by decide +kernel
theorem dX0_headFrom_4 : decode cX0_headFrom 4 = .ok (.iadd, 1) := by decide +kernel
theorem dX0_headFrom_5 : decode cX0_headFrom 5 = .ok (.invokevirtual 82, 3) := by decide +kernel
theorem dX0_headFrom_8 : decode cX0_headFrom 8 = .ok (.i2l, 1) := by decide +kernel
theorem dX0_headFrom_9 : decode cX0_headFrom 9 = .ok (.bipush 30, 2) := by decide +kernel
theorem dX0_headFrom_11 : decode cX0_headFrom 11 = .ok (.lshl, 1) := by decide +kernel
theorem dX0_headFrom_12 : decode cX0_headFrom 12 = .ok (.aload_n 0, 1) := by decide +kernel
theorem dX0_headFrom_13 : decode cX0_headFrom 13 = .ok (.iload_n 1, 1) := by decide +kernel
theorem dX0_headFrom_14 : decode cX0_headFrom 14 = .ok (.invokevirtual 82, 3) := by decide +kernel
theorem dX0_headFrom_17 : decode cX0_headFrom 17 = .ok (.i2l, 1) := by decide +kernel
theorem dX0_headFrom_18 : decode cX0_headFrom 18 = .ok (.lor, 1) := by decide +kernel
theorem dX0_headFrom_19 : decode cX0_headFrom 19 = .ok (.lreturn, 1) := by decide +kernel
set_option maxRecDepth 20000 in
theorem ggX0_takeForeseenSteps_X2_padTo : GoodIn wsX0_takeForeseenSteps wsX2_padTo := goodIn_r _ [14, 15, 16, 35, 36] (by decide +kernel) (by decide +kernel)
set_option maxRecDepth 20000 in
theorem gX0_takeForeseenSteps_X2_padTo : GoodIn wsX0_takeForeseenSteps (wsV RX0 90 RX2 yX2_padTo wsX2_padTo) := goodIn_app (goodIn_of _ (by decide +kernel)) ggX0_takeForeseenSteps_X2_padTo
set_option maxRecDepth 20000 in
theorem ggX0_takeForeseenSteps_X2_trim : GoodIn wsX0_takeForeseenSteps wsX2_trim := goodIn_r _ [20, 21, 22, 23, 24, 16, 25, 26, 27, 15, 35, 36] (by decide +kernel) (by decide +kernel)
set_option maxRecDepth 20000 in
theorem gX0_takeForeseenSteps_X2_trim : GoodIn wsX0_takeForeseenSteps (wsV RX0 99 RX2 yX2_trim wsX2_trim) := goodIn_app (goodIn_of _ (by decide +kernel)) ggX0_takeForeseenSteps_X2_trim
theorem dX0_takeForeseenSteps_0 : decode cX0_takeForeseenSteps 0 = .ok (.aload_n 0, 1) := by decide +kernel
theorem dX0_takeForeseenSteps_1 : decode cX0_takeForeseenSteps 1 = .ok (.getfield 14, 3) := by decide +kernel
theorem dX0_takeForeseenSteps_4 : decode cX0_takeForeseenSteps 4 = .ok (.getfield 86, 3) := by decide +kernel
theorem dX0_takeForeseenSteps_7 : decode cX0_takeForeseenSteps 7 = .ok (.istore_n 1, 1) := by decide +kernel
theorem dX0_takeForeseenSteps_8 : decode cX0_takeForeseenSteps 8 = .ok (.aload_n 0, 1) := by decide +kernel
theorem dX0_takeForeseenSteps_9 : decode cX0_takeForeseenSteps 9 = .ok (.getfield 18, 3) := by decide +kernel
theorem dX0_takeForeseenSteps_12 : decode cX0_takeForeseenSteps 12 = .ok (.iload_n 1, 1) := by decide +kernel
theorem dX0_takeForeseenSteps_13 : decode cX0_takeForeseenSteps 13 = .ok (.invokevirtual 90, 3) := by decide +kernel
theorem dX0_takeForeseenSteps_16 : decode cX0_takeForeseenSteps 16 = .ok (.lconst 0, 1) := by decide +kernel
theorem dX0_takeForeseenSteps_17 : decode cX0_takeForeseenSteps 17 = .ok (.lstore_n 2, 1) := by decide +kernel
theorem dX0_takeForeseenSteps_18 : decode cX0_takeForeseenSteps 18 = .ok (.lconst 0, 1) := by decide +kernel
theorem dX0_takeForeseenSteps_19 : decode cX0_takeForeseenSteps 19 = .ok (.lstore 4, 2) := by decide +kernel
theorem dX0_takeForeseenSteps_21 : decode cX0_takeForeseenSteps 21 = .ok (.iconst 0, 1) := by decide +kernel
theorem dX0_takeForeseenSteps_22 : decode cX0_takeForeseenSteps 22 = .ok (.istore 6, 2) := by decide +kernel
theorem dX0_takeForeseenSteps_24 : decode cX0_takeForeseenSteps 24 = .ok (.iload 6, 2) := by decide +kernel
theorem dX0_takeForeseenSteps_26 : decode cX0_takeForeseenSteps 26 = .ok (.iload_n 1, 1) := by decide +kernel
theorem dX0_takeForeseenSteps_27 : decode cX0_takeForeseenSteps 27 = .ok (.if_icmp .ge 116, 3) := by decide +kernel
theorem dX0_takeForeseenSteps_30 : decode cX0_takeForeseenSteps 30 = .ok (.aload_n 0, 1) := by decide +kernel
theorem dX0_takeForeseenSteps_31 : decode cX0_takeForeseenSteps 31 = .ok (.getfield 14, 3) := by decide +kernel
theorem dX0_takeForeseenSteps_34 : decode cX0_takeForeseenSteps 34 = .ok (.getfield 94, 3) := by decide +kernel
theorem dX0_takeForeseenSteps_37 : decode cX0_takeForeseenSteps 37 = .ok (.iload 6, 2) := by decide +kernel
theorem dX0_takeForeseenSteps_39 : decode cX0_takeForeseenSteps 39 = .ok (.iaload, 1) := by decide +kernel
theorem dX0_takeForeseenSteps_40 : decode cX0_takeForeseenSteps 40 = .ok (.i2l, 1) := by decide +kernel
theorem dX0_takeForeseenSteps_41 : decode cX0_takeForeseenSteps 41 = .ok (.lstore 7, 2) := by decide +kernel
theorem dX0_takeForeseenSteps_43 : decode cX0_takeForeseenSteps 43 = .ok (.aload_n 0, 1) := by decide +kernel
theorem dX0_takeForeseenSteps_44 : decode cX0_takeForeseenSteps 44 = .ok (.getfield 18, 3) := by decide +kernel
theorem dX0_takeForeseenSteps_47 : decode cX0_takeForeseenSteps 47 = .ok (.getfield 94, 3) := by decide +kernel
theorem dX0_takeForeseenSteps_50 : decode cX0_takeForeseenSteps 50 = .ok (.iload 6, 2) := by decide +kernel
theorem dX0_takeForeseenSteps_52 : decode cX0_takeForeseenSteps 52 = .ok (.iaload, 1) := by decide +kernel
theorem dX0_takeForeseenSteps_53 : decode cX0_takeForeseenSteps 53 = .ok (.i2l, 1) := by decide +kernel
theorem dX0_takeForeseenSteps_54 : decode cX0_takeForeseenSteps 54 = .ok (.lstore 9, 2) := by decide +kernel
theorem dX0_takeForeseenSteps_56 : decode cX0_takeForeseenSteps 56 = .ok (.lload_n 2, 1) := by decide +kernel
theorem dX0_takeForeseenSteps_57 : decode cX0_takeForeseenSteps 57 = .ok (.aload_n 0, 1) := by decide +kernel
theorem dX0_takeForeseenSteps_58 : decode cX0_takeForeseenSteps 58 = .ok (.getfield 69, 3) := by decide +kernel
theorem dX0_takeForeseenSteps_61 : decode cX0_takeForeseenSteps 61 = .ok (.lload 7, 2) := by decide +kernel
theorem dX0_takeForeseenSteps_63 : decode cX0_takeForeseenSteps 63 = .ok (.lmul, 1) := by decide +kernel
theorem dX0_takeForeseenSteps_64 : decode cX0_takeForeseenSteps 64 = .ok (.aload_n 0, 1) := by decide +kernel
theorem dX0_takeForeseenSteps_65 : decode cX0_takeForeseenSteps 65 = .ok (.getfield 73, 3) := by decide +kernel
theorem dX0_takeForeseenSteps_68 : decode cX0_takeForeseenSteps 68 = .ok (.lload 9, 2) := by decide +kernel
theorem dX0_takeForeseenSteps_70 : decode cX0_takeForeseenSteps 70 = .ok (.lmul, 1) := by decide +kernel
theorem dX0_takeForeseenSteps_71 : decode cX0_takeForeseenSteps 71 = .ok (.ladd, 1) := by decide +kernel
theorem dX0_takeForeseenSteps_72 : decode cX0_takeForeseenSteps 72 = .ok (.ladd, 1) := by decide +kernel
theorem dX0_takeForeseenSteps_73 : decode cX0_takeForeseenSteps 73 = .ok (.lstore_n 2, 1) := by decide +kernel
theorem dX0_takeForeseenSteps_74 : decode cX0_takeForeseenSteps 74 = .ok (.lload 4, 2) := by decide +kernel
theorem dX0_takeForeseenSteps_76 : decode cX0_takeForeseenSteps 76 = .ok (.aload_n 0, 1) := by decide +kernel
theorem dX0_takeForeseenSteps_77 : decode cX0_takeForeseenSteps 77 = .ok (.getfield 76, 3) := by decide +kernel
theorem dX0_takeForeseenSteps_80 : decode cX0_takeForeseenSteps 80 = .ok (.lload 7, 2) := by decide +kernel
theorem dX0_takeForeseenSteps_82 : decode cX0_takeForeseenSteps 82 = .ok (.lmul, 1) := by decide +kernel
theorem dX0_takeForeseenSteps_83 : decode cX0_takeForeseenSteps 83 = .ok (.aload_n 0, 1) := by decide +kernel
theorem dX0_takeForeseenSteps_84 : decode cX0_takeForeseenSteps 84 = .ok (.getfield 79, 3) := by decide +kernel
theorem dX0_takeForeseenSteps_87 : decode cX0_takeForeseenSteps 87 = .ok (.lload 9, 2) := by decide +kernel
theorem dX0_takeForeseenSteps_89 : decode cX0_takeForeseenSteps 89 = .ok (.lmul, 1) := by decide +kernel
theorem dX0_takeForeseenSteps_90 : decode cX0_takeForeseenSteps 90 = .ok (.ladd, 1) := by decide +kernel
theorem dX0_takeForeseenSteps_91 : decode cX0_takeForeseenSteps 91 = .ok (.ladd, 1) := by decide +kernel
theorem dX0_takeForeseenSteps_92 : decode cX0_takeForeseenSteps 92 = .ok (.lstore 4, 2) := by decide +kernel
theorem dX0_takeForeseenSteps_94 : decode cX0_takeForeseenSteps 94 = .ok (.aload_n 0, 1) := by decide +kernel
theorem dX0_takeForeseenSteps_95 : decode cX0_takeForeseenSteps 95 = .ok (.getfield 14, 3) := by decide +kernel
theorem dX0_takeForeseenSteps_98 : decode cX0_takeForeseenSteps 98 = .ok (.getfield 94, 3) := by decide +kernel
theorem dX0_takeForeseenSteps_101 : decode cX0_takeForeseenSteps 101 = .ok (.iload 6, 2) := by decide +kernel
theorem dX0_takeForeseenSteps_103 : decode cX0_takeForeseenSteps 103 = .ok (.lload_n 2, 1) := by decide +kernel
theorem dX0_takeForeseenSteps_104 : decode cX0_takeForeseenSteps 104 = .ok (.l2i, 1) := by decide +kernel
theorem dX0_takeForeseenSteps_105 : decode cX0_takeForeseenSteps 105 = .ok (.ldc 98, 2) := by decide +kernel
theorem dX0_takeForeseenSteps_107 : decode cX0_takeForeseenSteps 107 = .ok (.iand, 1) := by decide +kernel
theorem dX0_takeForeseenSteps_108 : decode cX0_takeForeseenSteps 108 = .ok (.iastore, 1) := by decide +kernel
theorem dX0_takeForeseenSteps_109 : decode cX0_takeForeseenSteps 109 = .ok (.aload_n 0, 1) := by decide +kernel
theorem dX0_takeForeseenSteps_110 : decode cX0_takeForeseenSteps 110 = .ok (.getfield 18, 3) := by decide +kernel
theorem dX0_takeForeseenSteps_113 : decode cX0_takeForeseenSteps 113 = .ok (.getfield 94, 3) := by decide +kernel
theorem dX0_takeForeseenSteps_116 : decode cX0_takeForeseenSteps 116 = .ok (.iload 6, 2) := by decide +kernel
theorem dX0_takeForeseenSteps_118 : decode cX0_takeForeseenSteps 118 = .ok (.lload 4, 2) := by decide +kernel
theorem dX0_takeForeseenSteps_120 : decode cX0_takeForeseenSteps 120 = .ok (.l2i, 1) := by decide +kernel
theorem dX0_takeForeseenSteps_121 : decode cX0_takeForeseenSteps 121 = .ok (.ldc 98, 2) := by decide +kernel
theorem dX0_takeForeseenSteps_123 : decode cX0_takeForeseenSteps 123 = .ok (.iand, 1) := by decide +kernel
theorem dX0_takeForeseenSteps_124 : decode cX0_takeForeseenSteps 124 = .ok (.iastore, 1) := by decide +kernel
theorem dX0_takeForeseenSteps_125 : decode cX0_takeForeseenSteps 125 = .ok (.lload_n 2, 1) := by decide +kernel
theorem dX0_takeForeseenSteps_126 : decode cX0_takeForeseenSteps 126 = .ok (.bipush 30, 2) := by decide +kernel
theorem dX0_takeForeseenSteps_128 : decode cX0_takeForeseenSteps 128 = .ok (.lshr, 1) := by decide +kernel
theorem dX0_takeForeseenSteps_129 : decode cX0_takeForeseenSteps 129 = .ok (.lstore_n 2, 1) := by decide +kernel
theorem dX0_takeForeseenSteps_130 : decode cX0_takeForeseenSteps 130 = .ok (.lload 4, 2) := by decide +kernel
theorem dX0_takeForeseenSteps_132 : decode cX0_takeForeseenSteps 132 = .ok (.bipush 30, 2) := by decide +kernel
theorem dX0_takeForeseenSteps_134 : decode cX0_takeForeseenSteps 134 = .ok (.lshr, 1) := by decide +kernel
theorem dX0_takeForeseenSteps_135 : decode cX0_takeForeseenSteps 135 = .ok (.lstore 4, 2) := by decide +kernel
theorem dX0_takeForeseenSteps_137 : decode cX0_takeForeseenSteps 137 = .ok (.iinc 6 1, 3) := by decide +kernel
theorem dX0_takeForeseenSteps_140 : decode cX0_takeForeseenSteps 140 = .ok (.goto (-116), 3) := by decide +kernel
theorem dX0_takeForeseenSteps_143 : decode cX0_takeForeseenSteps 143 = .ok (.aload_n 0, 1) := by decide +kernel
theorem dX0_takeForeseenSteps_144 : decode cX0_takeForeseenSteps 144 = .ok (.getfield 14, 3) := by decide +kernel
theorem dX0_takeForeseenSteps_147 : decode cX0_takeForeseenSteps 147 = .ok (.iload_n 1, 1) := by decide +kernel
theorem dX0_takeForeseenSteps_148 : decode cX0_takeForeseenSteps 148 = .ok (.invokevirtual 99, 3) := by decide +kernel
theorem dX0_takeForeseenSteps_151 : decode cX0_takeForeseenSteps 151 = .ok (.aload_n 0, 1) := by decide +kernel
theorem dX0_takeForeseenSteps_152 : decode cX0_takeForeseenSteps 152 = .ok (.getfield 18, 3) := by decide +kernel
theorem dX0_takeForeseenSteps_155 : decode cX0_takeForeseenSteps 155 = .ok (.iload_n 1, 1) := by decide +kernel
theorem dX0_takeForeseenSteps_156 : decode cX0_takeForeseenSteps 156 = .ok (.invokevirtual 99, 3) := by decide +kernel
theorem dX0_takeForeseenSteps_159 : decode cX0_takeForeseenSteps 159 = .ok (.return_, 1) := by decide +kernel
set_option maxRecDepth 20000 in
theorem ggX1_init_X2_init : GoodIn wsX1_init wsX2_init := goodIn_r _ [11, 12, 2, 3, 13, 14, 15, 16] (by decide +kernel) (by decide +kernel)
set_option maxRecDepth 20000 in
theorem gX1_init_X2_init_n11 : GoodIn wsX1_init (wsX2_init) := ggX1_init_X2_init
theorem dX1_init_0 : decode cX1_init 0 = .ok (.aload_n 0, 1) := by decide +kernel
theorem dX1_init_1 : decode cX1_init 1 = .ok (.invokespecial 3, 3) := by decide +kernel
theorem dX1_init_4 : decode cX1_init 4 = .ok (.aload_n 0, 1) := by decide +kernel
theorem dX1_init_5 : decode cX1_init 5 = .ok (.new 9, 3) := by decide +kernel
theorem dX1_init_8 : decode cX1_init 8 = .ok (.dup, 1) := by decide +kernel
theorem dX1_init_9 : decode cX1_init 9 = .ok (.invokespecial 11, 3) := by decide +kernel
theorem dX1_init_12 : decode cX1_init 12 = .ok (.putfield 12, 3) := by decide +kernel
theorem dX1_init_15 : decode cX1_init 15 = .ok (.aload_n 0, 1) := by decide +kernel
theorem dX1_init_16 : decode cX1_init 16 = .ok (.new 9, 3) := by decide +kernel
theorem dX1_init_19 : decode cX1_init 19 = .ok (.dup, 1) := by decide +kernel
theorem dX1_init_20 : decode cX1_init 20 = .ok (.invokespecial 11, 3) := by decide +kernel
theorem dX1_init_23 : decode cX1_init 23 = .ok (.putfield 18, 3) := by decide +kernel
theorem dX1_init_26 : decode cX1_init 26 = .ok (.aload_n 0, 1) := by decide +kernel
theorem dX1_init_27 : decode cX1_init 27 = .ok (.new 9, 3) := by decide +kernel
theorem dX1_init_30 : decode cX1_init 30 = .ok (.dup, 1) := by decide +kernel
theorem dX1_init_31 : decode cX1_init 31 = .ok (.invokespecial 11, 3) := by decide +kernel
theorem dX1_init_34 : decode cX1_init 34 = .ok (.putfield 21, 3) := by decide +kernel
theorem dX1_init_37 : decode cX1_init 37 = .ok (.return_, 1) := by decide +kernel
set_option maxRecDepth 20000 in
theorem ggX1_split_X2_isZero : GoodIn wsX1_split wsX2_isZero := goodIn_r _ [14, 15, 79, 80] (by decide +kernel) (by decide +kernel)
set_option maxRecDepth 20000 in
theorem gX1_split_X2_isZero : GoodIn wsX1_split (wsV RX1 24 RX2 yX2_isZero wsX2_isZero) := goodIn_app (goodIn_of _ (by decide +kernel)) ggX1_split_X2_isZero
set_option maxRecDepth 20000 in
theorem ggX1_split_X2_spareBits : GoodIn wsX1_split wsX2_spareBits := goodIn_r _ [19, 15, 20, 21, 22, 13, 23, 24, 25, 26, 27, 28, 29, 79, 80] (by decide +kernel) (by decide +kernel)
set_option maxRecDepth 20000 in
theorem gX1_split_X2_spareBits : GoodIn wsX1_split (wsV RX1 28 RX2 yX2_spareBits wsX2_spareBits) := goodIn_app (goodIn_of _ (by decide +kernel)) ggX1_split_X2_spareBits
set_option maxRecDepth 20000 in
theorem ggX1_split_X2_shiftUp : GoodIn wsX1_split wsX2_shiftUp := goodIn_r _ [33, 15, 34, 35, 6, 36, 24, 37, 20, 21, 22, 13, 23, 38, 39, 40, 41, 42, 5, 7, 79, 80] (by decide +kernel) (by decide +kernel)
set_option maxRecDepth 20000 in
theorem gX1_split_X2_shiftUp : GoodIn wsX1_split (wsV RX1 32 RX2 yX2_shiftUp wsX2_shiftUp) := goodIn_app (goodIn_of _ (by decide +kernel)) ggX1_split_X2_shiftUp
set_option maxRecDepth 20000 in
theorem ggX1_split_X2_padTo : GoodIn wsX1_split wsX2_padTo := goodIn_r _ [46, 15, 24, 79, 80] (by decide +kernel) (by decide +kernel)
set_option maxRecDepth 20000 in
theorem gX1_split_X2_padTo : GoodIn wsX1_split (wsV RX1 40 RX2 yX2_padTo wsX2_padTo) := goodIn_app (goodIn_of _ (by decide +kernel)) ggX1_split_X2_padTo
set_option maxRecDepth 20000 in
theorem ggX1_split_X1_takeDigit : GoodIn wsX1_split wsX1_takeDigit := goodIn_r _ [51, 52, 53, 54, 50, 55, 1, 3, 2, 9, 56, 57, 21, 22, 13, 23, 15, 24, 58, 59, 60, 61, 62, 63, 64, 65, 66, 76, 77, 78, 79, 80] (by decide +kernel) (by decide +kernel)
set_option maxRecDepth 20000 in
theorem gX1_split_X1_takeDigit : GoodIn wsX1_split (wsV RX1 54 RX1 yX1_takeDigit wsX1_takeDigit) := goodIn_app (goodIn_of _ (by decide +kernel)) ggX1_split_X1_takeDigit
set_option maxRecDepth 20000 in
theorem ggX1_split_X2_trim : GoodIn wsX1_split wsX2_trim := goodIn_r _ [41, 34, 35, 6, 36, 24, 42, 5, 7, 15, 79, 80] (by decide +kernel) (by decide +kernel)
set_option maxRecDepth 20000 in
theorem gX1_split_X2_trim : GoodIn wsX1_split (wsV RX1 58 RX2 yX2_trim wsX2_trim) := goodIn_app (goodIn_of _ (by decide +kernel)) ggX1_split_X2_trim
set_option maxRecDepth 20000 in
theorem ggX1_split_X2_shiftDown : GoodIn wsX1_split wsX2_shiftDown := goodIn_r _ [71, 15, 42, 5, 6, 7, 24, 72, 73, 74, 13, 75, 37, 20, 21, 22, 23, 38, 39, 40, 41, 34, 35, 36, 79, 80] (by decide +kernel) (by decide +kernel)
set_option maxRecDepth 20000 in
theorem gX1_split_X2_shiftDown : GoodIn wsX1_split (wsV RX1 61 RX2 yX2_shiftDown wsX2_shiftDown) := goodIn_app (goodIn_of _ (by decide +kernel)) ggX1_split_X2_shiftDown
theorem dX1_split_0 : decode cX1_split 0 = .ok (.aload_n 2, 1) := by decide +kernel
theorem dX1_split_1 : decode cX1_split 1 = .ok (.invokevirtual 24, 3) := by decide +kernel
theorem dX1_split_4 : decode cX1_split 4 = .ok (.ifCond .eq 4, 3) := by decide +kernel
theorem dX1_split_7 : decode cX1_split 7 = .ok (.return_, 1) := by decide +kernel
theorem dX1_split_8 : decode cX1_split 8 = .ok (.aload_n 2, 1) := by decide +kernel
theorem dX1_split_9 : decode cX1_split 9 = .ok (.invokevirtual 28, 3) := by decide +kernel
theorem dX1_split_12 : decode cX1_split 12 = .ok (.istore_n 3, 1) := by decide +kernel
theorem dX1_split_13 : decode cX1_split 13 = .ok (.aload_n 0, 1) := by decide +kernel
theorem dX1_split_14 : decode cX1_split 14 = .ok (.getfield 21, 3) := by decide +kernel
theorem dX1_split_17 : decode cX1_split 17 = .ok (.aload_n 2, 1) := by decide +kernel
theorem dX1_split_18 : decode cX1_split 18 = .ok (.iload_n 3, 1) := by decide +kernel
theorem dX1_split_19 : decode cX1_split 19 = .ok (.invokevirtual 32, 3) := by decide +kernel
theorem dX1_split_22 : decode cX1_split 22 = .ok (.aload_n 0, 1) := by decide +kernel
theorem dX1_split_23 : decode cX1_split 23 = .ok (.getfield 18, 3) := by decide +kernel
theorem dX1_split_26 : decode cX1_split 26 = .ok (.aload_n 1, 1) := by decide +kernel
theorem dX1_split_27 : decode cX1_split 27 = .ok (.iload_n 3, 1) := by decide +kernel
theorem dX1_split_28 : decode cX1_split 28 = .ok (.invokevirtual 32, 3) := by decide +kernel
theorem dX1_split_31 : decode cX1_split 31 = .ok (.aload_n 0, 1) := by decide +kernel
theorem dX1_split_32 : decode cX1_split 32 = .ok (.getfield 18, 3) := by decide +kernel
theorem dX1_split_35 : decode cX1_split 35 = .ok (.getfield 36, 3) := by decide +kernel
theorem dX1_split_38 : decode cX1_split 38 = .ok (.istore 4, 2) := by decide +kernel
theorem dX1_split_40 : decode cX1_split 40 = .ok (.aload_n 0, 1) := by decide +kernel
theorem dX1_split_41 : decode cX1_split 41 = .ok (.getfield 18, 3) := by decide +kernel
theorem dX1_split_44 : decode cX1_split 44 = .ok (.iload 4, 2) := by decide +kernel
theorem dX1_split_46 : decode cX1_split 46 = .ok (.iconst 1, 1) := by decide +kernel
theorem dX1_split_47 : decode cX1_split 47 = .ok (.iadd, 1) := by decide +kernel
theorem dX1_split_48 : decode cX1_split 48 = .ok (.invokevirtual 40, 3) := by decide +kernel
theorem dX1_split_51 : decode cX1_split 51 = .ok (.iload 4, 2) := by decide +kernel
theorem dX1_split_53 : decode cX1_split 53 = .ok (.aload_n 0, 1) := by decide +kernel
theorem dX1_split_54 : decode cX1_split 54 = .ok (.getfield 21, 3) := by decide +kernel
theorem dX1_split_57 : decode cX1_split 57 = .ok (.getfield 36, 3) := by decide +kernel
theorem dX1_split_60 : decode cX1_split 60 = .ok (.isub, 1) := by decide +kernel
theorem dX1_split_61 : decode cX1_split 61 = .ok (.iconst 1, 1) := by decide +kernel
theorem dX1_split_62 : decode cX1_split 62 = .ok (.iadd, 1) := by decide +kernel
theorem dX1_split_63 : decode cX1_split 63 = .ok (.iconst 0, 1) := by decide +kernel
theorem dX1_split_64 : decode cX1_split 64 = .ok (.invokestatic 44, 3) := by decide +kernel
theorem dX1_split_67 : decode cX1_split 67 = .ok (.istore 5, 2) := by decide +kernel
theorem dX1_split_69 : decode cX1_split 69 = .ok (.iload 5, 2) := by decide +kernel
theorem dX1_split_71 : decode cX1_split 71 = .ok (.iconst 1, 1) := by decide +kernel
theorem dX1_split_72 : decode cX1_split 72 = .ok (.isub, 1) := by decide +kernel
theorem dX1_split_73 : decode cX1_split 73 = .ok (.istore 6, 2) := by decide +kernel
theorem dX1_split_75 : decode cX1_split 75 = .ok (.iload 6, 2) := by decide +kernel
theorem dX1_split_77 : decode cX1_split 77 = .ok (.ifCond .lt 25, 3) := by decide +kernel
theorem dX1_split_80 : decode cX1_split 80 = .ok (.aload_n 0, 1) := by decide +kernel
theorem dX1_split_81 : decode cX1_split 81 = .ok (.getfield 12, 3) := by decide +kernel
theorem dX1_split_84 : decode cX1_split 84 = .ok (.getfield 50, 3) := by decide +kernel
theorem dX1_split_87 : decode cX1_split 87 = .ok (.iload 6, 2) := by decide +kernel
theorem dX1_split_89 : decode cX1_split 89 = .ok (.aload_n 0, 1) := by decide +kernel
theorem dX1_split_90 : decode cX1_split 90 = .ok (.iload 6, 2) := by decide +kernel
theorem dX1_split_92 : decode cX1_split 92 = .ok (.invokevirtual 54, 3) := by decide +kernel
theorem dX1_split_95 : decode cX1_split 95 = .ok (.iastore, 1) := by decide +kernel
theorem dX1_split_96 : decode cX1_split 96 = .ok (.iinc 6 (-1), 3) := by decide +kernel
theorem dX1_split_99 : decode cX1_split 99 = .ok (.goto (-24), 3) := by decide +kernel
theorem dX1_split_102 : decode cX1_split 102 = .ok (.aload_n 0, 1) := by decide +kernel
theorem dX1_split_103 : decode cX1_split 103 = .ok (.getfield 12, 3) := by decide +kernel
theorem dX1_split_106 : decode cX1_split 106 = .ok (.iload 5, 2) := by decide +kernel
theorem dX1_split_108 : decode cX1_split 108 = .ok (.invokevirtual 58, 3) := by decide +kernel
theorem dX1_split_111 : decode cX1_split 111 = .ok (.aload_n 0, 1) := by decide +kernel
theorem dX1_split_112 : decode cX1_split 112 = .ok (.getfield 18, 3) := by decide +kernel
theorem dX1_split_115 : decode cX1_split 115 = .ok (.aload_n 0, 1) := by decide +kernel
theorem dX1_split_116 : decode cX1_split 116 = .ok (.getfield 18, 3) := by decide +kernel
theorem dX1_split_119 : decode cX1_split 119 = .ok (.iload_n 3, 1) := by decide +kernel
theorem dX1_split_120 : decode cX1_split 120 = .ok (.invokevirtual 61, 3) := by decide +kernel
theorem dX1_split_123 : decode cX1_split 123 = .ok (.return_, 1) := by decide +kernel
set_option maxRecDepth 20000 in
theorem ggX1_takeDigit_X1_guessDigit : GoodIn wsX1_takeDigit wsX1_guessDigit := goodIn_r _ [5, 6, 7, 8, 9, 10, 11, 12, 13, 14, 15, 16, 17, 27, 28, 29, 30, 31] (by decide +kernel) (by decide +kernel)
set_option maxRecDepth 20000 in
theorem gX1_takeDigit_X1_guessDigit : GoodIn wsX1_takeDigit (wsV RX1 64 RX1 yX1_guessDigit wsX1_guessDigit) := goodIn_app (goodIn_of _ (by decide +kernel)) ggX1_takeDigit_X1_guessDigit
set_option maxRecDepth 20000 in
theorem ggX1_takeDigit_X1_subtractAt : GoodIn wsX1_takeDigit wsX1_subtractAt := goodIn_r _ [21, 6, 7, 8, 9, 22, 27, 28, 29, 30, 31] (by decide +kernel) (by decide +kernel)
set_option maxRecDepth 20000 in
theorem gX1_takeDigit_X1_subtractAt : GoodIn wsX1_takeDigit (wsV RX1 67 RX1 yX1_subtractAt wsX1_subtractAt) := goodIn_app (goodIn_of _ (by decide +kernel)) ggX1_takeDigit_X1_subtractAt
set_option maxRecDepth 20000 in
theorem ggX1_takeDigit_X1_addBackAt : GoodIn wsX1_takeDigit wsX1_addBackAt := goodIn_r _ [26, 6, 7, 8, 9, 22, 27, 28, 29, 30, 31] (by decide +kernel) (by decide +kernel)
set_option maxRecDepth 20000 in
theorem gX1_takeDigit_X1_addBackAt : GoodIn wsX1_takeDigit (wsV RX1 71 RX1 yX1_addBackAt wsX1_addBackAt) := goodIn_app (goodIn_of _ (by decide +kernel)) ggX1_takeDigit_X1_addBackAt
theorem dX1_takeDigit_0 : decode cX1_takeDigit 0 = .ok (.aload_n 0, 1) := by decide +kernel
theorem dX1_takeDigit_1 : decode cX1_takeDigit 1 = .ok (.iload_n 1, 1) := by decide +kernel
theorem dX1_takeDigit_2 : decode cX1_takeDigit 2 = .ok (.invokevirtual 64, 3) := by decide +kernel
theorem dX1_takeDigit_5 : decode cX1_takeDigit 5 = .ok (.istore_n 2, 1) := by decide +kernel
theorem dX1_takeDigit_6 : decode cX1_takeDigit 6 = .ok (.aload_n 0, 1) := by decide +kernel
theorem dX1_takeDigit_7 : decode cX1_takeDigit 7 = .ok (.iload_n 1, 1) := by decide +kernel
theorem dX1_takeDigit_8 : decode cX1_takeDigit 8 = .ok (.iload_n 2, 1) := by decide +kernel
theorem dX1_takeDigit_9 : decode cX1_takeDigit 9 = .ok (.i2l, 1) := by decide +kernel
theorem dX1_takeDigit_10 : decode cX1_takeDigit 10 = .ok (.invokevirtual 67, 3) := by decide +kernel
theorem dX1_takeDigit_13 : decode cX1_takeDigit 13 = .ok (.ifCond .eq 11, 3) := by decide +kernel
theorem dX1_takeDigit_16 : decode cX1_takeDigit 16 = .ok (.aload_n 0, 1) := by decide +kernel
theorem dX1_takeDigit_17 : decode cX1_takeDigit 17 = .ok (.iload_n 1, 1) := by decide +kernel
theorem dX1_takeDigit_18 : decode cX1_takeDigit 18 = .ok (.invokevirtual 71, 3) := by decide +kernel
theorem dX1_takeDigit_21 : decode cX1_takeDigit 21 = .ok (.iinc 2 (-1), 3) := by decide +kernel
theorem dX1_takeDigit_24 : decode cX1_takeDigit 24 = .ok (.iload_n 2, 1) := by decide +kernel
theorem dX1_takeDigit_25 : decode cX1_takeDigit 25 = .ok (.ireturn, 1) := by decide +kernel
set_option maxRecDepth 20000 in
theorem ggX1_guessDigit_X2_limb : GoodIn wsX1_guessDigit wsX2_limb := goodIn_r _ [10, 11, 12, 16, 17] (by decide +kernel) (by decide +kernel)
set_option maxRecDepth 20000 in
theorem gX1_guessDigit_X2_limb : GoodIn wsX1_guessDigit (wsV RX1 74 RX2 yX2_limb wsX2_limb) := goodIn_app (goodIn_of _ (by decide +kernel)) ggX1_guessDigit_X2_limb
theorem dX1_guessDigit_0 : decode cX1_guessDigit 0 = .ok (.iload_n 1, 1) := by decide +kernel
theorem dX1_guessDigit_1 : decode cX1_guessDigit 1 = .ok (.aload_n 0, 1) := by decide +kernel
theorem dX1_guessDigit_2 : decode cX1_guessDigit 2 = .ok (.getfield 21, 3) := by decide +kernel
theorem dX1_guessDigit_5 : decode cX1_guessDigit 5 = .ok (.getfield 36, 3) := by decide +kernel
theorem dX1_guessDigit_8 : decode cX1_guessDigit 8 = .ok (.iadd, 1) := by decide +kernel
theorem dX1_guessDigit_9 : decode cX1_guessDigit 9 = .ok (.istore_n 2, 1) := by decide +kernel
theorem dX1_guessDigit_10 : decode cX1_guessDigit 10 = .ok (.aload_n 0, 1) := by decide +kernel
theorem dX1_guessDigit_11 : decode cX1_guessDigit 11 = .ok (.getfield 18, 3) := by decide +kernel
theorem dX1_guessDigit_14 : decode cX1_guessDigit 14 = .ok (.getfield 50, 3) := by decide +kernel
theorem dX1_guessDigit_17 : decode cX1_guessDigit 17 = .ok (.iload_n 2, 1) := by decide +kernel
theorem dX1_guessDigit_18 : decode cX1_guessDigit 18 = .ok (.iaload, 1) := by decide +kernel
theorem dX1_guessDigit_19 : decode cX1_guessDigit 19 = .ok (.i2l, 1) := by decide +kernel
theorem dX1_guessDigit_20 : decode cX1_guessDigit 20 = .ok (.bipush 30, 2) := by decide +kernel
theorem dX1_guessDigit_22 : decode cX1_guessDigit 22 = .ok (.lshl, 1) := by decide +kernel
theorem dX1_guessDigit_23 : decode cX1_guessDigit 23 = .ok (.aload_n 0, 1) := by decide +kernel
theorem dX1_guessDigit_24 : decode cX1_guessDigit 24 = .ok (.getfield 18, 3) := by decide +kernel
theorem dX1_guessDigit_27 : decode cX1_guessDigit 27 = .ok (.getfield 50, 3) := by decide +kernel
theorem dX1_guessDigit_30 : decode cX1_guessDigit 30 = .ok (.iload_n 2, 1) := by decide +kernel
theorem dX1_guessDigit_31 : decode cX1_guessDigit 31 = .ok (.iconst 1, 1) := by decide +kernel
theorem dX1_guessDigit_32 : decode cX1_guessDigit 32 = .ok (.isub, 1) := by decide +kernel
theorem dX1_guessDigit_33 : decode cX1_guessDigit 33 = .ok (.iaload, 1) := by decide +kernel
theorem dX1_guessDigit_34 : decode cX1_guessDigit 34 = .ok (.i2l, 1) := by decide +kernel
theorem dX1_guessDigit_35 : decode cX1_guessDigit 35 = .ok (.lor, 1) := by decide +kernel
theorem dX1_guessDigit_36 : decode cX1_guessDigit 36 = .ok (.lstore_n 3, 1) := by decide +kernel
theorem dX1_guessDigit_37 : decode cX1_guessDigit 37 = .ok (.iload_n 2, 1) := by decide +kernel
theorem dX1_guessDigit_38 : decode cX1_guessDigit 38 = .ok (.iconst 2, 1) := by decide +kernel
theorem dX1_guessDigit_39 : decode cX1_guessDigit 39 = .ok (.if_icmp .lt 18, 3) := by decide +kernel
theorem dX1_guessDigit_42 : decode cX1_guessDigit 42 = .ok (.aload_n 0, 1) := by decide +kernel
theorem dX1_guessDigit_43 : decode cX1_guessDigit 43 = .ok (.getfield 18, 3) := by decide +kernel
theorem dX1_guessDigit_46 : decode cX1_guessDigit 46 = .ok (.getfield 50, 3) := by decide +kernel
theorem dX1_guessDigit_49 : decode cX1_guessDigit 49 = .ok (.iload_n 2, 1) := by decide +kernel
theorem dX1_guessDigit_50 : decode cX1_guessDigit 50 = .ok (.iconst 2, 1) := by decide +kernel
theorem dX1_guessDigit_51 : decode cX1_guessDigit 51 = .ok (.isub, 1) := by decide +kernel
theorem dX1_guessDigit_52 : decode cX1_guessDigit 52 = .ok (.iaload, 1) := by decide +kernel
theorem dX1_guessDigit_53 : decode cX1_guessDigit 53 = .ok (.i2l, 1) := by decide +kernel
theorem dX1_guessDigit_54 : decode cX1_guessDigit 54 = .ok (.goto 4, 3) := by decide +kernel
theorem dX1_guessDigit_57 : decode cX1_guessDigit 57 = .ok (.lconst 0, 1) := by decide +kernel
theorem dX1_guessDigit_58 : decode cX1_guessDigit 58 = .ok (.lstore 5, 2) := by decide +kernel
theorem dX1_guessDigit_60 : decode cX1_guessDigit 60 = .ok (.aload_n 0, 1) := by decide +kernel
theorem dX1_guessDigit_61 : decode cX1_guessDigit 61 = .ok (.getfield 21, 3) := by decide +kernel
theorem dX1_guessDigit_64 : decode cX1_guessDigit 64 = .ok (.aload_n 0, 1) := by decide +kernel
theorem dX1_guessDigit_65 : decode cX1_guessDigit 65 = .ok (.getfield 21, 3) := by decide +kernel
theorem dX1_guessDigit_68 : decode cX1_guessDigit 68 = .ok (.getfield 36, 3) := by decide +kernel
theorem dX1_guessDigit_71 : decode cX1_guessDigit 71 = .ok (.iconst 1, 1) := by decide +kernel
theorem dX1_guessDigit_72 : decode cX1_guessDigit 72 = .ok (.isub, 1) := by decide +kernel
theorem dX1_guessDigit_73 : decode cX1_guessDigit 73 = .ok (.invokevirtual 74, 3) := by decide +kernel
theorem dX1_guessDigit_76 : decode cX1_guessDigit 76 = .ok (.i2l, 1) := by decide +kernel
theorem dX1_guessDigit_77 : decode cX1_guessDigit 77 = .ok (.lstore 7, 2) := by decide +kernel
theorem dX1_guessDigit_79 : decode cX1_guessDigit 79 = .ok (.aload_n 0, 1) := by decide +kernel
theorem dX1_guessDigit_80 : decode cX1_guessDigit 80 = .ok (.getfield 21, 3) := by decide +kernel
theorem dX1_guessDigit_83 : decode cX1_guessDigit 83 = .ok (.aload_n 0, 1) := by decide +kernel
theorem dX1_guessDigit_84 : decode cX1_guessDigit 84 = .ok (.getfield 21, 3) := by decide +kernel
theorem dX1_guessDigit_87 : decode cX1_guessDigit 87 = .ok (.getfield 36, 3) := by decide +kernel
theorem dX1_guessDigit_90 : decode cX1_guessDigit 90 = .ok (.iconst 2, 1) := by decide +kernel
theorem dX1_guessDigit_91 : decode cX1_guessDigit 91 = .ok (.isub, 1) := by decide +kernel
theorem dX1_guessDigit_92 : decode cX1_guessDigit 92 = .ok (.invokevirtual 74, 3) := by decide +kernel
theorem dX1_guessDigit_95 : decode cX1_guessDigit 95 = .ok (.i2l, 1) := by decide +kernel
theorem dX1_guessDigit_96 : decode cX1_guessDigit 96 = .ok (.lstore 9, 2) := by decide +kernel
theorem dX1_guessDigit_98 : decode cX1_guessDigit 98 = .ok (.lload 7, 2) := by decide +kernel
theorem dX1_guessDigit_100 : decode cX1_guessDigit 100 = .ok (.lconst 0, 1) := by decide +kernel
theorem dX1_guessDigit_101 : decode cX1_guessDigit 101 = .ok (.lcmp, 1) := by decide +kernel
theorem dX1_guessDigit_102 : decode cX1_guessDigit 102 = .ok (.ifCond .ne 5, 3) := by decide +kernel
theorem dX1_guessDigit_105 : decode cX1_guessDigit 105 = .ok (.iconst 0, 1) := by decide +kernel
theorem dX1_guessDigit_106 : decode cX1_guessDigit 106 = .ok (.ireturn, 1) := by decide +kernel
theorem dX1_guessDigit_107 : decode cX1_guessDigit 107 = .ok (.lload_n 3, 1) := by decide +kernel
theorem dX1_guessDigit_108 : decode cX1_guessDigit 108 = .ok (.lload 7, 2) := by decide +kernel
theorem dX1_guessDigit_110 : decode cX1_guessDigit 110 = .ok (.ldiv, 1) := by decide +kernel
theorem dX1_guessDigit_111 : decode cX1_guessDigit 111 = .ok (.lstore 11, 2) := by decide +kernel
theorem dX1_guessDigit_113 : decode cX1_guessDigit 113 = .ok (.lload_n 3, 1) := by decide +kernel
theorem dX1_guessDigit_114 : decode cX1_guessDigit 114 = .ok (.lload 7, 2) := by decide +kernel
theorem dX1_guessDigit_116 : decode cX1_guessDigit 116 = .ok (.lrem, 1) := by decide +kernel
theorem dX1_guessDigit_117 : decode cX1_guessDigit 117 = .ok (.lstore 13, 2) := by decide +kernel
theorem dX1_guessDigit_119 : decode cX1_guessDigit 119 = .ok (.iconst 0, 1) := by decide +kernel
theorem dX1_guessDigit_120 : decode cX1_guessDigit 120 = .ok (.istore 15, 2) := by decide +kernel
theorem dX1_guessDigit_122 : decode cX1_guessDigit 122 = .ok (.iload 15, 2) := by decide +kernel
theorem dX1_guessDigit_124 : decode cX1_guessDigit 124 = .ok (.iconst 2, 1) := by decide +kernel
theorem dX1_guessDigit_125 : decode cX1_guessDigit 125 = .ok (.if_icmp .ge 60, 3) := by decide +kernel
theorem dX1_guessDigit_128 : decode cX1_guessDigit 128 = .ok (.lload 13, 2) := by decide +kernel
theorem dX1_guessDigit_130 : decode cX1_guessDigit 130 = .ok (.ldc2_w 77, 3) := by decide +kernel
theorem dX1_guessDigit_133 : decode cX1_guessDigit 133 = .ok (.lcmp, 1) := by decide +kernel
theorem dX1_guessDigit_134 : decode cX1_guessDigit 134 = .ok (.ifCond .gt 51, 3) := by decide +kernel
theorem dX1_guessDigit_137 : decode cX1_guessDigit 137 = .ok (.lload 11, 2) := by decide +kernel
theorem dX1_guessDigit_139 : decode cX1_guessDigit 139 = .ok (.ldc2_w 77, 3) := by decide +kernel
theorem dX1_guessDigit_142 : decode cX1_guessDigit 142 = .ok (.lcmp, 1) := by decide +kernel
theorem dX1_guessDigit_143 : decode cX1_guessDigit 143 = .ok (.ifCond .gt 23, 3) := by decide +kernel
theorem dX1_guessDigit_146 : decode cX1_guessDigit 146 = .ok (.lload 11, 2) := by decide +kernel
theorem dX1_guessDigit_148 : decode cX1_guessDigit 148 = .ok (.lload 9, 2) := by decide +kernel
theorem dX1_guessDigit_150 : decode cX1_guessDigit 150 = .ok (.lmul, 1) := by decide +kernel
theorem dX1_guessDigit_151 : decode cX1_guessDigit 151 = .ok (.lload 13, 2) := by decide +kernel
theorem dX1_guessDigit_153 : decode cX1_guessDigit 153 = .ok (.bipush 30, 2) := by decide +kernel
theorem dX1_guessDigit_155 : decode cX1_guessDigit 155 = .ok (.lshl, 1) := by decide +kernel
theorem dX1_guessDigit_156 : decode cX1_guessDigit 156 = .ok (.lload 5, 2) := by decide +kernel
theorem dX1_guessDigit_158 : decode cX1_guessDigit 158 = .ok (.lor, 1) := by decide +kernel
theorem dX1_guessDigit_159 : decode cX1_guessDigit 159 = .ok (.lcmp, 1) := by decide +kernel
theorem dX1_guessDigit_160 : decode cX1_guessDigit 160 = .ok (.ifCond .gt 6, 3) := by decide +kernel
theorem dX1_guessDigit_163 : decode cX1_guessDigit 163 = .ok (.goto 22, 3) := by decide +kernel
theorem dX1_guessDigit_166 : decode cX1_guessDigit 166 = .ok (.lload 11, 2) := by decide +kernel
theorem dX1_guessDigit_168 : decode cX1_guessDigit 168 = .ok (.lconst 1, 1) := by decide +kernel
theorem dX1_guessDigit_169 : decode cX1_guessDigit 169 = .ok (.lsub, 1) := by decide +kernel
theorem dX1_guessDigit_170 : decode cX1_guessDigit 170 = .ok (.lstore 11, 2) := by decide +kernel
theorem dX1_guessDigit_172 : decode cX1_guessDigit 172 = .ok (.lload 13, 2) := by decide +kernel
theorem dX1_guessDigit_174 : decode cX1_guessDigit 174 = .ok (.lload 7, 2) := by decide +kernel
theorem dX1_guessDigit_176 : decode cX1_guessDigit 176 = .ok (.ladd, 1) := by decide +kernel
theorem dX1_guessDigit_177 : decode cX1_guessDigit 177 = .ok (.lstore 13, 2) := by decide +kernel
theorem dX1_guessDigit_179 : decode cX1_guessDigit 179 = .ok (.iinc 15 1, 3) := by decide +kernel
theorem dX1_guessDigit_182 : decode cX1_guessDigit 182 = .ok (.goto (-60), 3) := by decide +kernel
theorem dX1_guessDigit_185 : decode cX1_guessDigit 185 = .ok (.lload 11, 2) := by decide +kernel
theorem dX1_guessDigit_187 : decode cX1_guessDigit 187 = .ok (.l2i, 1) := by decide +kernel
theorem dX1_guessDigit_188 : decode cX1_guessDigit 188 = .ok (.ireturn, 1) := by decide +kernel
theorem dX1_subtractAt_0 : decode cX1_subtractAt 0 = .ok (.aload_n 0, 1) := by decide +kernel
theorem dX1_subtractAt_1 : decode cX1_subtractAt 1 = .ok (.getfield 21, 3) := by decide +kernel
theorem dX1_subtractAt_4 : decode cX1_subtractAt 4 = .ok (.getfield 36, 3) := by decide +kernel
theorem dX1_subtractAt_7 : decode cX1_subtractAt 7 = .ok (.istore 4, 2) := by decide +kernel
theorem dX1_subtractAt_9 : decode cX1_subtractAt 9 = .ok (.lconst 0, 1) := by decide +kernel
theorem dX1_subtractAt_10 : decode cX1_subtractAt 10 = .ok (.lstore 5, 2) := by decide +kernel
theorem dX1_subtractAt_12 : decode cX1_subtractAt 12 = .ok (.iconst 0, 1) := by decide +kernel
theorem dX1_subtractAt_13 : decode cX1_subtractAt 13 = .ok (.istore 7, 2) := by decide +kernel
theorem dX1_subtractAt_15 : decode cX1_subtractAt 15 = .ok (.iload 7, 2) := by decide +kernel
theorem dX1_subtractAt_17 : decode cX1_subtractAt 17 = .ok (.iload 4, 2) := by decide +kernel
theorem dX1_subtractAt_19 : decode cX1_subtractAt 19 = .ok (.if_icmp .ge 66, 3) := by decide +kernel
theorem dX1_subtractAt_22 : decode cX1_subtractAt 22 = .ok (.aload_n 0, 1) := by decide +kernel
theorem dX1_subtractAt_23 : decode cX1_subtractAt 23 = .ok (.getfield 18, 3) := by decide +kernel
theorem dX1_subtractAt_26 : decode cX1_subtractAt 26 = .ok (.getfield 50, 3) := by decide +kernel
theorem dX1_subtractAt_29 : decode cX1_subtractAt 29 = .ok (.iload_n 1, 1) := by decide +kernel
theorem dX1_subtractAt_30 : decode cX1_subtractAt 30 = .ok (.iload 7, 2) := by decide +kernel
theorem dX1_subtractAt_32 : decode cX1_subtractAt 32 = .ok (.iadd, 1) := by decide +kernel
theorem dX1_subtractAt_33 : decode cX1_subtractAt 33 = .ok (.iaload, 1) := by decide +kernel
theorem dX1_subtractAt_34 : decode cX1_subtractAt 34 = .ok (.i2l, 1) := by decide +kernel
theorem dX1_subtractAt_35 : decode cX1_subtractAt 35 = .ok (.lload_n 2, 1) := by decide +kernel
theorem dX1_subtractAt_36 : decode cX1_subtractAt 36 = .ok (.aload_n 0, 1) := by decide +kernel
theorem dX1_subtractAt_37 : decode cX1_subtractAt 37 = .ok (.getfield 21, 3) := by decide +kernel
theorem dX1_subtractAt_40 : decode cX1_subtractAt 40 = .ok (.getfield 50, 3) := by decide +kernel
theorem dX1_subtractAt_43 : decode cX1_subtractAt 43 = .ok (.iload 7, 2) := by decide +kernel
theorem dX1_subtractAt_45 : decode cX1_subtractAt 45 = .ok (.iaload, 1) := by decide +kernel
theorem dX1_subtractAt_46 : decode cX1_subtractAt 46 = .ok (.i2l, 1) := by decide +kernel
theorem dX1_subtractAt_47 : decode cX1_subtractAt 47 = .ok (.lmul, 1) := by decide +kernel
theorem dX1_subtractAt_48 : decode cX1_subtractAt 48 = .ok (.lsub, 1) := by decide +kernel
theorem dX1_subtractAt_49 : decode cX1_subtractAt 49 = .ok (.lload 5, 2) := by decide +kernel
theorem dX1_subtractAt_51 : decode cX1_subtractAt 51 = .ok (.ladd, 1) := by decide +kernel
theorem dX1_subtractAt_52 : decode cX1_subtractAt 52 = .ok (.lstore 8, 2) := by decide +kernel
theorem dX1_subtractAt_54 : decode cX1_subtractAt 54 = .ok (.aload_n 0, 1) := by decide +kernel
theorem dX1_subtractAt_55 : decode cX1_subtractAt 55 = .ok (.getfield 18, 3) := by decide +kernel
theorem dX1_subtractAt_58 : decode cX1_subtractAt 58 = .ok (.getfield 50, 3) := by decide +kernel
theorem dX1_subtractAt_61 : decode cX1_subtractAt 61 = .ok (.iload_n 1, 1) := by decide +kernel
theorem dX1_subtractAt_62 : decode cX1_subtractAt 62 = .ok (.iload 7, 2) := by decide +kernel
theorem dX1_subtractAt_64 : decode cX1_subtractAt 64 = .ok (.iadd, 1) := by decide +kernel
theorem dX1_subtractAt_65 : decode cX1_subtractAt 65 = .ok (.lload 8, 2) := by decide +kernel
theorem dX1_subtractAt_67 : decode cX1_subtractAt 67 = .ok (.l2i, 1) := by decide +kernel
theorem dX1_subtractAt_68 : decode cX1_subtractAt 68 = .ok (.ldc 79, 2) := by decide +kernel
theorem dX1_subtractAt_70 : decode cX1_subtractAt 70 = .ok (.iand, 1) := by decide +kernel
theorem dX1_subtractAt_71 : decode cX1_subtractAt 71 = .ok (.iastore, 1) := by decide +kernel
theorem dX1_subtractAt_72 : decode cX1_subtractAt 72 = .ok (.lload 8, 2) := by decide +kernel
theorem dX1_subtractAt_74 : decode cX1_subtractAt 74 = .ok (.bipush 30, 2) := by decide +kernel
theorem dX1_subtractAt_76 : decode cX1_subtractAt 76 = .ok (.lshr, 1) := by decide +kernel
theorem dX1_subtractAt_77 : decode cX1_subtractAt 77 = .ok (.lstore 5, 2) := by decide +kernel
theorem dX1_subtractAt_79 : decode cX1_subtractAt 79 = .ok (.iinc 7 1, 3) := by decide +kernel
theorem dX1_subtractAt_82 : decode cX1_subtractAt 82 = .ok (.goto (-67), 3) := by decide +kernel
theorem dX1_subtractAt_85 : decode cX1_subtractAt 85 = .ok (.aload_n 0, 1) := by decide +kernel
theorem dX1_subtractAt_86 : decode cX1_subtractAt 86 = .ok (.getfield 18, 3) := by decide +kernel
theorem dX1_subtractAt_89 : decode cX1_subtractAt 89 = .ok (.getfield 50, 3) := by decide +kernel
theorem dX1_subtractAt_92 : decode cX1_subtractAt 92 = .ok (.iload_n 1, 1) := by decide +kernel
theorem dX1_subtractAt_93 : decode cX1_subtractAt 93 = .ok (.iload 4, 2) := by decide +kernel
theorem dX1_subtractAt_95 : decode cX1_subtractAt 95 = .ok (.iadd, 1) := by decide +kernel
theorem dX1_subtractAt_96 : decode cX1_subtractAt 96 = .ok (.iaload, 1) := by decide +kernel
theorem dX1_subtractAt_97 : decode cX1_subtractAt 97 = .ok (.i2l, 1) := by decide +kernel
theorem dX1_subtractAt_98 : decode cX1_subtractAt 98 = .ok (.lload 5, 2) := by decide +kernel
theorem dX1_subtractAt_100 : decode cX1_subtractAt 100 = .ok (.ladd, 1) := by decide +kernel
theorem dX1_subtractAt_101 : decode cX1_subtractAt 101 = .ok (.lstore 7, 2) := by decide +kernel
theorem dX1_subtractAt_103 : decode cX1_subtractAt 103 = .ok (.aload_n 0, 1) := by decide +kernel
theorem dX1_subtractAt_104 : decode cX1_subtractAt 104 = .ok (.getfield 18, 3) := by decide +kernel
theorem dX1_subtractAt_107 : decode cX1_subtractAt 107 = .ok (.getfield 50, 3) := by decide +kernel
theorem dX1_subtractAt_110 : decode cX1_subtractAt 110 = .ok (.iload_n 1, 1) := by decide +kernel
theorem dX1_subtractAt_111 : decode cX1_subtractAt 111 = .ok (.iload 4, 2) := by decide +kernel
theorem dX1_subtractAt_113 : decode cX1_subtractAt 113 = .ok (.iadd, 1) := by decide +kernel
theorem dX1_subtractAt_114 : decode cX1_subtractAt 114 = .ok (.lload 7, 2) := by decide +kernel
theorem dX1_subtractAt_116 : decode cX1_subtractAt 116 = .ok (.l2i, 1) := by decide +kernel
theorem dX1_subtractAt_117 : decode cX1_subtractAt 117 = .ok (.ldc 79, 2) := by decide +kernel
theorem dX1_subtractAt_119 : decode cX1_subtractAt 119 = .ok (.iand, 1) := by decide +kernel
theorem dX1_subtractAt_120 : decode cX1_subtractAt 120 = .ok (.iastore, 1) := by decide +kernel
theorem dX1_subtractAt_121 : decode cX1_subtractAt 121 = .ok (.lload 7, 2) := by decide +kernel
theorem dX1_subtractAt_123 : decode cX1_subtractAt 123 = .ok (.lconst 0, 1) := by decide +kernel
theorem dX1_subtractAt_124 : decode cX1_subtractAt 124 = .ok (.lcmp, 1) := by decide +kernel
theorem dX1_subtractAt_125 : decode cX1_subtractAt 125 = .ok (.ifCond .ge 7, 3) := by decide +kernel
theorem dX1_subtractAt_128 : decode cX1_subtractAt 128 = .ok (.iconst 1, 1) := by decide +kernel
theorem dX1_subtractAt_129 : decode cX1_subtractAt 129 = .ok (.goto 4, 3) := by decide +kernel
theorem dX1_subtractAt_132 : decode cX1_subtractAt 132 = .ok (.iconst 0, 1) := by decide +kernel
theorem dX1_subtractAt_133 : decode cX1_subtractAt 133 = .ok (.ireturn, 1) := by decide +kernel
theorem dX1_addBackAt_0 : decode cX1_addBackAt 0 = .ok (.aload_n 0, 1) := by decide +kernel
theorem dX1_addBackAt_1 : decode cX1_addBackAt 1 = .ok (.getfield 21, 3) := by decide +kernel
theorem dX1_addBackAt_4 : decode cX1_addBackAt 4 = .ok (.getfield 36, 3) := by decide +kernel
theorem dX1_addBackAt_7 : decode cX1_addBackAt 7 = .ok (.istore_n 2, 1) := by decide +kernel
theorem dX1_addBackAt_8 : decode cX1_addBackAt 8 = .ok (.iconst 0, 1) := by decide +kernel
theorem dX1_addBackAt_9 : decode cX1_addBackAt 9 = .ok (.istore_n 3, 1) := by decide +kernel
theorem dX1_addBackAt_10 : decode cX1_addBackAt 10 = .ok (.iconst 0, 1) := by decide +kernel
theorem dX1_addBackAt_11 : decode cX1_addBackAt 11 = .ok (.istore 4, 2) := by decide +kernel
theorem dX1_addBackAt_13 : decode cX1_addBackAt 13 = .ok (.iload 4, 2) := by decide +kernel
theorem dX1_addBackAt_15 : decode cX1_addBackAt 15 = .ok (.iload_n 2, 1) := by decide +kernel
theorem dX1_addBackAt_16 : decode cX1_addBackAt 16 = .ok (.if_icmp .ge 59, 3) := by decide +kernel
theorem dX1_addBackAt_19 : decode cX1_addBackAt 19 = .ok (.aload_n 0, 1) := by decide +kernel
theorem dX1_addBackAt_20 : decode cX1_addBackAt 20 = .ok (.getfield 18, 3) := by decide +kernel
theorem dX1_addBackAt_23 : decode cX1_addBackAt 23 = .ok (.getfield 50, 3) := by decide +kernel
theorem dX1_addBackAt_26 : decode cX1_addBackAt 26 = .ok (.iload_n 1, 1) := by decide +kernel
theorem dX1_addBackAt_27 : decode cX1_addBackAt 27 = .ok (.iload 4, 2) := by decide +kernel
theorem dX1_addBackAt_29 : decode cX1_addBackAt 29 = .ok (.iadd, 1) := by decide +kernel
theorem dX1_addBackAt_30 : decode cX1_addBackAt 30 = .ok (.iaload, 1) := by decide +kernel
theorem dX1_addBackAt_31 : decode cX1_addBackAt 31 = .ok (.aload_n 0, 1) := by decide +kernel
theorem dX1_addBackAt_32 : decode cX1_addBackAt 32 = .ok (.getfield 21, 3) := by decide +kernel
theorem dX1_addBackAt_35 : decode cX1_addBackAt 35 = .ok (.getfield 50, 3) := by decide +kernel
theorem dX1_addBackAt_38 : decode cX1_addBackAt 38 = .ok (.iload 4, 2) := by decide +kernel
theorem dX1_addBackAt_40 : decode cX1_addBackAt 40 = .ok (.iaload, 1) := by decide +kernel
theorem dX1_addBackAt_41 : decode cX1_addBackAt 41 = .ok (.iadd, 1) := by decide +kernel
theorem dX1_addBackAt_42 : decode cX1_addBackAt 42 = .ok (.iload_n 3, 1) := by decide +kernel
theorem dX1_addBackAt_43 : decode cX1_addBackAt 43 = .ok (.iadd, 1) := by decide +kernel
theorem dX1_addBackAt_44 : decode cX1_addBackAt 44 = .ok (.istore 5, 2) := by decide +kernel
theorem dX1_addBackAt_46 : decode cX1_addBackAt 46 = .ok (.aload_n 0, 1) := by decide +kernel
theorem dX1_addBackAt_47 : decode cX1_addBackAt 47 = .ok (.getfield 18, 3) := by decide +kernel
theorem dX1_addBackAt_50 : decode cX1_addBackAt 50 = .ok (.getfield 50, 3) := by decide +kernel
theorem dX1_addBackAt_53 : decode cX1_addBackAt 53 = .ok (.iload_n 1, 1) := by decide +kernel
theorem dX1_addBackAt_54 : decode cX1_addBackAt 54 = .ok (.iload 4, 2) := by decide +kernel
theorem dX1_addBackAt_56 : decode cX1_addBackAt 56 = .ok (.iadd, 1) := by decide +kernel
theorem dX1_addBackAt_57 : decode cX1_addBackAt 57 = .ok (.iload 5, 2) := by decide +kernel
theorem dX1_addBackAt_59 : decode cX1_addBackAt 59 = .ok (.ldc 79, 2) := by decide +kernel
theorem dX1_addBackAt_61 : decode cX1_addBackAt 61 = .ok (.iand, 1) := by decide +kernel
theorem dX1_addBackAt_62 : decode cX1_addBackAt 62 = .ok (.iastore, 1) := by decide +kernel
theorem dX1_addBackAt_63 : decode cX1_addBackAt 63 = .ok (.iload 5, 2) := by decide +kernel
theorem dX1_addBackAt_65 : decode cX1_addBackAt 65 = .ok (.bipush 30, 2) := by decide +kernel
theorem dX1_addBackAt_67 : decode cX1_addBackAt 67 = .ok (.iushr, 1) := by decide +kernel
theorem dX1_addBackAt_68 : decode cX1_addBackAt 68 = .ok (.istore_n 3, 1) := by decide +kernel
theorem dX1_addBackAt_69 : decode cX1_addBackAt 69 = .ok (.iinc 4 1, 3) := by decide +kernel
theorem dX1_addBackAt_72 : decode cX1_addBackAt 72 = .ok (.goto (-59), 3) := by decide +kernel
theorem dX1_addBackAt_75 : decode cX1_addBackAt 75 = .ok (.aload_n 0, 1) := by decide +kernel
theorem dX1_addBackAt_76 : decode cX1_addBackAt 76 = .ok (.getfield 18, 3) := by decide +kernel
theorem dX1_addBackAt_79 : decode cX1_addBackAt 79 = .ok (.getfield 50, 3) := by decide +kernel
theorem dX1_addBackAt_82 : decode cX1_addBackAt 82 = .ok (.iload_n 1, 1) := by decide +kernel
theorem dX1_addBackAt_83 : decode cX1_addBackAt 83 = .ok (.iload_n 2, 1) := by decide +kernel
theorem dX1_addBackAt_84 : decode cX1_addBackAt 84 = .ok (.iadd, 1) := by decide +kernel
theorem dX1_addBackAt_85 : decode cX1_addBackAt 85 = .ok (.aload_n 0, 1) := by decide +kernel
theorem dX1_addBackAt_86 : decode cX1_addBackAt 86 = .ok (.getfield 18, 3) := by decide +kernel
theorem dX1_addBackAt_89 : decode cX1_addBackAt 89 = .ok (.getfield 50, 3) := by decide +kernel
theorem dX1_addBackAt_92 : decode cX1_addBackAt 92 = .ok (.iload_n 1, 1) := by decide +kernel
theorem dX1_addBackAt_93 : decode cX1_addBackAt 93 = .ok (.iload_n 2, 1) := by decide +kernel
theorem dX1_addBackAt_94 : decode cX1_addBackAt 94 = .ok (.iadd, 1) := by decide +kernel
theorem dX1_addBackAt_95 : decode cX1_addBackAt 95 = .ok (.iaload, 1) := by decide +kernel
theorem dX1_addBackAt_96 : decode cX1_addBackAt 96 = .ok (.iload_n 3, 1) := by decide +kernel
theorem dX1_addBackAt_97 : decode cX1_addBackAt 97 = .ok (.iadd, 1) := by decide +kernel
theorem dX1_addBackAt_98 : decode cX1_addBackAt 98 = .ok (.ldc 79, 2) := by decide +kernel
theorem dX1_addBackAt_100 : decode cX1_addBackAt 100 = .ok (.iand, 1) := by decide +kernel
theorem dX1_addBackAt_101 : decode cX1_addBackAt 101 = .ok (.iastore, 1) := by decide +kernel
theorem dX1_addBackAt_102 : decode cX1_addBackAt 102 = .ok (.return_, 1) := by decide +kernel
theorem dX2_init_0 : decode cX2_init 0 = .ok (.aload_n 0, 1) := by decide +kernel
theorem dX2_init_1 : decode cX2_init 1 = .ok (.invokespecial 3, 3) := by decide +kernel
theorem dX2_init_4 : decode cX2_init 4 = .ok (.aload_n 0, 1) := by decide +kernel
theorem dX2_init_5 : decode cX2_init 5 = .ok (.sipush 140, 3) := by decide +kernel
theorem dX2_init_8 : decode cX2_init 8 = .ok (.newarray .int, 2) := by decide +kernel
theorem dX2_init_10 : decode cX2_init 10 = .ok (.putfield 9, 3) := by decide +kernel
theorem dX2_init_13 : decode cX2_init 13 = .ok (.return_, 1) := by decide +kernel
theorem dX2_isZero_0 : decode cX2_isZero 0 = .ok (.aload_n 0, 1) := by decide +kernel
theorem dX2_isZero_1 : decode cX2_isZero 1 = .ok (.getfield 15, 3) := by decide +kernel
theorem dX2_isZero_4 : decode cX2_isZero 4 = .ok (.ifCond .ne 7, 3) := by decide +kernel
theorem dX2_isZero_7 : decode cX2_isZero 7 = .ok (.iconst 1, 1) := by decide +kernel
theorem dX2_isZero_8 : decode cX2_isZero 8 = .ok (.goto 4, 3) := by decide +kernel
theorem dX2_isZero_11 : decode cX2_isZero 11 = .ok (.iconst 0, 1) := by decide +kernel
theorem dX2_isZero_12 : decode cX2_isZero 12 = .ok (.ireturn, 1) := by decide +kernel
theorem dX2_limb_0 : decode cX2_limb 0 = .ok (.iload_n 1, 1) := by decide +kernel
theorem dX2_limb_1 : decode cX2_limb 1 = .ok (.ifCond .lt 20, 3) := by decide +kernel
theorem dX2_limb_4 : decode cX2_limb 4 = .ok (.iload_n 1, 1) := by decide +kernel
theorem dX2_limb_5 : decode cX2_limb 5 = .ok (.aload_n 0, 1) := by decide +kernel
theorem dX2_limb_6 : decode cX2_limb 6 = .ok (.getfield 15, 3) := by decide +kernel
theorem dX2_limb_9 : decode cX2_limb 9 = .ok (.if_icmp .ge 12, 3) := by decide +kernel
theorem dX2_limb_12 : decode cX2_limb 12 = .ok (.aload_n 0, 1) := by decide +kernel
theorem dX2_limb_13 : decode cX2_limb 13 = .ok (.getfield 9, 3) := by decide +kernel
theorem dX2_limb_16 : decode cX2_limb 16 = .ok (.iload_n 1, 1) := by decide +kernel
theorem dX2_limb_17 : decode cX2_limb 17 = .ok (.iaload, 1) := by decide +kernel
theorem dX2_limb_18 : decode cX2_limb 18 = .ok (.goto 4, 3) := by decide +kernel
theorem dX2_limb_21 : decode cX2_limb 21 = .ok (.iconst 0, 1) := by decide +kernel
theorem dX2_limb_22 : decode cX2_limb 22 = .ok (.ireturn, 1) := by decide +kernel
set_option maxRecDepth 20000 in
theorem ggX2_bitLength_X2_spareBits : GoodIn wsX2_bitLength wsX2_spareBits := goodIn_r _ [6, 1, 7, 8, 9, 5, 10, 11, 12, 13, 14, 15, 16, 17, 18] (by decide +kernel) (by decide +kernel)
set_option maxRecDepth 20000 in
theorem gX2_bitLength_X2_spareBits : GoodIn wsX2_bitLength (wsV RX2 19 RX2 yX2_spareBits wsX2_spareBits) := goodIn_app (goodIn_of _ (by decide +kernel)) ggX2_bitLength_X2_spareBits
theorem dX2_bitLength_0 : decode cX2_bitLength 0 = .ok (.aload_n 0, 1) := by decide +kernel
theorem dX2_bitLength_1 : decode cX2_bitLength 1 = .ok (.getfield 15, 3) := by decide +kernel
theorem dX2_bitLength_4 : decode cX2_bitLength 4 = .ok (.bipush 30, 2) := by decide +kernel
theorem dX2_bitLength_6 : decode cX2_bitLength 6 = .ok (.imul, 1) := by decide +kernel
theorem dX2_bitLength_7 : decode cX2_bitLength 7 = .ok (.aload_n 0, 1) := by decide +kernel
theorem dX2_bitLength_8 : decode cX2_bitLength 8 = .ok (.invokevirtual 19, 3) := by decide +kernel
theorem dX2_bitLength_11 : decode cX2_bitLength 11 = .ok (.isub, 1) := by decide +kernel
theorem dX2_bitLength_12 : decode cX2_bitLength 12 = .ok (.ireturn, 1) := by decide +kernel
set_option maxRecDepth 20000 in
theorem ggX2_spareBits_X2_limb : GoodIn wsX2_spareBits wsX2_limb := goodIn_r _ [6, 1, 7, 13, 14] (by decide +kernel) (by decide +kernel)
set_option maxRecDepth 20000 in
theorem gX2_spareBits_X2_limb : GoodIn wsX2_spareBits (wsV RX2 23 RX2 yX2_limb wsX2_limb) := goodIn_app (goodIn_of _ (by decide +kernel)) ggX2_spareBits_X2_limb
set_option maxRecDepth 20000 in
theorem ggX2_spareBits_J6_numberOfLeadingZeros_0f7a4 : GoodIn wsX2_spareBits wsJ6_numberOfLeadingZeros_0f7a4 := goodIn_r _ [11, 12] (by decide +kernel) (by decide +kernel)
set_option maxRecDepth 20000 in
theorem gX2_spareBits_J6_numberOfLeadingZeros_0f7a4 : GoodIn wsX2_spareBits (va_wsS RX2 27 yJ6_numberOfLeadingZeros_0f7a4 wsJ6_numberOfLeadingZeros_0f7a4) := goodIn_app (goodIn_of _ (by decide +kernel)) ggX2_spareBits_J6_numberOfLeadingZeros_0f7a4
theorem dX2_spareBits_0 : decode cX2_spareBits 0 = .ok (.aload_n 0, 1) := by decide +kernel
theorem dX2_spareBits_1 : decode cX2_spareBits 1 = .ok (.getfield 15, 3) := by decide +kernel
theorem dX2_spareBits_4 : decode cX2_spareBits 4 = .ok (.ifCond .ne 7, 3) := by decide +kernel
theorem dX2_spareBits_7 : decode cX2_spareBits 7 = .ok (.iconst 0, 1) := by decide +kernel
theorem dX2_spareBits_8 : decode cX2_spareBits 8 = .ok (.goto 18, 3) := by decide +kernel
theorem dX2_spareBits_11 : decode cX2_spareBits 11 = .ok (.aload_n 0, 1) := by decide +kernel
theorem dX2_spareBits_12 : decode cX2_spareBits 12 = .ok (.aload_n 0, 1) := by decide +kernel
theorem dX2_spareBits_13 : decode cX2_spareBits 13 = .ok (.getfield 15, 3) := by decide +kernel
theorem dX2_spareBits_16 : decode cX2_spareBits 16 = .ok (.iconst 1, 1) := by decide +kernel
theorem dX2_spareBits_17 : decode cX2_spareBits 17 = .ok (.isub, 1) := by decide +kernel
theorem dX2_spareBits_18 : decode cX2_spareBits 18 = .ok (.invokevirtual 23, 3) := by decide +kernel
theorem dX2_spareBits_21 : decode cX2_spareBits 21 = .ok (.invokestatic 27, 3) := by decide +kernel
theorem dX2_spareBits_24 : decode cX2_spareBits 24 = .ok (.iconst 2, 1) := by decide +kernel
theorem dX2_spareBits_25 : decode cX2_spareBits 25 = .ok (.isub, 1) := by decide +kernel
theorem dX2_spareBits_26 : decode cX2_spareBits 26 = .ok (.ireturn, 1) := by decide +kernel
set_option maxRecDepth 20000 in
theorem ggX2_limbFrom_X2_limb : GoodIn wsX2_limbFrom wsX2_limb := goodIn_r _ [6, 7, 8, 9, 10] (by decide +kernel) (by decide +kernel)
set_option maxRecDepth 20000 in
theorem gX2_limbFrom_X2_limb : GoodIn wsX2_limbFrom (wsV RX2 23 RX2 yX2_limb wsX2_limb) := goodIn_app (goodIn_of _ (by decide +kernel)) ggX2_limbFrom_X2_limb
theorem dX2_limbFrom_0 : decode cX2_limbFrom 0 = .ok (.iload_n 1, 1) := by decide +kernel
theorem dX2_limbFrom_1 : decode cX2_limbFrom 1 = .ok (.bipush 30, 2) := by decide +kernel
theorem dX2_limbFrom_3 : decode cX2_limbFrom 3 = .ok (.idiv, 1) := by decide +kernel
theorem dX2_limbFrom_4 : decode cX2_limbFrom 4 = .ok (.istore_n 2, 1) := by decide +kernel
theorem dX2_limbFrom_5 : decode cX2_limbFrom 5 = .ok (.iload_n 1, 1) := by decide +kernel
theorem dX2_limbFrom_6 : decode cX2_limbFrom 6 = .ok (.bipush 30, 2) := by decide +kernel
theorem dX2_limbFrom_8 : decode cX2_limbFrom 8 = .ok (.irem, 1) := by decide +kernel
theorem dX2_limbFrom_9 : decode cX2_limbFrom 9 = .ok (.istore_n 3, 1) := by decide +kernel
theorem dX2_limbFrom_10 : decode cX2_limbFrom 10 = .ok (.aload_n 0, 1) := by decide +kernel
theorem dX2_limbFrom_11 : decode cX2_limbFrom 11 = .ok (.iload_n 2, 1) := by decide +kernel
theorem dX2_limbFrom_12 : decode cX2_limbFrom 12 = .ok (.invokevirtual 23, 3) := by decide +kernel
theorem dX2_limbFrom_15 : decode cX2_limbFrom 15 = .ok (.iload_n 3, 1) := by decide +kernel
theorem dX2_limbFrom_16 : decode cX2_limbFrom 16 = .ok (.iushr, 1) := by decide +kernel
theorem dX2_limbFrom_17 : decode cX2_limbFrom 17 = .ok (.aload_n 0, 1) := by decide +kernel
theorem dX2_limbFrom_18 : decode cX2_limbFrom 18 = .ok (.iload_n 2, 1) := by decide +kernel
theorem dX2_limbFrom_19 : decode cX2_limbFrom 19 = .ok (.iconst 1, 1) := by decide +kernel
theorem dX2_limbFrom_20 : decode cX2_limbFrom 20 = .ok (.iadd, 1) := by decide +kernel
theorem dX2_limbFrom_21 : decode cX2_limbFrom 21 = .ok (.invokevirtual 23, 3) := by decide +kernel
theorem dX2_limbFrom_24 : decode cX2_limbFrom 24 = .ok (.bipush 30, 2) := by decide +kernel
theorem dX2_limbFrom_26 : decode cX2_limbFrom 26 = .ok (.iload_n 3, 1) := by decide +kernel
theorem dX2_limbFrom_27 : decode cX2_limbFrom 27 = .ok (.isub, 1) := by decide +kernel
theorem dX2_limbFrom_28 : decode cX2_limbFrom 28 = .ok (.ishl, 1) := by decide +kernel
theorem dX2_limbFrom_29 : decode cX2_limbFrom 29 = .ok (.ior, 1) := by decide +kernel
theorem dX2_limbFrom_30 : decode cX2_limbFrom 30 = .ok (.ldc 32, 2) := by decide +kernel
theorem dX2_limbFrom_32 : decode cX2_limbFrom 32 = .ok (.iand, 1) := by decide +kernel
theorem dX2_limbFrom_33 : decode cX2_limbFrom 33 = .ok (.ireturn, 1) := by decide +kernel
set_option maxRecDepth 20000 in
theorem ggX2_anyBitBelow_X2_limb : GoodIn wsX2_anyBitBelow wsX2_limb := goodIn_r _ [7, 1, 2, 8, 9] (by decide +kernel) (by decide +kernel)
set_option maxRecDepth 20000 in
theorem gX2_anyBitBelow_X2_limb : GoodIn wsX2_anyBitBelow (wsV RX2 23 RX2 yX2_limb wsX2_limb) := goodIn_app (goodIn_of _ (by decide +kernel)) ggX2_anyBitBelow_X2_limb
theorem dX2_anyBitBelow_0 : decode cX2_anyBitBelow 0 = .ok (.iload_n 1, 1) := by decide +kernel
theorem dX2_anyBitBelow_1 : decode cX2_anyBitBelow 1 = .ok (.bipush 30, 2) := by decide +kernel
theorem dX2_anyBitBelow_3 : decode cX2_anyBitBelow 3 = .ok (.idiv, 1) := by decide +kernel
theorem dX2_anyBitBelow_4 : decode cX2_anyBitBelow 4 = .ok (.istore_n 2, 1) := by decide +kernel
theorem dX2_anyBitBelow_5 : decode cX2_anyBitBelow 5 = .ok (.iconst 0, 1) := by decide +kernel
theorem dX2_anyBitBelow_6 : decode cX2_anyBitBelow 6 = .ok (.istore_n 3, 1) := by decide +kernel
theorem dX2_anyBitBelow_7 : decode cX2_anyBitBelow 7 = .ok (.iload_n 3, 1) := by decide +kernel
theorem dX2_anyBitBelow_8 : decode cX2_anyBitBelow 8 = .ok (.iload_n 2, 1) := by decide +kernel
theorem dX2_anyBitBelow_9 : decode cX2_anyBitBelow 9 = .ok (.if_icmp .ge 28, 3) := by decide +kernel
theorem dX2_anyBitBelow_12 : decode cX2_anyBitBelow 12 = .ok (.iload_n 3, 1) := by decide +kernel
theorem dX2_anyBitBelow_13 : decode cX2_anyBitBelow 13 = .ok (.aload_n 0, 1) := by decide +kernel
theorem dX2_anyBitBelow_14 : decode cX2_anyBitBelow 14 = .ok (.getfield 15, 3) := by decide +kernel
theorem dX2_anyBitBelow_17 : decode cX2_anyBitBelow 17 = .ok (.if_icmp .ge 20, 3) := by decide +kernel
theorem dX2_anyBitBelow_20 : decode cX2_anyBitBelow 20 = .ok (.aload_n 0, 1) := by decide +kernel
theorem dX2_anyBitBelow_21 : decode cX2_anyBitBelow 21 = .ok (.getfield 9, 3) := by decide +kernel
theorem dX2_anyBitBelow_24 : decode cX2_anyBitBelow 24 = .ok (.iload_n 3, 1) := by decide +kernel
theorem dX2_anyBitBelow_25 : decode cX2_anyBitBelow 25 = .ok (.iaload, 1) := by decide +kernel
theorem dX2_anyBitBelow_26 : decode cX2_anyBitBelow 26 = .ok (.ifCond .eq 5, 3) := by decide +kernel
theorem dX2_anyBitBelow_29 : decode cX2_anyBitBelow 29 = .ok (.iconst 1, 1) := by decide +kernel
theorem dX2_anyBitBelow_30 : decode cX2_anyBitBelow 30 = .ok (.ireturn, 1) := by decide +kernel
theorem dX2_anyBitBelow_31 : decode cX2_anyBitBelow 31 = .ok (.iinc 3 1, 3) := by decide +kernel
theorem dX2_anyBitBelow_34 : decode cX2_anyBitBelow 34 = .ok (.goto (-27), 3) := by decide +kernel
theorem dX2_anyBitBelow_37 : decode cX2_anyBitBelow 37 = .ok (.aload_n 0, 1) := by decide +kernel
theorem dX2_anyBitBelow_38 : decode cX2_anyBitBelow 38 = .ok (.iload_n 2, 1) := by decide +kernel
theorem dX2_anyBitBelow_39 : decode cX2_anyBitBelow 39 = .ok (.invokevirtual 23, 3) := by decide +kernel
theorem dX2_anyBitBelow_42 : decode cX2_anyBitBelow 42 = .ok (.iconst 1, 1) := by decide +kernel
theorem dX2_anyBitBelow_43 : decode cX2_anyBitBelow 43 = .ok (.iload_n 1, 1) := by decide +kernel
theorem dX2_anyBitBelow_44 : decode cX2_anyBitBelow 44 = .ok (.bipush 30, 2) := by decide +kernel
theorem dX2_anyBitBelow_46 : decode cX2_anyBitBelow 46 = .ok (.irem, 1) := by decide +kernel
theorem dX2_anyBitBelow_47 : decode cX2_anyBitBelow 47 = .ok (.ishl, 1) := by decide +kernel
theorem dX2_anyBitBelow_48 : decode cX2_anyBitBelow 48 = .ok (.iconst 1, 1) := by decide +kernel
theorem dX2_anyBitBelow_49 : decode cX2_anyBitBelow 49 = .ok (.isub, 1) := by decide +kernel
theorem dX2_anyBitBelow_50 : decode cX2_anyBitBelow 50 = .ok (.iand, 1) := by decide +kernel
theorem dX2_anyBitBelow_51 : decode cX2_anyBitBelow 51 = .ok (.ifCond .eq 7, 3) := by decide +kernel
theorem dX2_anyBitBelow_54 : decode cX2_anyBitBelow 54 = .ok (.iconst 1, 1) := by decide +kernel
theorem dX2_anyBitBelow_55 : decode cX2_anyBitBelow 55 = .ok (.goto 4, 3) := by decide +kernel
theorem dX2_anyBitBelow_58 : decode cX2_anyBitBelow 58 = .ok (.iconst 0, 1) := by decide +kernel
theorem dX2_anyBitBelow_59 : decode cX2_anyBitBelow 59 = .ok (.ireturn, 1) := by decide +kernel
set_option maxRecDepth 20000 in
theorem ggX2_lowestLong_X2_limb : GoodIn wsX2_lowestLong wsX2_limb := goodIn_r _ [5, 6, 7, 8, 9] (by decide +kernel) (by decide +kernel)
set_option maxRecDepth 20000 in
theorem gX2_lowestLong_X2_limb : GoodIn wsX2_lowestLong (wsV RX2 23 RX2 yX2_limb wsX2_limb) := goodIn_app (goodIn_of _ (by decide +kernel)) ggX2_lowestLong_X2_limb
theorem dX2_lowestLong_0 : decode cX2_lowestLong 0 = .ok (.aload_n 0, 1) := by decide +kernel
theorem dX2_lowestLong_1 : decode cX2_lowestLong 1 = .ok (.iconst 0, 1) := by decide +kernel
theorem dX2_lowestLong_2 : decode cX2_lowestLong 2 = .ok (.invokevirtual 23, 3) := by decide +kernel
theorem dX2_lowestLong_5 : decode cX2_lowestLong 5 = .ok (.i2l, 1) := by decide +kernel
theorem dX2_lowestLong_6 : decode cX2_lowestLong 6 = .ok (.aload_n 0, 1) := by decide +kernel
theorem dX2_lowestLong_7 : decode cX2_lowestLong 7 = .ok (.iconst 1, 1) := by decide +kernel
theorem dX2_lowestLong_8 : decode cX2_lowestLong 8 = .ok (.invokevirtual 23, 3) := by decide +kernel
theorem dX2_lowestLong_11 : decode cX2_lowestLong 11 = .ok (.i2l, 1) := by decide +kernel
theorem dX2_lowestLong_12 : decode cX2_lowestLong 12 = .ok (.bipush 30, 2) := by decide +kernel
theorem dX2_lowestLong_14 : decode cX2_lowestLong 14 = .ok (.lshl, 1) := by decide +kernel
theorem dX2_lowestLong_15 : decode cX2_lowestLong 15 = .ok (.lor, 1) := by decide +kernel
theorem dX2_lowestLong_16 : decode cX2_lowestLong 16 = .ok (.aload_n 0, 1) := by decide +kernel
theorem dX2_lowestLong_17 : decode cX2_lowestLong 17 = .ok (.iconst 2, 1) := by decide +kernel
theorem dX2_lowestLong_18 : decode cX2_lowestLong 18 = .ok (.invokevirtual 23, 3) := by decide +kernel
theorem dX2_lowestLong_21 : decode cX2_lowestLong 21 = .ok (.i2l, 1) := by decide +kernel
theorem dX2_lowestLong_22 : decode cX2_lowestLong 22 = .ok (.bipush 60, 2) := by decide +kernel
theorem dX2_lowestLong_24 : decode cX2_lowestLong 24 = .ok (.lshl, 1) := by decide +kernel
theorem dX2_lowestLong_25 : decode cX2_lowestLong 25 = .ok (.lor, 1) := by decide +kernel
theorem dX2_lowestLong_26 : decode cX2_lowestLong 26 = .ok (.lreturn, 1) := by decide +kernel
theorem dX2_order_0 : decode cX2_order 0 = .ok (.aload_n 0, 1) := by decide +kernel
theorem dX2_order_1 : decode cX2_order 1 = .ok (.getfield 15, 3) := by decide +kernel
theorem dX2_order_4 : decode cX2_order 4 = .ok (.aload_n 1, 1) := by decide +kernel
theorem dX2_order_5 : decode cX2_order 5 = .ok (.getfield 15, 3) := by decide +kernel
theorem dX2_order_8 : decode cX2_order 8 = .ok (.if_icmp .eq 20, 3) := by decide +kernel
theorem dX2_order_11 : decode cX2_order 11 = .ok (.aload_n 0, 1) := by decide +kernel
theorem dX2_order_12 : decode cX2_order 12 = .ok (.getfield 15, 3) := by decide +kernel
theorem dX2_order_15 : decode cX2_order 15 = .ok (.aload_n 1, 1) := by decide +kernel
theorem dX2_order_16 : decode cX2_order 16 = .ok (.getfield 15, 3) := by decide +kernel
theorem dX2_order_19 : decode cX2_order 19 = .ok (.if_icmp .ge 7, 3) := by decide +kernel
theorem dX2_order_22 : decode cX2_order 22 = .ok (.iconst (-1), 1) := by decide +kernel
theorem dX2_order_23 : decode cX2_order 23 = .ok (.goto 4, 3) := by decide +kernel
theorem dX2_order_26 : decode cX2_order 26 = .ok (.iconst 1, 1) := by decide +kernel
theorem dX2_order_27 : decode cX2_order 27 = .ok (.ireturn, 1) := by decide +kernel
theorem dX2_order_28 : decode cX2_order 28 = .ok (.aload_n 0, 1) := by decide +kernel
theorem dX2_order_29 : decode cX2_order 29 = .ok (.getfield 15, 3) := by decide +kernel
theorem dX2_order_32 : decode cX2_order 32 = .ok (.iconst 1, 1) := by decide +kernel
theorem dX2_order_33 : decode cX2_order 33 = .ok (.isub, 1) := by decide +kernel
theorem dX2_order_34 : decode cX2_order 34 = .ok (.istore_n 2, 1) := by decide +kernel
theorem dX2_order_35 : decode cX2_order 35 = .ok (.iload_n 2, 1) := by decide +kernel
theorem dX2_order_36 : decode cX2_order 36 = .ok (.ifCond .lt 45, 3) := by decide +kernel
theorem dX2_order_39 : decode cX2_order 39 = .ok (.aload_n 0, 1) := by decide +kernel
theorem dX2_order_40 : decode cX2_order 40 = .ok (.getfield 9, 3) := by decide +kernel
theorem dX2_order_43 : decode cX2_order 43 = .ok (.iload_n 2, 1) := by decide +kernel
theorem dX2_order_44 : decode cX2_order 44 = .ok (.iaload, 1) := by decide +kernel
theorem dX2_order_45 : decode cX2_order 45 = .ok (.aload_n 1, 1) := by decide +kernel
theorem dX2_order_46 : decode cX2_order 46 = .ok (.getfield 9, 3) := by decide +kernel
theorem dX2_order_49 : decode cX2_order 49 = .ok (.iload_n 2, 1) := by decide +kernel
theorem dX2_order_50 : decode cX2_order 50 = .ok (.iaload, 1) := by decide +kernel
theorem dX2_order_51 : decode cX2_order 51 = .ok (.if_icmp .eq 24, 3) := by decide +kernel
theorem dX2_order_54 : decode cX2_order 54 = .ok (.aload_n 0, 1) := by decide +kernel
theorem dX2_order_55 : decode cX2_order 55 = .ok (.getfield 9, 3) := by decide +kernel
theorem dX2_order_58 : decode cX2_order 58 = .ok (.iload_n 2, 1) := by decide +kernel
theorem dX2_order_59 : decode cX2_order 59 = .ok (.iaload, 1) := by decide +kernel
theorem dX2_order_60 : decode cX2_order 60 = .ok (.aload_n 1, 1) := by decide +kernel
theorem dX2_order_61 : decode cX2_order 61 = .ok (.getfield 9, 3) := by decide +kernel
theorem dX2_order_64 : decode cX2_order 64 = .ok (.iload_n 2, 1) := by decide +kernel
theorem dX2_order_65 : decode cX2_order 65 = .ok (.iaload, 1) := by decide +kernel
theorem dX2_order_66 : decode cX2_order 66 = .ok (.if_icmp .ge 7, 3) := by decide +kernel
theorem dX2_order_69 : decode cX2_order 69 = .ok (.iconst (-1), 1) := by decide +kernel
theorem dX2_order_70 : decode cX2_order 70 = .ok (.goto 4, 3) := by decide +kernel
theorem dX2_order_73 : decode cX2_order 73 = .ok (.iconst 1, 1) := by decide +kernel
theorem dX2_order_74 : decode cX2_order 74 = .ok (.ireturn, 1) := by decide +kernel
theorem dX2_order_75 : decode cX2_order 75 = .ok (.iinc 2 (-1), 3) := by decide +kernel
theorem dX2_order_78 : decode cX2_order 78 = .ok (.goto (-43), 3) := by decide +kernel
theorem dX2_order_81 : decode cX2_order 81 = .ok (.iconst 0, 1) := by decide +kernel
theorem dX2_order_82 : decode cX2_order 82 = .ok (.ireturn, 1) := by decide +kernel
theorem dX2_take_0 : decode cX2_take 0 = .ok (.aload_n 1, 1) := by decide +kernel
theorem dX2_take_1 : decode cX2_take 1 = .ok (.getfield 9, 3) := by decide +kernel
theorem dX2_take_4 : decode cX2_take 4 = .ok (.iconst 0, 1) := by decide +kernel
theorem dX2_take_5 : decode cX2_take 5 = .ok (.aload_n 0, 1) := by decide +kernel
theorem dX2_take_6 : decode cX2_take 6 = .ok (.getfield 9, 3) := by decide +kernel
theorem dX2_take_9 : decode cX2_take 9 = .ok (.iconst 0, 1) := by decide +kernel
theorem dX2_take_10 : decode cX2_take 10 = .ok (.aload_n 1, 1) := by decide +kernel
theorem dX2_take_11 : decode cX2_take 11 = .ok (.getfield 15, 3) := by decide +kernel
theorem dX2_take_14 : decode cX2_take 14 = .ok (.invokestatic 33, 3) := by decide +kernel
theorem dX2_take_17 : decode cX2_take 17 = .ok (.aload_n 0, 1) := by decide +kernel
theorem dX2_take_18 : decode cX2_take 18 = .ok (.aload_n 1, 1) := by decide +kernel
theorem dX2_take_19 : decode cX2_take 19 = .ok (.getfield 15, 3) := by decide +kernel
theorem dX2_take_22 : decode cX2_take 22 = .ok (.putfield 15, 3) := by decide +kernel
theorem dX2_take_25 : decode cX2_take 25 = .ok (.return_, 1) := by decide +kernel
set_option maxRecDepth 20000 in
theorem ggX2_takeUnsigned_X2_trim : GoodIn wsX2_takeUnsigned wsX2_trim := goodIn_r _ [7, 8, 9, 10, 11, 1, 12, 13, 14, 15, 16, 17] (by decide +kernel) (by decide +kernel)
set_option maxRecDepth 20000 in
theorem gX2_takeUnsigned_X2_trim : GoodIn wsX2_takeUnsigned (wsV RX2 39 RX2 yX2_trim wsX2_trim) := goodIn_app (goodIn_of _ (by decide +kernel)) ggX2_takeUnsigned_X2_trim
theorem dX2_takeUnsigned_0 : decode cX2_takeUnsigned 0 = .ok (.aload_n 0, 1) := by decide +kernel
theorem dX2_takeUnsigned_1 : decode cX2_takeUnsigned 1 = .ok (.getfield 9, 3) := by decide +kernel
theorem dX2_takeUnsigned_4 : decode cX2_takeUnsigned 4 = .ok (.iconst 0, 1) := by decide +kernel
theorem dX2_takeUnsigned_5 : decode cX2_takeUnsigned 5 = .ok (.lload_n 1, 1) := by decide +kernel
theorem dX2_takeUnsigned_6 : decode cX2_takeUnsigned 6 = .ok (.l2i, 1) := by decide +kernel
theorem dX2_takeUnsigned_7 : decode cX2_takeUnsigned 7 = .ok (.ldc 32, 2) := by decide +kernel
theorem dX2_takeUnsigned_9 : decode cX2_takeUnsigned 9 = .ok (.iand, 1) := by decide +kernel
theorem dX2_takeUnsigned_10 : decode cX2_takeUnsigned 10 = .ok (.iastore, 1) := by decide +kernel
theorem dX2_takeUnsigned_11 : decode cX2_takeUnsigned 11 = .ok (.aload_n 0, 1) := by decide +kernel
theorem dX2_takeUnsigned_12 : decode cX2_takeUnsigned 12 = .ok (.getfield 9, 3) := by decide +kernel
theorem dX2_takeUnsigned_15 : decode cX2_takeUnsigned 15 = .ok (.iconst 1, 1) := by decide +kernel
theorem dX2_takeUnsigned_16 : decode cX2_takeUnsigned 16 = .ok (.lload_n 1, 1) := by decide +kernel
theorem dX2_takeUnsigned_17 : decode cX2_takeUnsigned 17 = .ok (.bipush 30, 2) := by decide +kernel
theorem dX2_takeUnsigned_19 : decode cX2_takeUnsigned 19 = .ok (.lushr, 1) := by decide +kernel
theorem dX2_takeUnsigned_20 : decode cX2_takeUnsigned 20 = .ok (.l2i, 1) := by decide +kernel
theorem dX2_takeUnsigned_21 : decode cX2_takeUnsigned 21 = .ok (.ldc 32, 2) := by decide +kernel
theorem dX2_takeUnsigned_23 : decode cX2_takeUnsigned 23 = .ok (.iand, 1) := by decide +kernel
theorem dX2_takeUnsigned_24 : decode cX2_takeUnsigned 24 = .ok (.iastore, 1) := by decide +kernel
theorem dX2_takeUnsigned_25 : decode cX2_takeUnsigned 25 = .ok (.aload_n 0, 1) := by decide +kernel
theorem dX2_takeUnsigned_26 : decode cX2_takeUnsigned 26 = .ok (.getfield 9, 3) := by decide +kernel
theorem dX2_takeUnsigned_29 : decode cX2_takeUnsigned 29 = .ok (.iconst 2, 1) := by decide +kernel
theorem dX2_takeUnsigned_30 : decode cX2_takeUnsigned 30 = .ok (.lload_n 1, 1) := by decide +kernel
theorem dX2_takeUnsigned_31 : decode cX2_takeUnsigned 31 = .ok (.bipush 60, 2) := by decide +kernel
theorem dX2_takeUnsigned_33 : decode cX2_takeUnsigned 33 = .ok (.lushr, 1) := by decide +kernel
theorem dX2_takeUnsigned_34 : decode cX2_takeUnsigned 34 = .ok (.l2i, 1) := by decide +kernel
theorem dX2_takeUnsigned_35 : decode cX2_takeUnsigned 35 = .ok (.iastore, 1) := by decide +kernel
theorem dX2_takeUnsigned_36 : decode cX2_takeUnsigned 36 = .ok (.aload_n 0, 1) := by decide +kernel
theorem dX2_takeUnsigned_37 : decode cX2_takeUnsigned 37 = .ok (.iconst 3, 1) := by decide +kernel
theorem dX2_takeUnsigned_38 : decode cX2_takeUnsigned 38 = .ok (.invokevirtual 39, 3) := by decide +kernel
theorem dX2_takeUnsigned_41 : decode cX2_takeUnsigned 41 = .ok (.return_, 1) := by decide +kernel
theorem dX2_trim_0 : decode cX2_trim 0 = .ok (.iload_n 1, 1) := by decide +kernel
theorem dX2_trim_1 : decode cX2_trim 1 = .ok (.sipush 140, 3) := by decide +kernel
theorem dX2_trim_4 : decode cX2_trim 4 = .ok (.invokestatic 43, 3) := by decide +kernel
theorem dX2_trim_7 : decode cX2_trim 7 = .ok (.istore_n 2, 1) := by decide +kernel
theorem dX2_trim_8 : decode cX2_trim 8 = .ok (.iload_n 2, 1) := by decide +kernel
theorem dX2_trim_9 : decode cX2_trim 9 = .ok (.ifCond .le 20, 3) := by decide +kernel
theorem dX2_trim_12 : decode cX2_trim 12 = .ok (.aload_n 0, 1) := by decide +kernel
theorem dX2_trim_13 : decode cX2_trim 13 = .ok (.getfield 9, 3) := by decide +kernel
theorem dX2_trim_16 : decode cX2_trim 16 = .ok (.iload_n 2, 1) := by decide +kernel
theorem dX2_trim_17 : decode cX2_trim 17 = .ok (.iconst 1, 1) := by decide +kernel
theorem dX2_trim_18 : decode cX2_trim 18 = .ok (.isub, 1) := by decide +kernel
theorem dX2_trim_19 : decode cX2_trim 19 = .ok (.iaload, 1) := by decide +kernel
theorem dX2_trim_20 : decode cX2_trim 20 = .ok (.ifCond .ne 9, 3) := by decide +kernel
theorem dX2_trim_23 : decode cX2_trim 23 = .ok (.iinc 2 (-1), 3) := by decide +kernel
theorem dX2_trim_26 : decode cX2_trim 26 = .ok (.goto (-18), 3) := by decide +kernel
theorem dX2_trim_29 : decode cX2_trim 29 = .ok (.aload_n 0, 1) := by decide +kernel
theorem dX2_trim_30 : decode cX2_trim 30 = .ok (.iload_n 2, 1) := by decide +kernel
theorem dX2_trim_31 : decode cX2_trim 31 = .ok (.iconst 0, 1) := by decide +kernel
theorem dX2_trim_32 : decode cX2_trim 32 = .ok (.invokestatic 49, 3) := by decide +kernel
theorem dX2_trim_35 : decode cX2_trim 35 = .ok (.putfield 15, 3) := by decide +kernel
theorem dX2_trim_38 : decode cX2_trim 38 = .ok (.return_, 1) := by decide +kernel
set_option maxRecDepth 20000 in
theorem ggX2_takeSum_X2_limb : GoodIn wsX2_takeSum wsX2_limb := goodIn_r _ [15, 1, 9, 20, 21] (by decide +kernel) (by decide +kernel)
set_option maxRecDepth 20000 in
theorem gX2_takeSum_X2_limb : GoodIn wsX2_takeSum (wsV RX2 23 RX2 yX2_limb wsX2_limb) := goodIn_app (goodIn_of _ (by decide +kernel)) ggX2_takeSum_X2_limb
set_option maxRecDepth 20000 in
theorem ggX2_takeSum_X2_trim : GoodIn wsX2_takeSum wsX2_trim := goodIn_r _ [19, 6, 7, 4, 8, 9, 2, 3, 5, 1, 20, 21] (by decide +kernel) (by decide +kernel)
set_option maxRecDepth 20000 in
theorem gX2_takeSum_X2_trim : GoodIn wsX2_takeSum (wsV RX2 39 RX2 yX2_trim wsX2_trim) := goodIn_app (goodIn_of _ (by decide +kernel)) ggX2_takeSum_X2_trim
theorem dX2_takeSum_0 : decode cX2_takeSum 0 = .ok (.aload_n 1, 1) := by decide +kernel
theorem dX2_takeSum_1 : decode cX2_takeSum 1 = .ok (.getfield 15, 3) := by decide +kernel
theorem dX2_takeSum_4 : decode cX2_takeSum 4 = .ok (.aload_n 2, 1) := by decide +kernel
theorem dX2_takeSum_5 : decode cX2_takeSum 5 = .ok (.getfield 15, 3) := by decide +kernel
theorem dX2_takeSum_8 : decode cX2_takeSum 8 = .ok (.invokestatic 49, 3) := by decide +kernel
theorem dX2_takeSum_11 : decode cX2_takeSum 11 = .ok (.iconst 1, 1) := by decide +kernel
theorem dX2_takeSum_12 : decode cX2_takeSum 12 = .ok (.iadd, 1) := by decide +kernel
theorem dX2_takeSum_13 : decode cX2_takeSum 13 = .ok (.sipush 140, 3) := by decide +kernel
theorem dX2_takeSum_16 : decode cX2_takeSum 16 = .ok (.invokestatic 43, 3) := by decide +kernel
theorem dX2_takeSum_19 : decode cX2_takeSum 19 = .ok (.istore_n 3, 1) := by decide +kernel
theorem dX2_takeSum_20 : decode cX2_takeSum 20 = .ok (.iconst 0, 1) := by decide +kernel
theorem dX2_takeSum_21 : decode cX2_takeSum 21 = .ok (.istore 4, 2) := by decide +kernel
theorem dX2_takeSum_23 : decode cX2_takeSum 23 = .ok (.iconst 0, 1) := by decide +kernel
theorem dX2_takeSum_24 : decode cX2_takeSum 24 = .ok (.istore 5, 2) := by decide +kernel
theorem dX2_takeSum_26 : decode cX2_takeSum 26 = .ok (.iload 5, 2) := by decide +kernel
theorem dX2_takeSum_28 : decode cX2_takeSum 28 = .ok (.iload_n 3, 1) := by decide +kernel
theorem dX2_takeSum_29 : decode cX2_takeSum 29 = .ok (.if_icmp .ge 46, 3) := by decide +kernel
theorem dX2_takeSum_32 : decode cX2_takeSum 32 = .ok (.aload_n 1, 1) := by decide +kernel
theorem dX2_takeSum_33 : decode cX2_takeSum 33 = .ok (.iload 5, 2) := by decide +kernel
theorem dX2_takeSum_35 : decode cX2_takeSum 35 = .ok (.invokevirtual 23, 3) := by decide +kernel
theorem dX2_takeSum_38 : decode cX2_takeSum 38 = .ok (.aload_n 2, 1) := by decide +kernel
theorem dX2_takeSum_39 : decode cX2_takeSum 39 = .ok (.iload 5, 2) := by decide +kernel
theorem dX2_takeSum_41 : decode cX2_takeSum 41 = .ok (.invokevirtual 23, 3) := by decide +kernel
theorem dX2_takeSum_44 : decode cX2_takeSum 44 = .ok (.iadd, 1) := by decide +kernel
theorem dX2_takeSum_45 : decode cX2_takeSum 45 = .ok (.iload 4, 2) := by decide +kernel
theorem dX2_takeSum_47 : decode cX2_takeSum 47 = .ok (.iadd, 1) := by decide +kernel
theorem dX2_takeSum_48 : decode cX2_takeSum 48 = .ok (.istore 6, 2) := by decide +kernel
theorem dX2_takeSum_50 : decode cX2_takeSum 50 = .ok (.aload_n 0, 1) := by decide +kernel
theorem dX2_takeSum_51 : decode cX2_takeSum 51 = .ok (.getfield 9, 3) := by decide +kernel
theorem dX2_takeSum_54 : decode cX2_takeSum 54 = .ok (.iload 5, 2) := by decide +kernel
theorem dX2_takeSum_56 : decode cX2_takeSum 56 = .ok (.iload 6, 2) := by decide +kernel
theorem dX2_takeSum_58 : decode cX2_takeSum 58 = .ok (.ldc 32, 2) := by decide +kernel
theorem dX2_takeSum_60 : decode cX2_takeSum 60 = .ok (.iand, 1) := by decide +kernel
theorem dX2_takeSum_61 : decode cX2_takeSum 61 = .ok (.iastore, 1) := by decide +kernel
theorem dX2_takeSum_62 : decode cX2_takeSum 62 = .ok (.iload 6, 2) := by decide +kernel
theorem dX2_takeSum_64 : decode cX2_takeSum 64 = .ok (.bipush 30, 2) := by decide +kernel
theorem dX2_takeSum_66 : decode cX2_takeSum 66 = .ok (.iushr, 1) := by decide +kernel
theorem dX2_takeSum_67 : decode cX2_takeSum 67 = .ok (.istore 4, 2) := by decide +kernel
theorem dX2_takeSum_69 : decode cX2_takeSum 69 = .ok (.iinc 5 1, 3) := by decide +kernel
theorem dX2_takeSum_72 : decode cX2_takeSum 72 = .ok (.goto (-46), 3) := by decide +kernel
theorem dX2_takeSum_75 : decode cX2_takeSum 75 = .ok (.aload_n 0, 1) := by decide +kernel
theorem dX2_takeSum_76 : decode cX2_takeSum 76 = .ok (.iload_n 3, 1) := by decide +kernel
theorem dX2_takeSum_77 : decode cX2_takeSum 77 = .ok (.invokevirtual 39, 3) := by decide +kernel
theorem dX2_takeSum_80 : decode cX2_takeSum 80 = .ok (.return_, 1) := by decide +kernel
set_option maxRecDepth 20000 in
theorem ggX2_takeDifference_X2_limb : GoodIn wsX2_takeDifference wsX2_limb := goodIn_r _ [8, 1, 2, 20, 21] (by decide +kernel) (by decide +kernel)
set_option maxRecDepth 20000 in
theorem gX2_takeDifference_X2_limb : GoodIn wsX2_takeDifference (wsV RX2 23 RX2 yX2_limb wsX2_limb) := goodIn_app (goodIn_of _ (by decide +kernel)) ggX2_takeDifference_X2_limb
set_option maxRecDepth 20000 in
theorem ggX2_takeDifference_X2_trim : GoodIn wsX2_takeDifference wsX2_trim := goodIn_r _ [12, 13, 14, 15, 16, 2, 17, 18, 19, 1, 20, 21] (by decide +kernel) (by decide +kernel)
set_option maxRecDepth 20000 in
theorem gX2_takeDifference_X2_trim : GoodIn wsX2_takeDifference (wsV RX2 39 RX2 yX2_trim wsX2_trim) := goodIn_app (goodIn_of _ (by decide +kernel)) ggX2_takeDifference_X2_trim
theorem dX2_takeDifference_0 : decode cX2_takeDifference 0 = .ok (.aload_n 1, 1) := by decide +kernel
theorem dX2_takeDifference_1 : decode cX2_takeDifference 1 = .ok (.getfield 15, 3) := by decide +kernel
theorem dX2_takeDifference_4 : decode cX2_takeDifference 4 = .ok (.istore_n 3, 1) := by decide +kernel
theorem dX2_takeDifference_5 : decode cX2_takeDifference 5 = .ok (.iconst 0, 1) := by decide +kernel
theorem dX2_takeDifference_6 : decode cX2_takeDifference 6 = .ok (.istore 4, 2) := by decide +kernel
theorem dX2_takeDifference_8 : decode cX2_takeDifference 8 = .ok (.iconst 0, 1) := by decide +kernel
theorem dX2_takeDifference_9 : decode cX2_takeDifference 9 = .ok (.istore 5, 2) := by decide +kernel
theorem dX2_takeDifference_11 : decode cX2_takeDifference 11 = .ok (.iload 5, 2) := by decide +kernel
theorem dX2_takeDifference_13 : decode cX2_takeDifference 13 = .ok (.iload_n 3, 1) := by decide +kernel
theorem dX2_takeDifference_14 : decode cX2_takeDifference 14 = .ok (.if_icmp .ge 46, 3) := by decide +kernel
theorem dX2_takeDifference_17 : decode cX2_takeDifference 17 = .ok (.aload_n 1, 1) := by decide +kernel
theorem dX2_takeDifference_18 : decode cX2_takeDifference 18 = .ok (.iload 5, 2) := by decide +kernel
theorem dX2_takeDifference_20 : decode cX2_takeDifference 20 = .ok (.invokevirtual 23, 3) := by decide +kernel
theorem dX2_takeDifference_23 : decode cX2_takeDifference 23 = .ok (.aload_n 2, 1) := by decide +kernel
theorem dX2_takeDifference_24 : decode cX2_takeDifference 24 = .ok (.iload 5, 2) := by decide +kernel
theorem dX2_takeDifference_26 : decode cX2_takeDifference 26 = .ok (.invokevirtual 23, 3) := by decide +kernel
theorem dX2_takeDifference_29 : decode cX2_takeDifference 29 = .ok (.isub, 1) := by decide +kernel
theorem dX2_takeDifference_30 : decode cX2_takeDifference 30 = .ok (.iload 4, 2) := by decide +kernel
theorem dX2_takeDifference_32 : decode cX2_takeDifference 32 = .ok (.iadd, 1) := by decide +kernel
theorem dX2_takeDifference_33 : decode cX2_takeDifference 33 = .ok (.istore 6, 2) := by decide +kernel
theorem dX2_takeDifference_35 : decode cX2_takeDifference 35 = .ok (.aload_n 0, 1) := by decide +kernel
theorem dX2_takeDifference_36 : decode cX2_takeDifference 36 = .ok (.getfield 9, 3) := by decide +kernel
theorem dX2_takeDifference_39 : decode cX2_takeDifference 39 = .ok (.iload 5, 2) := by decide +kernel
theorem dX2_takeDifference_41 : decode cX2_takeDifference 41 = .ok (.iload 6, 2) := by decide +kernel
theorem dX2_takeDifference_43 : decode cX2_takeDifference 43 = .ok (.ldc 32, 2) := by decide +kernel
theorem dX2_takeDifference_45 : decode cX2_takeDifference 45 = .ok (.iand, 1) := by decide +kernel
theorem dX2_takeDifference_46 : decode cX2_takeDifference 46 = .ok (.iastore, 1) := by decide +kernel
theorem dX2_takeDifference_47 : decode cX2_takeDifference 47 = .ok (.iload 6, 2) := by decide +kernel
theorem dX2_takeDifference_49 : decode cX2_takeDifference 49 = .ok (.bipush 30, 2) := by decide +kernel
theorem dX2_takeDifference_51 : decode cX2_takeDifference 51 = .ok (.ishr, 1) := by decide +kernel
theorem dX2_takeDifference_52 : decode cX2_takeDifference 52 = .ok (.istore 4, 2) := by decide +kernel
theorem dX2_takeDifference_54 : decode cX2_takeDifference 54 = .ok (.iinc 5 1, 3) := by decide +kernel
theorem dX2_takeDifference_57 : decode cX2_takeDifference 57 = .ok (.goto (-46), 3) := by decide +kernel
theorem dX2_takeDifference_60 : decode cX2_takeDifference 60 = .ok (.aload_n 0, 1) := by decide +kernel
theorem dX2_takeDifference_61 : decode cX2_takeDifference 61 = .ok (.iload_n 3, 1) := by decide +kernel
theorem dX2_takeDifference_62 : decode cX2_takeDifference 62 = .ok (.invokevirtual 39, 3) := by decide +kernel
theorem dX2_takeDifference_65 : decode cX2_takeDifference 65 = .ok (.return_, 1) := by decide +kernel
set_option maxRecDepth 20000 in
theorem ggX2_takeProduct_X2_addRow : GoodIn wsX2_takeProduct wsX2_addRow := goodIn_r _ [11, 1, 6, 12, 20, 21] (by decide +kernel) (by decide +kernel)
set_option maxRecDepth 20000 in
theorem gX2_takeProduct_X2_addRow : GoodIn wsX2_takeProduct (wsV RX2 52 RX2 yX2_addRow wsX2_addRow) := goodIn_app (goodIn_of _ (by decide +kernel)) ggX2_takeProduct_X2_addRow
set_option maxRecDepth 20000 in
theorem ggX2_takeProduct_X2_trim : GoodIn wsX2_takeProduct wsX2_trim := goodIn_r _ [16, 2, 3, 4, 5, 6, 17, 18, 19, 1, 20, 21] (by decide +kernel) (by decide +kernel)
set_option maxRecDepth 20000 in
theorem gX2_takeProduct_X2_trim : GoodIn wsX2_takeProduct (wsV RX2 39 RX2 yX2_trim wsX2_trim) := goodIn_app (goodIn_of _ (by decide +kernel)) ggX2_takeProduct_X2_trim
theorem dX2_takeProduct_0 : decode cX2_takeProduct 0 = .ok (.aload_n 1, 1) := by decide +kernel
theorem dX2_takeProduct_1 : decode cX2_takeProduct 1 = .ok (.getfield 15, 3) := by decide +kernel
theorem dX2_takeProduct_4 : decode cX2_takeProduct 4 = .ok (.aload_n 2, 1) := by decide +kernel
theorem dX2_takeProduct_5 : decode cX2_takeProduct 5 = .ok (.getfield 15, 3) := by decide +kernel
theorem dX2_takeProduct_8 : decode cX2_takeProduct 8 = .ok (.iadd, 1) := by decide +kernel
theorem dX2_takeProduct_9 : decode cX2_takeProduct 9 = .ok (.sipush 140, 3) := by decide +kernel
theorem dX2_takeProduct_12 : decode cX2_takeProduct 12 = .ok (.invokestatic 43, 3) := by decide +kernel
theorem dX2_takeProduct_15 : decode cX2_takeProduct 15 = .ok (.istore_n 3, 1) := by decide +kernel
theorem dX2_takeProduct_16 : decode cX2_takeProduct 16 = .ok (.iconst 0, 1) := by decide +kernel
theorem dX2_takeProduct_17 : decode cX2_takeProduct 17 = .ok (.istore 4, 2) := by decide +kernel
theorem dX2_takeProduct_19 : decode cX2_takeProduct 19 = .ok (.iload 4, 2) := by decide +kernel
theorem dX2_takeProduct_21 : decode cX2_takeProduct 21 = .ok (.iload_n 3, 1) := by decide +kernel
theorem dX2_takeProduct_22 : decode cX2_takeProduct 22 = .ok (.if_icmp .ge 17, 3) := by decide +kernel
theorem dX2_takeProduct_25 : decode cX2_takeProduct 25 = .ok (.aload_n 0, 1) := by decide +kernel
theorem dX2_takeProduct_26 : decode cX2_takeProduct 26 = .ok (.getfield 9, 3) := by decide +kernel
theorem dX2_takeProduct_29 : decode cX2_takeProduct 29 = .ok (.iload 4, 2) := by decide +kernel
theorem dX2_takeProduct_31 : decode cX2_takeProduct 31 = .ok (.iconst 0, 1) := by decide +kernel
theorem dX2_takeProduct_32 : decode cX2_takeProduct 32 = .ok (.iastore, 1) := by decide +kernel
theorem dX2_takeProduct_33 : decode cX2_takeProduct 33 = .ok (.iinc 4 1, 3) := by decide +kernel
theorem dX2_takeProduct_36 : decode cX2_takeProduct 36 = .ok (.goto (-17), 3) := by decide +kernel
theorem dX2_takeProduct_39 : decode cX2_takeProduct 39 = .ok (.iconst 0, 1) := by decide +kernel
theorem dX2_takeProduct_40 : decode cX2_takeProduct 40 = .ok (.istore 4, 2) := by decide +kernel
theorem dX2_takeProduct_42 : decode cX2_takeProduct 42 = .ok (.iload 4, 2) := by decide +kernel
theorem dX2_takeProduct_44 : decode cX2_takeProduct 44 = .ok (.aload_n 1, 1) := by decide +kernel
theorem dX2_takeProduct_45 : decode cX2_takeProduct 45 = .ok (.getfield 15, 3) := by decide +kernel
theorem dX2_takeProduct_48 : decode cX2_takeProduct 48 = .ok (.if_icmp .ge 49, 3) := by decide +kernel
theorem dX2_takeProduct_51 : decode cX2_takeProduct 51 = .ok (.iload 4, 2) := by decide +kernel
theorem dX2_takeProduct_53 : decode cX2_takeProduct 53 = .ok (.aload_n 2, 1) := by decide +kernel
theorem dX2_takeProduct_54 : decode cX2_takeProduct 54 = .ok (.getfield 15, 3) := by decide +kernel
theorem dX2_takeProduct_57 : decode cX2_takeProduct 57 = .ok (.iadd, 1) := by decide +kernel
theorem dX2_takeProduct_58 : decode cX2_takeProduct 58 = .ok (.sipush 140, 3) := by decide +kernel
theorem dX2_takeProduct_61 : decode cX2_takeProduct 61 = .ok (.if_icmp .ge 36, 3) := by decide +kernel
theorem dX2_takeProduct_64 : decode cX2_takeProduct 64 = .ok (.aload_n 0, 1) := by decide +kernel
theorem dX2_takeProduct_65 : decode cX2_takeProduct 65 = .ok (.getfield 9, 3) := by decide +kernel
theorem dX2_takeProduct_68 : decode cX2_takeProduct 68 = .ok (.iload 4, 2) := by decide +kernel
theorem dX2_takeProduct_70 : decode cX2_takeProduct 70 = .ok (.aload_n 2, 1) := by decide +kernel
theorem dX2_takeProduct_71 : decode cX2_takeProduct 71 = .ok (.getfield 15, 3) := by decide +kernel
theorem dX2_takeProduct_74 : decode cX2_takeProduct 74 = .ok (.iadd, 1) := by decide +kernel
theorem dX2_takeProduct_75 : decode cX2_takeProduct 75 = .ok (.aload_n 0, 1) := by decide +kernel
theorem dX2_takeProduct_76 : decode cX2_takeProduct 76 = .ok (.aload_n 2, 1) := by decide +kernel
theorem dX2_takeProduct_77 : decode cX2_takeProduct 77 = .ok (.aload_n 1, 1) := by decide +kernel
theorem dX2_takeProduct_78 : decode cX2_takeProduct 78 = .ok (.getfield 9, 3) := by decide +kernel
theorem dX2_takeProduct_81 : decode cX2_takeProduct 81 = .ok (.iload 4, 2) := by decide +kernel
theorem dX2_takeProduct_83 : decode cX2_takeProduct 83 = .ok (.iaload, 1) := by decide +kernel
theorem dX2_takeProduct_84 : decode cX2_takeProduct 84 = .ok (.i2l, 1) := by decide +kernel
theorem dX2_takeProduct_85 : decode cX2_takeProduct 85 = .ok (.iload 4, 2) := by decide +kernel
theorem dX2_takeProduct_87 : decode cX2_takeProduct 87 = .ok (.invokevirtual 52, 3) := by decide +kernel
theorem dX2_takeProduct_90 : decode cX2_takeProduct 90 = .ok (.iastore, 1) := by decide +kernel
theorem dX2_takeProduct_91 : decode cX2_takeProduct 91 = .ok (.iinc 4 1, 3) := by decide +kernel
theorem dX2_takeProduct_94 : decode cX2_takeProduct 94 = .ok (.goto (-52), 3) := by decide +kernel
theorem dX2_takeProduct_97 : decode cX2_takeProduct 97 = .ok (.aload_n 0, 1) := by decide +kernel
theorem dX2_takeProduct_98 : decode cX2_takeProduct 98 = .ok (.iload_n 3, 1) := by decide +kernel
theorem dX2_takeProduct_99 : decode cX2_takeProduct 99 = .ok (.invokevirtual 39, 3) := by decide +kernel
theorem dX2_takeProduct_102 : decode cX2_takeProduct 102 = .ok (.return_, 1) := by decide +kernel
theorem dX2_addRow_0 : decode cX2_addRow 0 = .ok (.lconst 0, 1) := by decide +kernel
theorem dX2_addRow_1 : decode cX2_addRow 1 = .ok (.lstore 5, 2) := by decide +kernel
theorem dX2_addRow_3 : decode cX2_addRow 3 = .ok (.iconst 0, 1) := by decide +kernel
theorem dX2_addRow_4 : decode cX2_addRow 4 = .ok (.istore 7, 2) := by decide +kernel
theorem dX2_addRow_6 : decode cX2_addRow 6 = .ok (.iload 7, 2) := by decide +kernel
theorem dX2_addRow_8 : decode cX2_addRow 8 = .ok (.aload_n 1, 1) := by decide +kernel
theorem dX2_addRow_9 : decode cX2_addRow 9 = .ok (.getfield 15, 3) := by decide +kernel
theorem dX2_addRow_12 : decode cX2_addRow 12 = .ok (.if_icmp .ge 59, 3) := by decide +kernel
theorem dX2_addRow_15 : decode cX2_addRow 15 = .ok (.lload_n 2, 1) := by decide +kernel
theorem dX2_addRow_16 : decode cX2_addRow 16 = .ok (.aload_n 1, 1) := by decide +kernel
theorem dX2_addRow_17 : decode cX2_addRow 17 = .ok (.getfield 9, 3) := by decide +kernel
theorem dX2_addRow_20 : decode cX2_addRow 20 = .ok (.iload 7, 2) := by decide +kernel
theorem dX2_addRow_22 : decode cX2_addRow 22 = .ok (.iaload, 1) := by decide +kernel
theorem dX2_addRow_23 : decode cX2_addRow 23 = .ok (.i2l, 1) := by decide +kernel
theorem dX2_addRow_24 : decode cX2_addRow 24 = .ok (.lmul, 1) := by decide +kernel
theorem dX2_addRow_25 : decode cX2_addRow 25 = .ok (.aload_n 0, 1) := by decide +kernel
theorem dX2_addRow_26 : decode cX2_addRow 26 = .ok (.getfield 9, 3) := by decide +kernel
theorem dX2_addRow_29 : decode cX2_addRow 29 = .ok (.iload 4, 2) := by decide +kernel
theorem dX2_addRow_31 : decode cX2_addRow 31 = .ok (.iload 7, 2) := by decide +kernel
theorem dX2_addRow_33 : decode cX2_addRow 33 = .ok (.iadd, 1) := by decide +kernel
theorem dX2_addRow_34 : decode cX2_addRow 34 = .ok (.iaload, 1) := by decide +kernel
theorem dX2_addRow_35 : decode cX2_addRow 35 = .ok (.i2l, 1) := by decide +kernel
theorem dX2_addRow_36 : decode cX2_addRow 36 = .ok (.ladd, 1) := by decide +kernel
theorem dX2_addRow_37 : decode cX2_addRow 37 = .ok (.lload 5, 2) := by decide +kernel
theorem dX2_addRow_39 : decode cX2_addRow 39 = .ok (.ladd, 1) := by decide +kernel
theorem dX2_addRow_40 : decode cX2_addRow 40 = .ok (.lstore 8, 2) := by decide +kernel
theorem dX2_addRow_42 : decode cX2_addRow 42 = .ok (.aload_n 0, 1) := by decide +kernel
theorem dX2_addRow_43 : decode cX2_addRow 43 = .ok (.getfield 9, 3) := by decide +kernel
theorem dX2_addRow_46 : decode cX2_addRow 46 = .ok (.iload 4, 2) := by decide +kernel
theorem dX2_addRow_48 : decode cX2_addRow 48 = .ok (.iload 7, 2) := by decide +kernel
theorem dX2_addRow_50 : decode cX2_addRow 50 = .ok (.iadd, 1) := by decide +kernel
theorem dX2_addRow_51 : decode cX2_addRow 51 = .ok (.lload 8, 2) := by decide +kernel
theorem dX2_addRow_53 : decode cX2_addRow 53 = .ok (.l2i, 1) := by decide +kernel
theorem dX2_addRow_54 : decode cX2_addRow 54 = .ok (.ldc 32, 2) := by decide +kernel
theorem dX2_addRow_56 : decode cX2_addRow 56 = .ok (.iand, 1) := by decide +kernel
theorem dX2_addRow_57 : decode cX2_addRow 57 = .ok (.iastore, 1) := by decide +kernel
theorem dX2_addRow_58 : decode cX2_addRow 58 = .ok (.lload 8, 2) := by decide +kernel
theorem dX2_addRow_60 : decode cX2_addRow 60 = .ok (.bipush 30, 2) := by decide +kernel
theorem dX2_addRow_62 : decode cX2_addRow 62 = .ok (.lushr, 1) := by decide +kernel
theorem dX2_addRow_63 : decode cX2_addRow 63 = .ok (.lstore 5, 2) := by decide +kernel
theorem dX2_addRow_65 : decode cX2_addRow 65 = .ok (.iinc 7 1, 3) := by decide +kernel
theorem dX2_addRow_68 : decode cX2_addRow 68 = .ok (.goto (-62), 3) := by decide +kernel
theorem dX2_addRow_71 : decode cX2_addRow 71 = .ok (.lload 5, 2) := by decide +kernel
theorem dX2_addRow_73 : decode cX2_addRow 73 = .ok (.l2i, 1) := by decide +kernel
theorem dX2_addRow_74 : decode cX2_addRow 74 = .ok (.ireturn, 1) := by decide +kernel
set_option maxRecDepth 20000 in
theorem ggX2_shiftUp_X2_limb : GoodIn wsX2_shiftUp wsX2_limb := goodIn_r _ [12, 1, 6, 20, 21] (by decide +kernel) (by decide +kernel)
set_option maxRecDepth 20000 in
theorem gX2_shiftUp_X2_limb : GoodIn wsX2_shiftUp (wsV RX2 23 RX2 yX2_limb wsX2_limb) := goodIn_app (goodIn_of _ (by decide +kernel)) ggX2_shiftUp_X2_limb
set_option maxRecDepth 20000 in
theorem ggX2_shiftUp_X2_trim : GoodIn wsX2_shiftUp wsX2_trim := goodIn_r _ [16, 2, 3, 4, 5, 6, 17, 18, 19, 1, 20, 21] (by decide +kernel) (by decide +kernel)
set_option maxRecDepth 20000 in
theorem gX2_shiftUp_X2_trim : GoodIn wsX2_shiftUp (wsV RX2 39 RX2 yX2_trim wsX2_trim) := goodIn_app (goodIn_of _ (by decide +kernel)) ggX2_shiftUp_X2_trim
theorem dX2_shiftUp_0 : decode cX2_shiftUp 0 = .ok (.iload_n 2, 1) := by decide +kernel
theorem dX2_shiftUp_1 : decode cX2_shiftUp 1 = .ok (.bipush 30, 2) := by decide +kernel
theorem dX2_shiftUp_3 : decode cX2_shiftUp 3 = .ok (.idiv, 1) := by decide +kernel
theorem dX2_shiftUp_4 : decode cX2_shiftUp 4 = .ok (.istore_n 3, 1) := by decide +kernel
theorem dX2_shiftUp_5 : decode cX2_shiftUp 5 = .ok (.iload_n 2, 1) := by decide +kernel
theorem dX2_shiftUp_6 : decode cX2_shiftUp 6 = .ok (.bipush 30, 2) := by decide +kernel
theorem dX2_shiftUp_8 : decode cX2_shiftUp 8 = .ok (.irem, 1) := by decide +kernel
theorem dX2_shiftUp_9 : decode cX2_shiftUp 9 = .ok (.istore 4, 2) := by decide +kernel
theorem dX2_shiftUp_11 : decode cX2_shiftUp 11 = .ok (.aload_n 1, 1) := by decide +kernel
theorem dX2_shiftUp_12 : decode cX2_shiftUp 12 = .ok (.getfield 15, 3) := by decide +kernel
theorem dX2_shiftUp_15 : decode cX2_shiftUp 15 = .ok (.iload_n 3, 1) := by decide +kernel
theorem dX2_shiftUp_16 : decode cX2_shiftUp 16 = .ok (.iadd, 1) := by decide +kernel
theorem dX2_shiftUp_17 : decode cX2_shiftUp 17 = .ok (.iconst 1, 1) := by decide +kernel
theorem dX2_shiftUp_18 : decode cX2_shiftUp 18 = .ok (.iadd, 1) := by decide +kernel
theorem dX2_shiftUp_19 : decode cX2_shiftUp 19 = .ok (.sipush 140, 3) := by decide +kernel
theorem dX2_shiftUp_22 : decode cX2_shiftUp 22 = .ok (.invokestatic 43, 3) := by decide +kernel
theorem dX2_shiftUp_25 : decode cX2_shiftUp 25 = .ok (.istore 5, 2) := by decide +kernel
theorem dX2_shiftUp_27 : decode cX2_shiftUp 27 = .ok (.iload 5, 2) := by decide +kernel
theorem dX2_shiftUp_29 : decode cX2_shiftUp 29 = .ok (.iconst 1, 1) := by decide +kernel
theorem dX2_shiftUp_30 : decode cX2_shiftUp 30 = .ok (.isub, 1) := by decide +kernel
theorem dX2_shiftUp_31 : decode cX2_shiftUp 31 = .ok (.istore 6, 2) := by decide +kernel
theorem dX2_shiftUp_33 : decode cX2_shiftUp 33 = .ok (.iload 6, 2) := by decide +kernel
theorem dX2_shiftUp_35 : decode cX2_shiftUp 35 = .ok (.ifCond .lt 49, 3) := by decide +kernel
theorem dX2_shiftUp_38 : decode cX2_shiftUp 38 = .ok (.iload 6, 2) := by decide +kernel
theorem dX2_shiftUp_40 : decode cX2_shiftUp 40 = .ok (.iload_n 3, 1) := by decide +kernel
theorem dX2_shiftUp_41 : decode cX2_shiftUp 41 = .ok (.isub, 1) := by decide +kernel
theorem dX2_shiftUp_42 : decode cX2_shiftUp 42 = .ok (.istore 7, 2) := by decide +kernel
theorem dX2_shiftUp_44 : decode cX2_shiftUp 44 = .ok (.aload_n 0, 1) := by decide +kernel
theorem dX2_shiftUp_45 : decode cX2_shiftUp 45 = .ok (.getfield 9, 3) := by decide +kernel
theorem dX2_shiftUp_48 : decode cX2_shiftUp 48 = .ok (.iload 6, 2) := by decide +kernel
theorem dX2_shiftUp_50 : decode cX2_shiftUp 50 = .ok (.aload_n 1, 1) := by decide +kernel
theorem dX2_shiftUp_51 : decode cX2_shiftUp 51 = .ok (.iload 7, 2) := by decide +kernel
theorem dX2_shiftUp_53 : decode cX2_shiftUp 53 = .ok (.invokevirtual 23, 3) := by decide +kernel
theorem dX2_shiftUp_56 : decode cX2_shiftUp 56 = .ok (.iload 4, 2) := by decide +kernel
theorem dX2_shiftUp_58 : decode cX2_shiftUp 58 = .ok (.ishl, 1) := by decide +kernel
theorem dX2_shiftUp_59 : decode cX2_shiftUp 59 = .ok (.aload_n 1, 1) := by decide +kernel
theorem dX2_shiftUp_60 : decode cX2_shiftUp 60 = .ok (.iload 7, 2) := by decide +kernel
theorem dX2_shiftUp_62 : decode cX2_shiftUp 62 = .ok (.iconst 1, 1) := by decide +kernel
theorem dX2_shiftUp_63 : decode cX2_shiftUp 63 = .ok (.isub, 1) := by decide +kernel
theorem dX2_shiftUp_64 : decode cX2_shiftUp 64 = .ok (.invokevirtual 23, 3) := by decide +kernel
theorem dX2_shiftUp_67 : decode cX2_shiftUp 67 = .ok (.bipush 30, 2) := by decide +kernel
theorem dX2_shiftUp_69 : decode cX2_shiftUp 69 = .ok (.iload 4, 2) := by decide +kernel
theorem dX2_shiftUp_71 : decode cX2_shiftUp 71 = .ok (.isub, 1) := by decide +kernel
theorem dX2_shiftUp_72 : decode cX2_shiftUp 72 = .ok (.iushr, 1) := by decide +kernel
theorem dX2_shiftUp_73 : decode cX2_shiftUp 73 = .ok (.ior, 1) := by decide +kernel
theorem dX2_shiftUp_74 : decode cX2_shiftUp 74 = .ok (.ldc 32, 2) := by decide +kernel
theorem dX2_shiftUp_76 : decode cX2_shiftUp 76 = .ok (.iand, 1) := by decide +kernel
theorem dX2_shiftUp_77 : decode cX2_shiftUp 77 = .ok (.iastore, 1) := by decide +kernel
theorem dX2_shiftUp_78 : decode cX2_shiftUp 78 = .ok (.iinc 6 (-1), 3) := by decide +kernel
theorem dX2_shiftUp_81 : decode cX2_shiftUp 81 = .ok (.goto (-48), 3) := by decide +kernel
theorem dX2_shiftUp_84 : decode cX2_shiftUp 84 = .ok (.aload_n 0, 1) := by decide +kernel
theorem dX2_shiftUp_85 : decode cX2_shiftUp 85 = .ok (.iload 5, 2) := by decide +kernel
theorem dX2_shiftUp_87 : decode cX2_shiftUp 87 = .ok (.invokevirtual 39, 3) := by decide +kernel
theorem dX2_shiftUp_90 : decode cX2_shiftUp 90 = .ok (.return_, 1) := by decide +kernel
set_option maxRecDepth 20000 in
theorem ggX2_shiftDown_X2_limbFrom : GoodIn wsX2_shiftDown wsX2_limbFrom := goodIn_r _ [11, 12, 13, 14, 15, 10, 16, 1, 6, 24, 25] (by decide +kernel) (by decide +kernel)
set_option maxRecDepth 20000 in
theorem gX2_shiftDown_X2_limbFrom : GoodIn wsX2_shiftDown (wsV RX2 56 RX2 yX2_limbFrom wsX2_limbFrom) := goodIn_app (goodIn_of _ (by decide +kernel)) ggX2_shiftDown_X2_limbFrom
set_option maxRecDepth 20000 in
theorem ggX2_shiftDown_X2_trim : GoodIn wsX2_shiftDown wsX2_trim := goodIn_r _ [20, 21, 22, 4, 23, 6, 2, 3, 5, 1, 24, 25] (by decide +kernel) (by decide +kernel)
set_option maxRecDepth 20000 in
theorem gX2_shiftDown_X2_trim : GoodIn wsX2_shiftDown (wsV RX2 39 RX2 yX2_trim wsX2_trim) := goodIn_app (goodIn_of _ (by decide +kernel)) ggX2_shiftDown_X2_trim
theorem dX2_shiftDown_0 : decode cX2_shiftDown 0 = .ok (.aload_n 1, 1) := by decide +kernel
theorem dX2_shiftDown_1 : decode cX2_shiftDown 1 = .ok (.getfield 15, 3) := by decide +kernel
theorem dX2_shiftDown_4 : decode cX2_shiftDown 4 = .ok (.iload_n 2, 1) := by decide +kernel
theorem dX2_shiftDown_5 : decode cX2_shiftDown 5 = .ok (.bipush 30, 2) := by decide +kernel
theorem dX2_shiftDown_7 : decode cX2_shiftDown 7 = .ok (.idiv, 1) := by decide +kernel
theorem dX2_shiftDown_8 : decode cX2_shiftDown 8 = .ok (.isub, 1) := by decide +kernel
theorem dX2_shiftDown_9 : decode cX2_shiftDown 9 = .ok (.iconst 0, 1) := by decide +kernel
theorem dX2_shiftDown_10 : decode cX2_shiftDown 10 = .ok (.invokestatic 49, 3) := by decide +kernel
theorem dX2_shiftDown_13 : decode cX2_shiftDown 13 = .ok (.istore_n 3, 1) := by decide +kernel
theorem dX2_shiftDown_14 : decode cX2_shiftDown 14 = .ok (.iconst 0, 1) := by decide +kernel
theorem dX2_shiftDown_15 : decode cX2_shiftDown 15 = .ok (.istore 4, 2) := by decide +kernel
theorem dX2_shiftDown_17 : decode cX2_shiftDown 17 = .ok (.iload 4, 2) := by decide +kernel
theorem dX2_shiftDown_19 : decode cX2_shiftDown 19 = .ok (.iload_n 3, 1) := by decide +kernel
theorem dX2_shiftDown_20 : decode cX2_shiftDown 20 = .ok (.if_icmp .ge 27, 3) := by decide +kernel
theorem dX2_shiftDown_23 : decode cX2_shiftDown 23 = .ok (.aload_n 0, 1) := by decide +kernel
theorem dX2_shiftDown_24 : decode cX2_shiftDown 24 = .ok (.getfield 9, 3) := by decide +kernel
theorem dX2_shiftDown_27 : decode cX2_shiftDown 27 = .ok (.iload 4, 2) := by decide +kernel
theorem dX2_shiftDown_29 : decode cX2_shiftDown 29 = .ok (.aload_n 1, 1) := by decide +kernel
theorem dX2_shiftDown_30 : decode cX2_shiftDown 30 = .ok (.iload 4, 2) := by decide +kernel
theorem dX2_shiftDown_32 : decode cX2_shiftDown 32 = .ok (.bipush 30, 2) := by decide +kernel
theorem dX2_shiftDown_34 : decode cX2_shiftDown 34 = .ok (.imul, 1) := by decide +kernel
theorem dX2_shiftDown_35 : decode cX2_shiftDown 35 = .ok (.iload_n 2, 1) := by decide +kernel
theorem dX2_shiftDown_36 : decode cX2_shiftDown 36 = .ok (.iadd, 1) := by decide +kernel
theorem dX2_shiftDown_37 : decode cX2_shiftDown 37 = .ok (.invokevirtual 56, 3) := by decide +kernel
theorem dX2_shiftDown_40 : decode cX2_shiftDown 40 = .ok (.iastore, 1) := by decide +kernel
theorem dX2_shiftDown_41 : decode cX2_shiftDown 41 = .ok (.iinc 4 1, 3) := by decide +kernel
theorem dX2_shiftDown_44 : decode cX2_shiftDown 44 = .ok (.goto (-27), 3) := by decide +kernel
theorem dX2_shiftDown_47 : decode cX2_shiftDown 47 = .ok (.aload_n 0, 1) := by decide +kernel
theorem dX2_shiftDown_48 : decode cX2_shiftDown 48 = .ok (.iload_n 3, 1) := by decide +kernel
theorem dX2_shiftDown_49 : decode cX2_shiftDown 49 = .ok (.invokevirtual 39, 3) := by decide +kernel
theorem dX2_shiftDown_52 : decode cX2_shiftDown 52 = .ok (.return_, 1) := by decide +kernel
set_option maxRecDepth 20000 in
theorem ggX2_timesPlus_X2_trim : GoodIn wsX2_timesPlus wsX2_trim := goodIn_r _ [8, 9, 10, 11, 12, 2, 13, 14, 15, 1, 16, 17] (by decide +kernel) (by decide +kernel)
set_option maxRecDepth 20000 in
theorem gX2_timesPlus_X2_trim : GoodIn wsX2_timesPlus (wsV RX2 39 RX2 yX2_trim wsX2_trim) := goodIn_app (goodIn_of _ (by decide +kernel)) ggX2_timesPlus_X2_trim
theorem dX2_timesPlus_0 : decode cX2_timesPlus 0 = .ok (.iload_n 2, 1) := by decide +kernel
theorem dX2_timesPlus_1 : decode cX2_timesPlus 1 = .ok (.i2l, 1) := by decide +kernel
theorem dX2_timesPlus_2 : decode cX2_timesPlus 2 = .ok (.lstore_n 3, 1) := by decide +kernel
theorem dX2_timesPlus_3 : decode cX2_timesPlus 3 = .ok (.iconst 0, 1) := by decide +kernel
theorem dX2_timesPlus_4 : decode cX2_timesPlus 4 = .ok (.istore 5, 2) := by decide +kernel
theorem dX2_timesPlus_6 : decode cX2_timesPlus 6 = .ok (.iload 5, 2) := by decide +kernel
theorem dX2_timesPlus_8 : decode cX2_timesPlus 8 = .ok (.aload_n 0, 1) := by decide +kernel
theorem dX2_timesPlus_9 : decode cX2_timesPlus 9 = .ok (.getfield 15, 3) := by decide +kernel
theorem dX2_timesPlus_12 : decode cX2_timesPlus 12 = .ok (.if_icmp .ge 43, 3) := by decide +kernel
theorem dX2_timesPlus_15 : decode cX2_timesPlus 15 = .ok (.iload_n 1, 1) := by decide +kernel
theorem dX2_timesPlus_16 : decode cX2_timesPlus 16 = .ok (.i2l, 1) := by decide +kernel
theorem dX2_timesPlus_17 : decode cX2_timesPlus 17 = .ok (.aload_n 0, 1) := by decide +kernel
theorem dX2_timesPlus_18 : decode cX2_timesPlus 18 = .ok (.getfield 9, 3) := by decide +kernel
theorem dX2_timesPlus_21 : decode cX2_timesPlus 21 = .ok (.iload 5, 2) := by decide +kernel
theorem dX2_timesPlus_23 : decode cX2_timesPlus 23 = .ok (.iaload, 1) := by decide +kernel
theorem dX2_timesPlus_24 : decode cX2_timesPlus 24 = .ok (.i2l, 1) := by decide +kernel
theorem dX2_timesPlus_25 : decode cX2_timesPlus 25 = .ok (.lmul, 1) := by decide +kernel
theorem dX2_timesPlus_26 : decode cX2_timesPlus 26 = .ok (.lload_n 3, 1) := by decide +kernel
theorem dX2_timesPlus_27 : decode cX2_timesPlus 27 = .ok (.ladd, 1) := by decide +kernel
theorem dX2_timesPlus_28 : decode cX2_timesPlus 28 = .ok (.lstore 6, 2) := by decide +kernel
theorem dX2_timesPlus_30 : decode cX2_timesPlus 30 = .ok (.aload_n 0, 1) := by decide +kernel
theorem dX2_timesPlus_31 : decode cX2_timesPlus 31 = .ok (.getfield 9, 3) := by decide +kernel
theorem dX2_timesPlus_34 : decode cX2_timesPlus 34 = .ok (.iload 5, 2) := by decide +kernel
theorem dX2_timesPlus_36 : decode cX2_timesPlus 36 = .ok (.lload 6, 2) := by decide +kernel
theorem dX2_timesPlus_38 : decode cX2_timesPlus 38 = .ok (.l2i, 1) := by decide +kernel
theorem dX2_timesPlus_39 : decode cX2_timesPlus 39 = .ok (.ldc 32, 2) := by decide +kernel
theorem dX2_timesPlus_41 : decode cX2_timesPlus 41 = .ok (.iand, 1) := by decide +kernel
theorem dX2_timesPlus_42 : decode cX2_timesPlus 42 = .ok (.iastore, 1) := by decide +kernel
theorem dX2_timesPlus_43 : decode cX2_timesPlus 43 = .ok (.lload 6, 2) := by decide +kernel
theorem dX2_timesPlus_45 : decode cX2_timesPlus 45 = .ok (.bipush 30, 2) := by decide +kernel
theorem dX2_timesPlus_47 : decode cX2_timesPlus 47 = .ok (.lushr, 1) := by decide +kernel
theorem dX2_timesPlus_48 : decode cX2_timesPlus 48 = .ok (.lstore_n 3, 1) := by decide +kernel
theorem dX2_timesPlus_49 : decode cX2_timesPlus 49 = .ok (.iinc 5 1, 3) := by decide +kernel
theorem dX2_timesPlus_52 : decode cX2_timesPlus 52 = .ok (.goto (-46), 3) := by decide +kernel
theorem dX2_timesPlus_55 : decode cX2_timesPlus 55 = .ok (.aload_n 0, 1) := by decide +kernel
theorem dX2_timesPlus_56 : decode cX2_timesPlus 56 = .ok (.getfield 15, 3) := by decide +kernel
theorem dX2_timesPlus_59 : decode cX2_timesPlus 59 = .ok (.sipush 140, 3) := by decide +kernel
theorem dX2_timesPlus_62 : decode cX2_timesPlus 62 = .ok (.if_icmp .ge 24, 3) := by decide +kernel
theorem dX2_timesPlus_65 : decode cX2_timesPlus 65 = .ok (.aload_n 0, 1) := by decide +kernel
theorem dX2_timesPlus_66 : decode cX2_timesPlus 66 = .ok (.getfield 9, 3) := by decide +kernel
theorem dX2_timesPlus_69 : decode cX2_timesPlus 69 = .ok (.aload_n 0, 1) := by decide +kernel
theorem dX2_timesPlus_70 : decode cX2_timesPlus 70 = .ok (.getfield 15, 3) := by decide +kernel
theorem dX2_timesPlus_73 : decode cX2_timesPlus 73 = .ok (.lload_n 3, 1) := by decide +kernel
theorem dX2_timesPlus_74 : decode cX2_timesPlus 74 = .ok (.l2i, 1) := by decide +kernel
theorem dX2_timesPlus_75 : decode cX2_timesPlus 75 = .ok (.iastore, 1) := by decide +kernel
theorem dX2_timesPlus_76 : decode cX2_timesPlus 76 = .ok (.aload_n 0, 1) := by decide +kernel
theorem dX2_timesPlus_77 : decode cX2_timesPlus 77 = .ok (.aload_n 0, 1) := by decide +kernel
theorem dX2_timesPlus_78 : decode cX2_timesPlus 78 = .ok (.getfield 15, 3) := by decide +kernel
theorem dX2_timesPlus_81 : decode cX2_timesPlus 81 = .ok (.iconst 1, 1) := by decide +kernel
theorem dX2_timesPlus_82 : decode cX2_timesPlus 82 = .ok (.iadd, 1) := by decide +kernel
theorem dX2_timesPlus_83 : decode cX2_timesPlus 83 = .ok (.invokevirtual 39, 3) := by decide +kernel
theorem dX2_timesPlus_86 : decode cX2_timesPlus 86 = .ok (.return_, 1) := by decide +kernel
end
section
set_option maxRecDepth 20000 in
theorem ggX2_cutBy_X2_trim : GoodIn wsX2_cutBy wsX2_trim := goodIn_r _ [7, 8, 9, 10, 11, 2, 12, 13, 14, 1, 15, 16] (by decide +kernel) (by decide +kernel)
set_option maxRecDepth 20000 in
theorem gX2_cutBy_X2_trim : GoodIn wsX2_cutBy (wsV RX2 39 RX2 yX2_trim wsX2_trim) := goodIn_app (goodIn_of _ (by decide +kernel)) ggX2_cutBy_X2_trim
theorem dX2_cutBy_0 : decode cX2_cutBy 0 = .ok (.iload_n 1, 1) := by decide +kernel
theorem dX2_cutBy_1 : decode cX2_cutBy 1 = .ok (.iconst 1, 1) := by decide +kernel
theorem dX2_cutBy_2 : decode cX2_cutBy 2 = .ok (.if_icmp .ge 5, 3) := by decide +kernel
theorem dX2_cutBy_5 : decode cX2_cutBy 5 = .ok (.iconst 0, 1) := by decide +kernel
theorem dX2_cutBy_6 : decode cX2_cutBy 6 = .ok (.ireturn, 1) := by decide +kernel
theorem dX2_cutBy_7 : decode cX2_cutBy 7 = .ok (.lconst 0, 1) := by decide +kernel
theorem dX2_cutBy_8 : decode cX2_cutBy 8 = .ok (.lstore_n 2, 1) := by decide +kernel
theorem dX2_cutBy_9 : decode cX2_cutBy 9 = .ok (.aload_n 0, 1) := by decide +kernel
theorem dX2_cutBy_10 : decode cX2_cutBy 10 = .ok (.getfield 15, 3) := by decide +kernel
theorem dX2_cutBy_13 : decode cX2_cutBy 13 = .ok (.iconst 1, 1) := by decide +kernel
theorem dX2_cutBy_14 : decode cX2_cutBy 14 = .ok (.isub, 1) := by decide +kernel
theorem dX2_cutBy_15 : decode cX2_cutBy 15 = .ok (.istore 4, 2) := by decide +kernel
theorem dX2_cutBy_17 : decode cX2_cutBy 17 = .ok (.iload 4, 2) := by decide +kernel
theorem dX2_cutBy_19 : decode cX2_cutBy 19 = .ok (.ifCond .lt 43, 3) := by decide +kernel
theorem dX2_cutBy_22 : decode cX2_cutBy 22 = .ok (.lload_n 2, 1) := by decide +kernel
theorem dX2_cutBy_23 : decode cX2_cutBy 23 = .ok (.bipush 30, 2) := by decide +kernel
theorem dX2_cutBy_25 : decode cX2_cutBy 25 = .ok (.lshl, 1) := by decide +kernel
theorem dX2_cutBy_26 : decode cX2_cutBy 26 = .ok (.aload_n 0, 1) := by decide +kernel
theorem dX2_cutBy_27 : decode cX2_cutBy 27 = .ok (.getfield 9, 3) := by decide +kernel
theorem dX2_cutBy_30 : decode cX2_cutBy 30 = .ok (.iload 4, 2) := by decide +kernel
theorem dX2_cutBy_32 : decode cX2_cutBy 32 = .ok (.iaload, 1) := by decide +kernel
theorem dX2_cutBy_33 : decode cX2_cutBy 33 = .ok (.i2l, 1) := by decide +kernel
theorem dX2_cutBy_34 : decode cX2_cutBy 34 = .ok (.lor, 1) := by decide +kernel
theorem dX2_cutBy_35 : decode cX2_cutBy 35 = .ok (.lstore 5, 2) := by decide +kernel
theorem dX2_cutBy_37 : decode cX2_cutBy 37 = .ok (.aload_n 0, 1) := by decide +kernel
theorem dX2_cutBy_38 : decode cX2_cutBy 38 = .ok (.getfield 9, 3) := by decide +kernel
theorem dX2_cutBy_41 : decode cX2_cutBy 41 = .ok (.iload 4, 2) := by decide +kernel
theorem dX2_cutBy_43 : decode cX2_cutBy 43 = .ok (.lload 5, 2) := by decide +kernel
theorem dX2_cutBy_45 : decode cX2_cutBy 45 = .ok (.iload_n 1, 1) := by decide +kernel
theorem dX2_cutBy_46 : decode cX2_cutBy 46 = .ok (.i2l, 1) := by decide +kernel
theorem dX2_cutBy_47 : decode cX2_cutBy 47 = .ok (.ldiv, 1) := by decide +kernel
theorem dX2_cutBy_48 : decode cX2_cutBy 48 = .ok (.l2i, 1) := by decide +kernel
theorem dX2_cutBy_49 : decode cX2_cutBy 49 = .ok (.iastore, 1) := by decide +kernel
theorem dX2_cutBy_50 : decode cX2_cutBy 50 = .ok (.lload 5, 2) := by decide +kernel
theorem dX2_cutBy_52 : decode cX2_cutBy 52 = .ok (.iload_n 1, 1) := by decide +kernel
theorem dX2_cutBy_53 : decode cX2_cutBy 53 = .ok (.i2l, 1) := by decide +kernel
theorem dX2_cutBy_54 : decode cX2_cutBy 54 = .ok (.lrem, 1) := by decide +kernel
theorem dX2_cutBy_55 : decode cX2_cutBy 55 = .ok (.lstore_n 2, 1) := by decide +kernel
theorem dX2_cutBy_56 : decode cX2_cutBy 56 = .ok (.iinc 4 (-1), 3) := by decide +kernel
theorem dX2_cutBy_59 : decode cX2_cutBy 59 = .ok (.goto (-42), 3) := by decide +kernel
theorem dX2_cutBy_62 : decode cX2_cutBy 62 = .ok (.aload_n 0, 1) := by decide +kernel
theorem dX2_cutBy_63 : decode cX2_cutBy 63 = .ok (.aload_n 0, 1) := by decide +kernel
theorem dX2_cutBy_64 : decode cX2_cutBy 64 = .ok (.getfield 15, 3) := by decide +kernel
theorem dX2_cutBy_67 : decode cX2_cutBy 67 = .ok (.invokevirtual 39, 3) := by decide +kernel
theorem dX2_cutBy_70 : decode cX2_cutBy 70 = .ok (.lload_n 2, 1) := by decide +kernel
theorem dX2_cutBy_71 : decode cX2_cutBy 71 = .ok (.l2i, 1) := by decide +kernel
theorem dX2_cutBy_72 : decode cX2_cutBy 72 = .ok (.ireturn, 1) := by decide +kernel
theorem dX2_padTo_0 : decode cX2_padTo 0 = .ok (.aload_n 0, 1) := by decide +kernel
theorem dX2_padTo_1 : decode cX2_padTo 1 = .ok (.getfield 15, 3) := by decide +kernel
theorem dX2_padTo_4 : decode cX2_padTo 4 = .ok (.istore_n 2, 1) := by decide +kernel
theorem dX2_padTo_5 : decode cX2_padTo 5 = .ok (.iload_n 2, 1) := by decide +kernel
theorem dX2_padTo_6 : decode cX2_padTo 6 = .ok (.iload_n 1, 1) := by decide +kernel
theorem dX2_padTo_7 : decode cX2_padTo 7 = .ok (.if_icmp .ge 23, 3) := by decide +kernel
theorem dX2_padTo_10 : decode cX2_padTo 10 = .ok (.iload_n 2, 1) := by decide +kernel
theorem dX2_padTo_11 : decode cX2_padTo 11 = .ok (.sipush 140, 3) := by decide +kernel
theorem dX2_padTo_14 : decode cX2_padTo 14 = .ok (.if_icmp .ge 16, 3) := by decide +kernel
theorem dX2_padTo_17 : decode cX2_padTo 17 = .ok (.aload_n 0, 1) := by decide +kernel
theorem dX2_padTo_18 : decode cX2_padTo 18 = .ok (.getfield 9, 3) := by decide +kernel
theorem dX2_padTo_21 : decode cX2_padTo 21 = .ok (.iload_n 2, 1) := by decide +kernel
theorem dX2_padTo_22 : decode cX2_padTo 22 = .ok (.iconst 0, 1) := by decide +kernel
theorem dX2_padTo_23 : decode cX2_padTo 23 = .ok (.iastore, 1) := by decide +kernel
theorem dX2_padTo_24 : decode cX2_padTo 24 = .ok (.iinc 2 1, 3) := by decide +kernel
theorem dX2_padTo_27 : decode cX2_padTo 27 = .ok (.goto (-22), 3) := by decide +kernel
theorem dX2_padTo_30 : decode cX2_padTo 30 = .ok (.return_, 1) := by decide +kernel
theorem dX3_init_0 : decode cX3_init 0 = .ok (.aload_n 0, 1) := by decide +kernel
theorem dX3_init_1 : decode cX3_init 1 = .ok (.invokespecial 3, 3) := by decide +kernel
theorem dX3_init_4 : decode cX3_init 4 = .ok (.aload_n 0, 1) := by decide +kernel
theorem dX3_init_5 : decode cX3_init 5 = .ok (.sipush 4097, 3) := by decide +kernel
theorem dX3_init_8 : decode cX3_init 8 = .ok (.newarray .char, 2) := by decide +kernel
theorem dX3_init_10 : decode cX3_init 10 = .ok (.putfield 9, 3) := by decide +kernel
theorem dX3_init_13 : decode cX3_init 13 = .ok (.return_, 1) := by decide +kernel
theorem dX3_append_0 : decode cX3_append 0 = .ok (.aload_n 0, 1) := by decide +kernel
theorem dX3_append_1 : decode cX3_append 1 = .ok (.getfield 15, 3) := by decide +kernel
theorem dX3_append_4 : decode cX3_append 4 = .ok (.sipush 4097, 3) := by decide +kernel
theorem dX3_append_7 : decode cX3_append 7 = .ok (.if_icmp .ge 23, 3) := by decide +kernel
theorem dX3_append_10 : decode cX3_append 10 = .ok (.aload_n 0, 1) := by decide +kernel
theorem dX3_append_11 : decode cX3_append 11 = .ok (.getfield 9, 3) := by decide +kernel
theorem dX3_append_14 : decode cX3_append 14 = .ok (.aload_n 0, 1) := by decide +kernel
theorem dX3_append_15 : decode cX3_append 15 = .ok (.getfield 15, 3) := by decide +kernel
theorem dX3_append_18 : decode cX3_append 18 = .ok (.iload_n 1, 1) := by decide +kernel
theorem dX3_append_19 : decode cX3_append 19 = .ok (.castore, 1) := by decide +kernel
theorem dX3_append_20 : decode cX3_append 20 = .ok (.aload_n 0, 1) := by decide +kernel
theorem dX3_append_21 : decode cX3_append 21 = .ok (.dup, 1) := by decide +kernel
theorem dX3_append_22 : decode cX3_append 22 = .ok (.getfield 15, 3) := by decide +kernel
theorem dX3_append_25 : decode cX3_append 25 = .ok (.iconst 1, 1) := by decide +kernel
theorem dX3_append_26 : decode cX3_append 26 = .ok (.iadd, 1) := by decide +kernel
theorem dX3_append_27 : decode cX3_append 27 = .ok (.putfield 15, 3) := by decide +kernel
theorem dX3_append_30 : decode cX3_append 30 = .ok (.return_, 1) := by decide +kernel
set_option maxRecDepth 20000 in
theorem ggX3_spell_X3_appendDigitsBackwards : GoodIn wsX3_spell wsX3_appendDigitsBackwards := goodIn_r _ [8, 9, 10, 11, 12, 13, 14, 15, 16, 17, 7, 18, 1, 19, 20, 21, 22, 23, 24, 25, 26, 27, 28, 29, 30, 31, 32, 33, 34, 35, 36, 37, 38, 39, 40, 41, 42, 43, 44, 45, 54, 55, 50, 51] (by decide +kernel) (by decide +kernel)
set_option maxRecDepth 20000 in
theorem gX3_spell_X3_appendDigitsBackwards : GoodIn wsX3_spell (wsV RX3 25 RX3 yX3_appendDigitsBackwards wsX3_appendDigitsBackwards) := goodIn_app (goodIn_of _ (by decide +kernel)) ggX3_spell_X3_appendDigitsBackwards
set_option maxRecDepth 20000 in
theorem ggX3_spell_X3_append : GoodIn wsX3_spell wsX3_append := goodIn_r _ [18, 1, 19, 50, 51] (by decide +kernel) (by decide +kernel)
set_option maxRecDepth 20000 in
theorem gX3_spell_X3_append : GoodIn wsX3_spell (wsV RX3 33 RX3 yX3_append wsX3_append) := goodIn_app (goodIn_of _ (by decide +kernel)) ggX3_spell_X3_append
set_option maxRecDepth 20000 in
theorem ggX3_spell_X3_reverse : GoodIn wsX3_spell wsX3_reverse := goodIn_r _ [49, 1, 19, 50, 51] (by decide +kernel) (by decide +kernel)
set_option maxRecDepth 20000 in
theorem gX3_spell_X3_reverse : GoodIn wsX3_spell (wsV RX3 37 RX3 yX3_reverse wsX3_reverse) := goodIn_app (goodIn_of _ (by decide +kernel)) ggX3_spell_X3_reverse
theorem dX3_spell_0 : decode cX3_spell 0 = .ok (.aload_n 0, 1) := by decide +kernel
theorem dX3_spell_1 : decode cX3_spell 1 = .ok (.iconst 0, 1) := by decide +kernel
theorem dX3_spell_2 : decode cX3_spell 2 = .ok (.putfield 15, 3) := by decide +kernel
theorem dX3_spell_5 : decode cX3_spell 5 = .ok (.aload_n 0, 1) := by decide +kernel
theorem dX3_spell_6 : decode cX3_spell 6 = .ok (.aload_n 1, 1) := by decide +kernel
theorem dX3_spell_7 : decode cX3_spell 7 = .ok (.getfield 19, 3) := by decide +kernel
theorem dX3_spell_10 : decode cX3_spell 10 = .ok (.iload_n 2, 1) := by decide +kernel
theorem dX3_spell_11 : decode cX3_spell 11 = .ok (.invokevirtual 25, 3) := by decide +kernel
theorem dX3_spell_14 : decode cX3_spell 14 = .ok (.aload_n 1, 1) := by decide +kernel
theorem dX3_spell_15 : decode cX3_spell 15 = .ok (.getfield 29, 3) := by decide +kernel
theorem dX3_spell_18 : decode cX3_spell 18 = .ok (.ifCond .eq 9, 3) := by decide +kernel
theorem dX3_spell_21 : decode cX3_spell 21 = .ok (.aload_n 0, 1) := by decide +kernel
theorem dX3_spell_22 : decode cX3_spell 22 = .ok (.bipush 45, 2) := by decide +kernel
theorem dX3_spell_24 : decode cX3_spell 24 = .ok (.invokevirtual 33, 3) := by decide +kernel
theorem dX3_spell_27 : decode cX3_spell 27 = .ok (.aload_n 0, 1) := by decide +kernel
theorem dX3_spell_28 : decode cX3_spell 28 = .ok (.invokevirtual 37, 3) := by decide +kernel
theorem dX3_spell_31 : decode cX3_spell 31 = .ok (.return_, 1) := by decide +kernel
set_option maxRecDepth 20000 in
theorem ggX3_appendDigitsBackwards_X2_isZero : GoodIn wsX3_appendDigitsBackwards wsX2_isZero := goodIn_r _ [5, 6, 40, 41] (by decide +kernel) (by decide +kernel)
set_option maxRecDepth 20000 in
theorem gX3_appendDigitsBackwards_X2_isZero : GoodIn wsX3_appendDigitsBackwards (wsV RX3 40 RX2 yX2_isZero wsX2_isZero) := goodIn_app (goodIn_of _ (by decide +kernel)) ggX3_appendDigitsBackwards_X2_isZero
set_option maxRecDepth 20000 in
theorem ggX3_appendDigitsBackwards_X3_append : GoodIn wsX3_appendDigitsBackwards wsX3_append := goodIn_r _ [11, 12, 13, 42, 43] (by decide +kernel) (by decide +kernel)
set_option maxRecDepth 20000 in
theorem gX3_appendDigitsBackwards_X3_append : GoodIn wsX3_appendDigitsBackwards (wsV RX3 33 RX3 yX3_append wsX3_append) := goodIn_app (goodIn_of _ (by decide +kernel)) ggX3_appendDigitsBackwards_X3_append
set_option maxRecDepth 20000 in
theorem ggX3_appendDigitsBackwards_X3_digitsInLimb : GoodIn wsX3_appendDigitsBackwards wsX3_digitsInLimb := goodIn_r _ [16, 17] (by decide +kernel) (by decide +kernel)
set_option maxRecDepth 20000 in
theorem gX3_appendDigitsBackwards_X3_digitsInLimb : GoodIn wsX3_appendDigitsBackwards (va_wsS RX3 46 yX3_digitsInLimb wsX3_digitsInLimb) := goodIn_app (goodIn_of _ (by decide +kernel)) ggX3_appendDigitsBackwards_X3_digitsInLimb
set_option maxRecDepth 20000 in
theorem ggX3_appendDigitsBackwards_X3_powerOf : GoodIn wsX3_appendDigitsBackwards wsX3_powerOf := goodIn_r _ [20] (by decide +kernel) (by decide +kernel)
set_option maxRecDepth 20000 in
theorem gX3_appendDigitsBackwards_X3_powerOf : GoodIn wsX3_appendDigitsBackwards (va_wsS RX3 50 yX3_powerOf wsX3_powerOf) := goodIn_app (goodIn_of _ (by decide +kernel)) ggX3_appendDigitsBackwards_X3_powerOf
set_option maxRecDepth 20000 in
theorem ggX3_appendDigitsBackwards_X2_cutBy : GoodIn wsX3_appendDigitsBackwards wsX2_cutBy := goodIn_r _ [24, 6, 25, 26, 27, 28, 4, 29, 30, 31, 32, 33, 34, 35, 36, 40, 41] (by decide +kernel) (by decide +kernel)
set_option maxRecDepth 20000 in
theorem gX3_appendDigitsBackwards_X2_cutBy : GoodIn wsX3_appendDigitsBackwards (wsV RX3 54 RX2 yX2_cutBy wsX2_cutBy) := goodIn_app (goodIn_of _ (by decide +kernel)) ggX3_appendDigitsBackwards_X2_cutBy
set_option maxRecDepth 20000 in
theorem ggX3_appendDigitsBackwards_X3_letterOf : GoodIn wsX3_appendDigitsBackwards wsX3_letterOf := goodIn_r _ [39] (by decide +kernel) (by decide +kernel)
set_option maxRecDepth 20000 in
theorem gX3_appendDigitsBackwards_X3_letterOf : GoodIn wsX3_appendDigitsBackwards (va_wsS RX3 57 yX3_letterOf wsX3_letterOf) := goodIn_app (goodIn_of _ (by decide +kernel)) ggX3_appendDigitsBackwards_X3_letterOf
theorem dX3_appendDigitsBackwards_0 : decode cX3_appendDigitsBackwards 0 = .ok (.aload_n 1, 1) := by decide +kernel
theorem dX3_appendDigitsBackwards_1 : decode cX3_appendDigitsBackwards 1 = .ok (.invokevirtual 40, 3) := by decide +kernel
theorem dX3_appendDigitsBackwards_4 : decode cX3_appendDigitsBackwards 4 = .ok (.ifCond .eq 9, 3) := by decide +kernel
theorem dX3_appendDigitsBackwards_7 : decode cX3_appendDigitsBackwards 7 = .ok (.aload_n 0, 1) := by decide +kernel
theorem dX3_appendDigitsBackwards_8 : decode cX3_appendDigitsBackwards 8 = .ok (.bipush 48, 2) := by decide +kernel
theorem dX3_appendDigitsBackwards_10 : decode cX3_appendDigitsBackwards 10 = .ok (.invokevirtual 33, 3) := by decide +kernel
theorem dX3_appendDigitsBackwards_13 : decode cX3_appendDigitsBackwards 13 = .ok (.iload_n 2, 1) := by decide +kernel
theorem dX3_appendDigitsBackwards_14 : decode cX3_appendDigitsBackwards 14 = .ok (.iconst 2, 1) := by decide +kernel
theorem dX3_appendDigitsBackwards_15 : decode cX3_appendDigitsBackwards 15 = .ok (.if_icmp .ge 4, 3) := by decide +kernel
theorem dX3_appendDigitsBackwards_18 : decode cX3_appendDigitsBackwards 18 = .ok (.return_, 1) := by decide +kernel
theorem dX3_appendDigitsBackwards_19 : decode cX3_appendDigitsBackwards 19 = .ok (.iload_n 2, 1) := by decide +kernel
theorem dX3_appendDigitsBackwards_20 : decode cX3_appendDigitsBackwards 20 = .ok (.invokestatic 46, 3) := by decide +kernel
theorem dX3_appendDigitsBackwards_23 : decode cX3_appendDigitsBackwards 23 = .ok (.istore_n 3, 1) := by decide +kernel
theorem dX3_appendDigitsBackwards_24 : decode cX3_appendDigitsBackwards 24 = .ok (.iload_n 2, 1) := by decide +kernel
theorem dX3_appendDigitsBackwards_25 : decode cX3_appendDigitsBackwards 25 = .ok (.iload_n 3, 1) := by decide +kernel
theorem dX3_appendDigitsBackwards_26 : decode cX3_appendDigitsBackwards 26 = .ok (.invokestatic 50, 3) := by decide +kernel
theorem dX3_appendDigitsBackwards_29 : decode cX3_appendDigitsBackwards 29 = .ok (.istore 4, 2) := by decide +kernel
theorem dX3_appendDigitsBackwards_31 : decode cX3_appendDigitsBackwards 31 = .ok (.iconst 0, 1) := by decide +kernel
theorem dX3_appendDigitsBackwards_32 : decode cX3_appendDigitsBackwards 32 = .ok (.istore 5, 2) := by decide +kernel
theorem dX3_appendDigitsBackwards_34 : decode cX3_appendDigitsBackwards 34 = .ok (.iload 5, 2) := by decide +kernel
theorem dX3_appendDigitsBackwards_36 : decode cX3_appendDigitsBackwards 36 = .ok (.sipush 4096, 3) := by decide +kernel
theorem dX3_appendDigitsBackwards_39 : decode cX3_appendDigitsBackwards 39 = .ok (.if_icmp .ge 68, 3) := by decide +kernel
theorem dX3_appendDigitsBackwards_42 : decode cX3_appendDigitsBackwards 42 = .ok (.aload_n 1, 1) := by decide +kernel
theorem dX3_appendDigitsBackwards_43 : decode cX3_appendDigitsBackwards 43 = .ok (.invokevirtual 40, 3) := by decide +kernel
theorem dX3_appendDigitsBackwards_46 : decode cX3_appendDigitsBackwards 46 = .ok (.ifCond .ne 61, 3) := by decide +kernel
theorem dX3_appendDigitsBackwards_49 : decode cX3_appendDigitsBackwards 49 = .ok (.aload_n 1, 1) := by decide +kernel
theorem dX3_appendDigitsBackwards_50 : decode cX3_appendDigitsBackwards 50 = .ok (.iload 4, 2) := by decide +kernel
theorem dX3_appendDigitsBackwards_52 : decode cX3_appendDigitsBackwards 52 = .ok (.invokevirtual 54, 3) := by decide +kernel
theorem dX3_appendDigitsBackwards_55 : decode cX3_appendDigitsBackwards 55 = .ok (.istore 6, 2) := by decide +kernel
theorem dX3_appendDigitsBackwards_57 : decode cX3_appendDigitsBackwards 57 = .ok (.iconst 0, 1) := by decide +kernel
theorem dX3_appendDigitsBackwards_58 : decode cX3_appendDigitsBackwards 58 = .ok (.istore 7, 2) := by decide +kernel
theorem dX3_appendDigitsBackwards_60 : decode cX3_appendDigitsBackwards 60 = .ok (.iload 7, 2) := by decide +kernel
theorem dX3_appendDigitsBackwards_62 : decode cX3_appendDigitsBackwards 62 = .ok (.iload_n 3, 1) := by decide +kernel
theorem dX3_appendDigitsBackwards_63 : decode cX3_appendDigitsBackwards 63 = .ok (.if_icmp .ge 38, 3) := by decide +kernel
theorem dX3_appendDigitsBackwards_66 : decode cX3_appendDigitsBackwards 66 = .ok (.iload 6, 2) := by decide +kernel
theorem dX3_appendDigitsBackwards_68 : decode cX3_appendDigitsBackwards 68 = .ok (.ifCond .gt 10, 3) := by decide +kernel
theorem dX3_appendDigitsBackwards_71 : decode cX3_appendDigitsBackwards 71 = .ok (.aload_n 1, 1) := by decide +kernel
theorem dX3_appendDigitsBackwards_72 : decode cX3_appendDigitsBackwards 72 = .ok (.invokevirtual 40, 3) := by decide +kernel
theorem dX3_appendDigitsBackwards_75 : decode cX3_appendDigitsBackwards 75 = .ok (.ifCond .ne 26, 3) := by decide +kernel
theorem dX3_appendDigitsBackwards_78 : decode cX3_appendDigitsBackwards 78 = .ok (.aload_n 0, 1) := by decide +kernel
theorem dX3_appendDigitsBackwards_79 : decode cX3_appendDigitsBackwards 79 = .ok (.iload 6, 2) := by decide +kernel
theorem dX3_appendDigitsBackwards_81 : decode cX3_appendDigitsBackwards 81 = .ok (.iload_n 2, 1) := by decide +kernel
theorem dX3_appendDigitsBackwards_82 : decode cX3_appendDigitsBackwards 82 = .ok (.irem, 1) := by decide +kernel
theorem dX3_appendDigitsBackwards_83 : decode cX3_appendDigitsBackwards 83 = .ok (.invokestatic 57, 3) := by decide +kernel
theorem dX3_appendDigitsBackwards_86 : decode cX3_appendDigitsBackwards 86 = .ok (.invokevirtual 33, 3) := by decide +kernel
theorem dX3_appendDigitsBackwards_89 : decode cX3_appendDigitsBackwards 89 = .ok (.iload 6, 2) := by decide +kernel
theorem dX3_appendDigitsBackwards_91 : decode cX3_appendDigitsBackwards 91 = .ok (.iload_n 2, 1) := by decide +kernel
theorem dX3_appendDigitsBackwards_92 : decode cX3_appendDigitsBackwards 92 = .ok (.idiv, 1) := by decide +kernel
theorem dX3_appendDigitsBackwards_93 : decode cX3_appendDigitsBackwards 93 = .ok (.istore 6, 2) := by decide +kernel
theorem dX3_appendDigitsBackwards_95 : decode cX3_appendDigitsBackwards 95 = .ok (.iinc 7 1, 3) := by decide +kernel
theorem dX3_appendDigitsBackwards_98 : decode cX3_appendDigitsBackwards 98 = .ok (.goto (-38), 3) := by decide +kernel
theorem dX3_appendDigitsBackwards_101 : decode cX3_appendDigitsBackwards 101 = .ok (.iinc 5 1, 3) := by decide +kernel
theorem dX3_appendDigitsBackwards_104 : decode cX3_appendDigitsBackwards 104 = .ok (.goto (-70), 3) := by decide +kernel
theorem dX3_appendDigitsBackwards_107 : decode cX3_appendDigitsBackwards 107 = .ok (.return_, 1) := by decide +kernel
theorem dX3_reverse_0 : decode cX3_reverse 0 = .ok (.iconst 0, 1) := by decide +kernel
theorem dX3_reverse_1 : decode cX3_reverse 1 = .ok (.istore_n 1, 1) := by decide +kernel
theorem dX3_reverse_2 : decode cX3_reverse 2 = .ok (.aload_n 0, 1) := by decide +kernel
theorem dX3_reverse_3 : decode cX3_reverse 3 = .ok (.getfield 15, 3) := by decide +kernel
theorem dX3_reverse_6 : decode cX3_reverse 6 = .ok (.iconst 1, 1) := by decide +kernel
theorem dX3_reverse_7 : decode cX3_reverse 7 = .ok (.isub, 1) := by decide +kernel
theorem dX3_reverse_8 : decode cX3_reverse 8 = .ok (.istore_n 2, 1) := by decide +kernel
theorem dX3_reverse_9 : decode cX3_reverse 9 = .ok (.iload_n 1, 1) := by decide +kernel
theorem dX3_reverse_10 : decode cX3_reverse 10 = .ok (.iload_n 2, 1) := by decide +kernel
theorem dX3_reverse_11 : decode cX3_reverse 11 = .ok (.if_icmp .ge 38, 3) := by decide +kernel
theorem dX3_reverse_14 : decode cX3_reverse 14 = .ok (.aload_n 0, 1) := by decide +kernel
theorem dX3_reverse_15 : decode cX3_reverse 15 = .ok (.getfield 9, 3) := by decide +kernel
theorem dX3_reverse_18 : decode cX3_reverse 18 = .ok (.iload_n 1, 1) := by decide +kernel
theorem dX3_reverse_19 : decode cX3_reverse 19 = .ok (.caload, 1) := by decide +kernel
theorem dX3_reverse_20 : decode cX3_reverse 20 = .ok (.istore_n 3, 1) := by decide +kernel
theorem dX3_reverse_21 : decode cX3_reverse 21 = .ok (.aload_n 0, 1) := by decide +kernel
theorem dX3_reverse_22 : decode cX3_reverse 22 = .ok (.getfield 9, 3) := by decide +kernel
theorem dX3_reverse_25 : decode cX3_reverse 25 = .ok (.iload_n 1, 1) := by decide +kernel
theorem dX3_reverse_26 : decode cX3_reverse 26 = .ok (.aload_n 0, 1) := by decide +kernel
theorem dX3_reverse_27 : decode cX3_reverse 27 = .ok (.getfield 9, 3) := by decide +kernel
theorem dX3_reverse_30 : decode cX3_reverse 30 = .ok (.iload_n 2, 1) := by decide +kernel
theorem dX3_reverse_31 : decode cX3_reverse 31 = .ok (.caload, 1) := by decide +kernel
theorem dX3_reverse_32 : decode cX3_reverse 32 = .ok (.castore, 1) := by decide +kernel
theorem dX3_reverse_33 : decode cX3_reverse 33 = .ok (.aload_n 0, 1) := by decide +kernel
theorem dX3_reverse_34 : decode cX3_reverse 34 = .ok (.getfield 9, 3) := by decide +kernel
theorem dX3_reverse_37 : decode cX3_reverse 37 = .ok (.iload_n 2, 1) := by decide +kernel
theorem dX3_reverse_38 : decode cX3_reverse 38 = .ok (.iload_n 3, 1) := by decide +kernel
theorem dX3_reverse_39 : decode cX3_reverse 39 = .ok (.castore, 1) := by decide +kernel
theorem dX3_reverse_40 : decode cX3_reverse 40 = .ok (.iinc 1 1, 3) := by decide +kernel
theorem dX3_reverse_43 : decode cX3_reverse 43 = .ok (.iinc 2 (-1), 3) := by decide +kernel
theorem dX3_reverse_46 : decode cX3_reverse 46 = .ok (.goto (-37), 3) := by decide +kernel
theorem dX3_reverse_49 : decode cX3_reverse 49 = .ok (.return_, 1) := by decide +kernel
theorem dX3_firstDigit_0 : decode cX3_firstDigit 0 = .ok (.aload_n 0, 1) := by decide +kernel
theorem dX3_firstDigit_1 : decode cX3_firstDigit 1 = .ok (.getfield 15, 3) := by decide +kernel
theorem dX3_firstDigit_4 : decode cX3_firstDigit 4 = .ok (.ifCond .le 18, 3) := by decide +kernel
theorem dX3_firstDigit_7 : decode cX3_firstDigit 7 = .ok (.aload_n 0, 1) := by decide +kernel
theorem dX3_firstDigit_8 : decode cX3_firstDigit 8 = .ok (.getfield 9, 3) := by decide +kernel
theorem dX3_firstDigit_11 : decode cX3_firstDigit 11 = .ok (.iconst 0, 1) := by decide +kernel
theorem dX3_firstDigit_12 : decode cX3_firstDigit 12 = .ok (.caload, 1) := by decide +kernel
theorem dX3_firstDigit_13 : decode cX3_firstDigit 13 = .ok (.bipush 45, 2) := by decide +kernel
theorem dX3_firstDigit_15 : decode cX3_firstDigit 15 = .ok (.if_icmp .ne 7, 3) := by decide +kernel
theorem dX3_firstDigit_18 : decode cX3_firstDigit 18 = .ok (.iconst 1, 1) := by decide +kernel
theorem dX3_firstDigit_19 : decode cX3_firstDigit 19 = .ok (.goto 4, 3) := by decide +kernel
theorem dX3_firstDigit_22 : decode cX3_firstDigit 22 = .ok (.iconst 0, 1) := by decide +kernel
theorem dX3_firstDigit_23 : decode cX3_firstDigit 23 = .ok (.ireturn, 1) := by decide +kernel
set_option maxRecDepth 20000 in
theorem ggX3_tellsNumber_X3_firstDigit : GoodIn wsX3_tellsNumber wsX3_firstDigit := goodIn_r _ [7, 1, 2, 11, 12] (by decide +kernel) (by decide +kernel)
set_option maxRecDepth 20000 in
theorem gX3_tellsNumber_X3_firstDigit : GoodIn wsX3_tellsNumber (wsV RX3 61 RX3 yX3_firstDigit wsX3_firstDigit) := goodIn_app (goodIn_of _ (by decide +kernel)) ggX3_tellsNumber_X3_firstDigit
set_option maxRecDepth 20000 in
theorem ggX3_tellsNumber_X3_digitOf : GoodIn wsX3_tellsNumber wsX3_digitOf := goodIn_r _ [10] (by decide +kernel) (by decide +kernel)
set_option maxRecDepth 20000 in
theorem gX3_tellsNumber_X3_digitOf : GoodIn wsX3_tellsNumber (va_wsS RX3 65 yX3_digitOf wsX3_digitOf) := goodIn_app (goodIn_of _ (by decide +kernel)) ggX3_tellsNumber_X3_digitOf
theorem dX3_tellsNumber_0 : decode cX3_tellsNumber 0 = .ok (.aload_n 0, 1) := by decide +kernel
theorem dX3_tellsNumber_1 : decode cX3_tellsNumber 1 = .ok (.invokevirtual 61, 3) := by decide +kernel
theorem dX3_tellsNumber_4 : decode cX3_tellsNumber 4 = .ok (.istore_n 2, 1) := by decide +kernel
theorem dX3_tellsNumber_5 : decode cX3_tellsNumber 5 = .ok (.iload_n 2, 1) := by decide +kernel
theorem dX3_tellsNumber_6 : decode cX3_tellsNumber 6 = .ok (.istore_n 3, 1) := by decide +kernel
theorem dX3_tellsNumber_7 : decode cX3_tellsNumber 7 = .ok (.iload_n 3, 1) := by decide +kernel
theorem dX3_tellsNumber_8 : decode cX3_tellsNumber 8 = .ok (.aload_n 0, 1) := by decide +kernel
theorem dX3_tellsNumber_9 : decode cX3_tellsNumber 9 = .ok (.getfield 15, 3) := by decide +kernel
theorem dX3_tellsNumber_12 : decode cX3_tellsNumber 12 = .ok (.if_icmp .ge 33, 3) := by decide +kernel
theorem dX3_tellsNumber_15 : decode cX3_tellsNumber 15 = .ok (.aload_n 0, 1) := by decide +kernel
theorem dX3_tellsNumber_16 : decode cX3_tellsNumber 16 = .ok (.getfield 9, 3) := by decide +kernel
theorem dX3_tellsNumber_19 : decode cX3_tellsNumber 19 = .ok (.iload_n 3, 1) := by decide +kernel
theorem dX3_tellsNumber_20 : decode cX3_tellsNumber 20 = .ok (.caload, 1) := by decide +kernel
theorem dX3_tellsNumber_21 : decode cX3_tellsNumber 21 = .ok (.invokestatic 65, 3) := by decide +kernel
theorem dX3_tellsNumber_24 : decode cX3_tellsNumber 24 = .ok (.istore 4, 2) := by decide +kernel
theorem dX3_tellsNumber_26 : decode cX3_tellsNumber 26 = .ok (.iload 4, 2) := by decide +kernel
theorem dX3_tellsNumber_28 : decode cX3_tellsNumber 28 = .ok (.ifCond .lt 9, 3) := by decide +kernel
theorem dX3_tellsNumber_31 : decode cX3_tellsNumber 31 = .ok (.iload 4, 2) := by decide +kernel
theorem dX3_tellsNumber_33 : decode cX3_tellsNumber 33 = .ok (.iload_n 1, 1) := by decide +kernel
theorem dX3_tellsNumber_34 : decode cX3_tellsNumber 34 = .ok (.if_icmp .lt 5, 3) := by decide +kernel
theorem dX3_tellsNumber_37 : decode cX3_tellsNumber 37 = .ok (.iconst 0, 1) := by decide +kernel
theorem dX3_tellsNumber_38 : decode cX3_tellsNumber 38 = .ok (.ireturn, 1) := by decide +kernel
theorem dX3_tellsNumber_39 : decode cX3_tellsNumber 39 = .ok (.iinc 3 1, 3) := by decide +kernel
theorem dX3_tellsNumber_42 : decode cX3_tellsNumber 42 = .ok (.goto (-35), 3) := by decide +kernel
theorem dX3_tellsNumber_45 : decode cX3_tellsNumber 45 = .ok (.aload_n 0, 1) := by decide +kernel
theorem dX3_tellsNumber_46 : decode cX3_tellsNumber 46 = .ok (.getfield 15, 3) := by decide +kernel
theorem dX3_tellsNumber_49 : decode cX3_tellsNumber 49 = .ok (.iload_n 2, 1) := by decide +kernel
theorem dX3_tellsNumber_50 : decode cX3_tellsNumber 50 = .ok (.if_icmp .le 7, 3) := by decide +kernel
theorem dX3_tellsNumber_53 : decode cX3_tellsNumber 53 = .ok (.iconst 1, 1) := by decide +kernel
theorem dX3_tellsNumber_54 : decode cX3_tellsNumber 54 = .ok (.goto 4, 3) := by decide +kernel
theorem dX3_tellsNumber_57 : decode cX3_tellsNumber 57 = .ok (.iconst 0, 1) := by decide +kernel
theorem dX3_tellsNumber_58 : decode cX3_tellsNumber 58 = .ok (.ireturn, 1) := by decide +kernel
set_option maxRecDepth 20000 in
theorem ggX3_tell_X4_takeLong : GoodIn wsX3_tell wsX4_takeLong := goodIn_r _ [14, 15, 16, 17, 18, 19, 20, 21, 22, 23, 24, 25, 26, 27, 28, 8, 3, 9, 29, 2, 4, 30, 82, 83, 84, 85] (by decide +kernel) (by decide +kernel)
set_option maxRecDepth 20000 in
theorem gX3_tell_X4_takeLong : GoodIn wsX3_tell (wsV RX3 69 RX4 yX4_takeLong wsX4_takeLong) := goodIn_app (goodIn_of _ (by decide +kernel)) ggX3_tell_X4_takeLong
set_option maxRecDepth 20000 in
theorem ggX3_tell_X3_digitsInLimb : GoodIn wsX3_tell wsX3_digitsInLimb := goodIn_r _ [34, 35] (by decide +kernel) (by decide +kernel)
set_option maxRecDepth 20000 in
theorem gX3_tell_X3_digitsInLimb : GoodIn wsX3_tell (va_wsS RX3 46 yX3_digitsInLimb wsX3_digitsInLimb) := goodIn_app (goodIn_of _ (by decide +kernel)) ggX3_tell_X3_digitsInLimb
set_option maxRecDepth 20000 in
theorem ggX3_tell_X3_firstDigit : GoodIn wsX3_tell wsX3_firstDigit := goodIn_r _ [39, 5, 40, 80, 81] (by decide +kernel) (by decide +kernel)
set_option maxRecDepth 20000 in
theorem gX3_tell_X3_firstDigit : GoodIn wsX3_tell (wsV RX3 61 RX3 yX3_firstDigit wsX3_firstDigit) := goodIn_app (goodIn_of _ (by decide +kernel)) ggX3_tell_X3_firstDigit
set_option maxRecDepth 20000 in
theorem ggX3_tell_X2_bitLength : GoodIn wsX3_tell wsX2_bitLength := goodIn_r _ [44, 30, 45, 46, 47, 20, 48, 49, 50, 51, 52, 22, 53, 54, 55, 56, 57, 84, 85] (by decide +kernel) (by decide +kernel)
set_option maxRecDepth 20000 in
theorem gX3_tell_X2_bitLength : GoodIn wsX3_tell (wsV RX3 78 RX2 yX2_bitLength wsX2_bitLength) := goodIn_app (goodIn_of _ (by decide +kernel)) ggX3_tell_X2_bitLength
set_option maxRecDepth 20000 in
theorem ggX3_tell_X3_powerOf : GoodIn wsX3_tell wsX3_powerOf := goodIn_r _ [60] (by decide +kernel) (by decide +kernel)
set_option maxRecDepth 20000 in
theorem gX3_tell_X3_powerOf : GoodIn wsX3_tell (va_wsS RX3 50 yX3_powerOf wsX3_powerOf) := goodIn_app (goodIn_of _ (by decide +kernel)) ggX3_tell_X3_powerOf
set_option maxRecDepth 20000 in
theorem ggX3_tell_X3_pieceBetween : GoodIn wsX3_tell wsX3_pieceBetween := goodIn_r _ [64, 40, 65, 66, 33, 67, 80, 81] (by decide +kernel) (by decide +kernel)
set_option maxRecDepth 20000 in
theorem gX3_tell_X3_pieceBetween : GoodIn wsX3_tell (wsV RX3 84 RX3 yX3_pieceBetween wsX3_pieceBetween) := goodIn_app (goodIn_of _ (by decide +kernel)) ggX3_tell_X3_pieceBetween
set_option maxRecDepth 20000 in
theorem ggX3_tell_X2_timesPlus : GoodIn wsX3_tell wsX2_timesPlus := goodIn_r _ [71, 30, 22, 23, 24, 25, 26, 20, 27, 28, 8, 3, 9, 29, 2, 4, 84, 85] (by decide +kernel) (by decide +kernel)
set_option maxRecDepth 20000 in
theorem gX3_tell_X2_timesPlus : GoodIn wsX3_tell (wsV RX3 88 RX2 yX2_timesPlus wsX2_timesPlus) := goodIn_app (goodIn_of _ (by decide +kernel)) ggX3_tell_X2_timesPlus
set_option maxRecDepth 20000 in
theorem ggX3_tell_X4_takeSign : GoodIn wsX3_tell wsX4_takeSign := goodIn_r _ [75, 15, 16, 76, 77, 78, 20, 79, 30, 82, 83, 84, 85] (by decide +kernel) (by decide +kernel)
set_option maxRecDepth 20000 in
theorem gX3_tell_X4_takeSign : GoodIn wsX3_tell (wsV RX3 92 RX4 yX4_takeSign wsX4_takeSign) := goodIn_app (goodIn_of _ (by decide +kernel)) ggX3_tell_X4_takeSign
theorem dX3_tell_0 : decode cX3_tell 0 = .ok (.aload_n 1, 1) := by decide +kernel
theorem dX3_tell_1 : decode cX3_tell 1 = .ok (.lconst 0, 1) := by decide +kernel
theorem dX3_tell_2 : decode cX3_tell 2 = .ok (.invokevirtual 69, 3) := by decide +kernel
theorem dX3_tell_5 : decode cX3_tell 5 = .ok (.iload_n 2, 1) := by decide +kernel
theorem dX3_tell_6 : decode cX3_tell 6 = .ok (.invokestatic 46, 3) := by decide +kernel
theorem dX3_tell_9 : decode cX3_tell 9 = .ok (.iconst 1, 1) := by decide +kernel
theorem dX3_tell_10 : decode cX3_tell 10 = .ok (.invokestatic 73, 3) := by decide +kernel
theorem dX3_tell_13 : decode cX3_tell 13 = .ok (.istore_n 3, 1) := by decide +kernel
theorem dX3_tell_14 : decode cX3_tell 14 = .ok (.aload_n 0, 1) := by decide +kernel
theorem dX3_tell_15 : decode cX3_tell 15 = .ok (.invokevirtual 61, 3) := by decide +kernel
theorem dX3_tell_18 : decode cX3_tell 18 = .ok (.istore 4, 2) := by decide +kernel
theorem dX3_tell_20 : decode cX3_tell 20 = .ok (.iload 4, 2) := by decide +kernel
theorem dX3_tell_22 : decode cX3_tell 22 = .ok (.istore 5, 2) := by decide +kernel
theorem dX3_tell_24 : decode cX3_tell 24 = .ok (.iload 5, 2) := by decide +kernel
theorem dX3_tell_26 : decode cX3_tell 26 = .ok (.aload_n 0, 1) := by decide +kernel
theorem dX3_tell_27 : decode cX3_tell 27 = .ok (.getfield 15, 3) := by decide +kernel
theorem dX3_tell_30 : decode cX3_tell 30 = .ok (.if_icmp .ge 63, 3) := by decide +kernel
theorem dX3_tell_33 : decode cX3_tell 33 = .ok (.aload_n 1, 1) := by decide +kernel
theorem dX3_tell_34 : decode cX3_tell 34 = .ok (.getfield 19, 3) := by decide +kernel
theorem dX3_tell_37 : decode cX3_tell 37 = .ok (.invokevirtual 78, 3) := by decide +kernel
theorem dX3_tell_40 : decode cX3_tell 40 = .ok (.sipush 4096, 3) := by decide +kernel
theorem dX3_tell_43 : decode cX3_tell 43 = .ok (.if_icmp .gt 50, 3) := by decide +kernel
theorem dX3_tell_46 : decode cX3_tell 46 = .ok (.iload 5, 2) := by decide +kernel
theorem dX3_tell_48 : decode cX3_tell 48 = .ok (.iload_n 3, 1) := by decide +kernel
theorem dX3_tell_49 : decode cX3_tell 49 = .ok (.iadd, 1) := by decide +kernel
theorem dX3_tell_50 : decode cX3_tell 50 = .ok (.aload_n 0, 1) := by decide +kernel
theorem dX3_tell_51 : decode cX3_tell 51 = .ok (.getfield 15, 3) := by decide +kernel
theorem dX3_tell_54 : decode cX3_tell 54 = .ok (.invokestatic 81, 3) := by decide +kernel
theorem dX3_tell_57 : decode cX3_tell 57 = .ok (.istore 6, 2) := by decide +kernel
theorem dX3_tell_59 : decode cX3_tell 59 = .ok (.aload_n 1, 1) := by decide +kernel
theorem dX3_tell_60 : decode cX3_tell 60 = .ok (.getfield 19, 3) := by decide +kernel
theorem dX3_tell_63 : decode cX3_tell 63 = .ok (.iload_n 2, 1) := by decide +kernel
theorem dX3_tell_64 : decode cX3_tell 64 = .ok (.iload 6, 2) := by decide +kernel
theorem dX3_tell_66 : decode cX3_tell 66 = .ok (.iload 5, 2) := by decide +kernel
theorem dX3_tell_68 : decode cX3_tell 68 = .ok (.isub, 1) := by decide +kernel
theorem dX3_tell_69 : decode cX3_tell 69 = .ok (.invokestatic 50, 3) := by decide +kernel
theorem dX3_tell_72 : decode cX3_tell 72 = .ok (.aload_n 0, 1) := by decide +kernel
theorem dX3_tell_73 : decode cX3_tell 73 = .ok (.iload 5, 2) := by decide +kernel
theorem dX3_tell_75 : decode cX3_tell 75 = .ok (.iload 6, 2) := by decide +kernel
theorem dX3_tell_77 : decode cX3_tell 77 = .ok (.iload_n 2, 1) := by decide +kernel
theorem dX3_tell_78 : decode cX3_tell 78 = .ok (.invokevirtual 84, 3) := by decide +kernel
theorem dX3_tell_81 : decode cX3_tell 81 = .ok (.invokevirtual 88, 3) := by decide +kernel
theorem dX3_tell_84 : decode cX3_tell 84 = .ok (.iload 5, 2) := by decide +kernel
theorem dX3_tell_86 : decode cX3_tell 86 = .ok (.iload_n 3, 1) := by decide +kernel
theorem dX3_tell_87 : decode cX3_tell 87 = .ok (.iadd, 1) := by decide +kernel
theorem dX3_tell_88 : decode cX3_tell 88 = .ok (.istore 5, 2) := by decide +kernel
theorem dX3_tell_90 : decode cX3_tell 90 = .ok (.goto (-66), 3) := by decide +kernel
theorem dX3_tell_93 : decode cX3_tell 93 = .ok (.aload_n 1, 1) := by decide +kernel
theorem dX3_tell_94 : decode cX3_tell 94 = .ok (.iload 4, 2) := by decide +kernel
theorem dX3_tell_96 : decode cX3_tell 96 = .ok (.iconst 1, 1) := by decide +kernel
theorem dX3_tell_97 : decode cX3_tell 97 = .ok (.if_icmp .ne 7, 3) := by decide +kernel
theorem dX3_tell_100 : decode cX3_tell 100 = .ok (.iconst 1, 1) := by decide +kernel
theorem dX3_tell_101 : decode cX3_tell 101 = .ok (.goto 4, 3) := by decide +kernel
theorem dX3_tell_104 : decode cX3_tell 104 = .ok (.iconst 0, 1) := by decide +kernel
theorem dX3_tell_105 : decode cX3_tell 105 = .ok (.invokevirtual 92, 3) := by decide +kernel
theorem dX3_tell_108 : decode cX3_tell 108 = .ok (.return_, 1) := by decide +kernel
set_option maxRecDepth 20000 in
theorem ggX3_pieceBetween_X3_digitOf : GoodIn wsX3_pieceBetween wsX3_digitOf := goodIn_r _ [5] (by decide +kernel) (by decide +kernel)
set_option maxRecDepth 20000 in
theorem gX3_pieceBetween_X3_digitOf : GoodIn wsX3_pieceBetween (va_wsS RX3 65 yX3_digitOf wsX3_digitOf) := goodIn_app (goodIn_of _ (by decide +kernel)) ggX3_pieceBetween_X3_digitOf
theorem dX3_pieceBetween_0 : decode cX3_pieceBetween 0 = .ok (.iconst 0, 1) := by decide +kernel
theorem dX3_pieceBetween_1 : decode cX3_pieceBetween 1 = .ok (.istore 4, 2) := by decide +kernel
theorem dX3_pieceBetween_3 : decode cX3_pieceBetween 3 = .ok (.iload_n 1, 1) := by decide +kernel
theorem dX3_pieceBetween_4 : decode cX3_pieceBetween 4 = .ok (.istore 5, 2) := by decide +kernel
theorem dX3_pieceBetween_6 : decode cX3_pieceBetween 6 = .ok (.iload 5, 2) := by decide +kernel
theorem dX3_pieceBetween_8 : decode cX3_pieceBetween 8 = .ok (.iload_n 2, 1) := by decide +kernel
theorem dX3_pieceBetween_9 : decode cX3_pieceBetween 9 = .ok (.if_icmp .ge 26, 3) := by decide +kernel
theorem dX3_pieceBetween_12 : decode cX3_pieceBetween 12 = .ok (.iload 4, 2) := by decide +kernel
theorem dX3_pieceBetween_14 : decode cX3_pieceBetween 14 = .ok (.iload_n 3, 1) := by decide +kernel
theorem dX3_pieceBetween_15 : decode cX3_pieceBetween 15 = .ok (.imul, 1) := by decide +kernel
theorem dX3_pieceBetween_16 : decode cX3_pieceBetween 16 = .ok (.aload_n 0, 1) := by decide +kernel
theorem dX3_pieceBetween_17 : decode cX3_pieceBetween 17 = .ok (.getfield 9, 3) := by decide +kernel
theorem dX3_pieceBetween_20 : decode cX3_pieceBetween 20 = .ok (.iload 5, 2) := by decide +kernel
theorem dX3_pieceBetween_22 : decode cX3_pieceBetween 22 = .ok (.caload, 1) := by decide +kernel
theorem dX3_pieceBetween_23 : decode cX3_pieceBetween 23 = .ok (.invokestatic 65, 3) := by decide +kernel
theorem dX3_pieceBetween_26 : decode cX3_pieceBetween 26 = .ok (.iadd, 1) := by decide +kernel
theorem dX3_pieceBetween_27 : decode cX3_pieceBetween 27 = .ok (.istore 4, 2) := by decide +kernel
theorem dX3_pieceBetween_29 : decode cX3_pieceBetween 29 = .ok (.iinc 5 1, 3) := by decide +kernel
theorem dX3_pieceBetween_32 : decode cX3_pieceBetween 32 = .ok (.goto (-26), 3) := by decide +kernel
theorem dX3_pieceBetween_35 : decode cX3_pieceBetween 35 = .ok (.iload 4, 2) := by decide +kernel
theorem dX3_pieceBetween_37 : decode cX3_pieceBetween 37 = .ok (.ireturn, 1) := by decide +kernel
theorem dX3_digitsInLimb_0 : decode cX3_digitsInLimb 0 = .ok (.iconst 0, 1) := by decide +kernel
theorem dX3_digitsInLimb_1 : decode cX3_digitsInLimb 1 = .ok (.istore_n 1, 1) := by decide +kernel
theorem dX3_digitsInLimb_2 : decode cX3_digitsInLimb 2 = .ok (.iload_n 0, 1) := by decide +kernel
theorem dX3_digitsInLimb_3 : decode cX3_digitsInLimb 3 = .ok (.i2l, 1) := by decide +kernel
theorem dX3_digitsInLimb_4 : decode cX3_digitsInLimb 4 = .ok (.lstore_n 2, 1) := by decide +kernel
theorem dX3_digitsInLimb_5 : decode cX3_digitsInLimb 5 = .ok (.iconst 0, 1) := by decide +kernel
theorem dX3_digitsInLimb_6 : decode cX3_digitsInLimb 6 = .ok (.istore 4, 2) := by decide +kernel
theorem dX3_digitsInLimb_8 : decode cX3_digitsInLimb 8 = .ok (.iload 4, 2) := by decide +kernel
theorem dX3_digitsInLimb_10 : decode cX3_digitsInLimb 10 = .ok (.bipush 30, 2) := by decide +kernel
theorem dX3_digitsInLimb_12 : decode cX3_digitsInLimb 12 = .ok (.if_icmp .ge 25, 3) := by decide +kernel
theorem dX3_digitsInLimb_15 : decode cX3_digitsInLimb 15 = .ok (.lload_n 2, 1) := by decide +kernel
theorem dX3_digitsInLimb_16 : decode cX3_digitsInLimb 16 = .ok (.ldc2_w 96, 3) := by decide +kernel
theorem dX3_digitsInLimb_19 : decode cX3_digitsInLimb 19 = .ok (.lcmp, 1) := by decide +kernel
theorem dX3_digitsInLimb_20 : decode cX3_digitsInLimb 20 = .ok (.ifCond .gt 17, 3) := by decide +kernel
theorem dX3_digitsInLimb_23 : decode cX3_digitsInLimb 23 = .ok (.lload_n 2, 1) := by decide +kernel
theorem dX3_digitsInLimb_24 : decode cX3_digitsInLimb 24 = .ok (.iload_n 0, 1) := by decide +kernel
theorem dX3_digitsInLimb_25 : decode cX3_digitsInLimb 25 = .ok (.i2l, 1) := by decide +kernel
theorem dX3_digitsInLimb_26 : decode cX3_digitsInLimb 26 = .ok (.lmul, 1) := by decide +kernel
theorem dX3_digitsInLimb_27 : decode cX3_digitsInLimb 27 = .ok (.lstore_n 2, 1) := by decide +kernel
theorem dX3_digitsInLimb_28 : decode cX3_digitsInLimb 28 = .ok (.iinc 1 1, 3) := by decide +kernel
theorem dX3_digitsInLimb_31 : decode cX3_digitsInLimb 31 = .ok (.iinc 4 1, 3) := by decide +kernel
theorem dX3_digitsInLimb_34 : decode cX3_digitsInLimb 34 = .ok (.goto (-26), 3) := by decide +kernel
theorem dX3_digitsInLimb_37 : decode cX3_digitsInLimb 37 = .ok (.iload_n 1, 1) := by decide +kernel
theorem dX3_digitsInLimb_38 : decode cX3_digitsInLimb 38 = .ok (.ireturn, 1) := by decide +kernel
theorem dX3_powerOf_0 : decode cX3_powerOf 0 = .ok (.iconst 1, 1) := by decide +kernel
theorem dX3_powerOf_1 : decode cX3_powerOf 1 = .ok (.istore_n 2, 1) := by decide +kernel
theorem dX3_powerOf_2 : decode cX3_powerOf 2 = .ok (.iconst 0, 1) := by decide +kernel
theorem dX3_powerOf_3 : decode cX3_powerOf 3 = .ok (.istore_n 3, 1) := by decide +kernel
theorem dX3_powerOf_4 : decode cX3_powerOf 4 = .ok (.iload_n 3, 1) := by decide +kernel
theorem dX3_powerOf_5 : decode cX3_powerOf 5 = .ok (.iload_n 1, 1) := by decide +kernel
theorem dX3_powerOf_6 : decode cX3_powerOf 6 = .ok (.if_icmp .ge 13, 3) := by decide +kernel
theorem dX3_powerOf_9 : decode cX3_powerOf 9 = .ok (.iload_n 2, 1) := by decide +kernel
theorem dX3_powerOf_10 : decode cX3_powerOf 10 = .ok (.iload_n 0, 1) := by decide +kernel
theorem dX3_powerOf_11 : decode cX3_powerOf 11 = .ok (.imul, 1) := by decide +kernel
theorem dX3_powerOf_12 : decode cX3_powerOf 12 = .ok (.istore_n 2, 1) := by decide +kernel
theorem dX3_powerOf_13 : decode cX3_powerOf 13 = .ok (.iinc 3 1, 3) := by decide +kernel
theorem dX3_powerOf_16 : decode cX3_powerOf 16 = .ok (.goto (-12), 3) := by decide +kernel
theorem dX3_powerOf_19 : decode cX3_powerOf 19 = .ok (.iload_n 2, 1) := by decide +kernel
theorem dX3_powerOf_20 : decode cX3_powerOf 20 = .ok (.ireturn, 1) := by decide +kernel
theorem dX3_letterOf_0 : decode cX3_letterOf 0 = .ok (.iload_n 0, 1) := by decide +kernel
theorem dX3_letterOf_1 : decode cX3_letterOf 1 = .ok (.bipush 10, 2) := by decide +kernel
theorem dX3_letterOf_3 : decode cX3_letterOf 3 = .ok (.if_icmp .ge 10, 3) := by decide +kernel
theorem dX3_letterOf_6 : decode cX3_letterOf 6 = .ok (.bipush 48, 2) := by decide +kernel
theorem dX3_letterOf_8 : decode cX3_letterOf 8 = .ok (.iload_n 0, 1) := by decide +kernel
theorem dX3_letterOf_9 : decode cX3_letterOf 9 = .ok (.iadd, 1) := by decide +kernel
theorem dX3_letterOf_10 : decode cX3_letterOf 10 = .ok (.goto 10, 3) := by decide +kernel
theorem dX3_letterOf_13 : decode cX3_letterOf 13 = .ok (.bipush 97, 2) := by decide +kernel
theorem dX3_letterOf_15 : decode cX3_letterOf 15 = .ok (.iload_n 0, 1) := by decide +kernel
theorem dX3_letterOf_16 : decode cX3_letterOf 16 = .ok (.iadd, 1) := by decide +kernel
theorem dX3_letterOf_17 : decode cX3_letterOf 17 = .ok (.bipush 10, 2) := by decide +kernel
theorem dX3_letterOf_19 : decode cX3_letterOf 19 = .ok (.isub, 1) := by decide +kernel
theorem dX3_letterOf_20 : decode cX3_letterOf 20 = .ok (.i2c, 1) := by decide +kernel
theorem dX3_letterOf_21 : decode cX3_letterOf 21 = .ok (.ireturn, 1) := by decide +kernel
theorem dX3_digitOf_0 : decode cX3_digitOf 0 = .ok (.iload_n 0, 1) := by decide +kernel
theorem dX3_digitOf_1 : decode cX3_digitOf 1 = .ok (.bipush 48, 2) := by decide +kernel
theorem dX3_digitOf_3 : decode cX3_digitOf 3 = .ok (.if_icmp .lt 14, 3) := by decide +kernel
theorem dX3_digitOf_6 : decode cX3_digitOf 6 = .ok (.iload_n 0, 1) := by decide +kernel
theorem dX3_digitOf_7 : decode cX3_digitOf 7 = .ok (.bipush 57, 2) := by decide +kernel
theorem dX3_digitOf_9 : decode cX3_digitOf 9 = .ok (.if_icmp .gt 8, 3) := by decide +kernel
theorem dX3_digitOf_12 : decode cX3_digitOf 12 = .ok (.iload_n 0, 1) := by decide +kernel
theorem dX3_digitOf_13 : decode cX3_digitOf 13 = .ok (.bipush 48, 2) := by decide +kernel
theorem dX3_digitOf_15 : decode cX3_digitOf 15 = .ok (.isub, 1) := by decide +kernel
theorem dX3_digitOf_16 : decode cX3_digitOf 16 = .ok (.ireturn, 1) := by decide +kernel
theorem dX3_digitOf_17 : decode cX3_digitOf 17 = .ok (.iload_n 0, 1) := by decide +kernel
theorem dX3_digitOf_18 : decode cX3_digitOf 18 = .ok (.bipush 97, 2) := by decide +kernel
theorem dX3_digitOf_20 : decode cX3_digitOf 20 = .ok (.if_icmp .lt 17, 3) := by decide +kernel
theorem dX3_digitOf_23 : decode cX3_digitOf 23 = .ok (.iload_n 0, 1) := by decide +kernel
theorem dX3_digitOf_24 : decode cX3_digitOf 24 = .ok (.bipush 102, 2) := by decide +kernel
theorem dX3_digitOf_26 : decode cX3_digitOf 26 = .ok (.if_icmp .gt 11, 3) := by decide +kernel
theorem dX3_digitOf_29 : decode cX3_digitOf 29 = .ok (.iload_n 0, 1) := by decide +kernel
theorem dX3_digitOf_30 : decode cX3_digitOf 30 = .ok (.bipush 97, 2) := by decide +kernel
theorem dX3_digitOf_32 : decode cX3_digitOf 32 = .ok (.isub, 1) := by decide +kernel
theorem dX3_digitOf_33 : decode cX3_digitOf 33 = .ok (.bipush 10, 2) := by decide +kernel
theorem dX3_digitOf_35 : decode cX3_digitOf 35 = .ok (.iadd, 1) := by decide +kernel
theorem dX3_digitOf_36 : decode cX3_digitOf 36 = .ok (.ireturn, 1) := by decide +kernel
theorem dX3_digitOf_37 : decode cX3_digitOf 37 = .ok (.iload_n 0, 1) := by decide +kernel
theorem dX3_digitOf_38 : decode cX3_digitOf 38 = .ok (.bipush 65, 2) := by decide +kernel
theorem dX3_digitOf_40 : decode cX3_digitOf 40 = .ok (.if_icmp .lt 17, 3) := by decide +kernel
theorem dX3_digitOf_43 : decode cX3_digitOf 43 = .ok (.iload_n 0, 1) := by decide +kernel
theorem dX3_digitOf_44 : decode cX3_digitOf 44 = .ok (.bipush 70, 2) := by decide +kernel
theorem dX3_digitOf_46 : decode cX3_digitOf 46 = .ok (.if_icmp .gt 11, 3) := by decide +kernel
theorem dX3_digitOf_49 : decode cX3_digitOf 49 = .ok (.iload_n 0, 1) := by decide +kernel
theorem dX3_digitOf_50 : decode cX3_digitOf 50 = .ok (.bipush 65, 2) := by decide +kernel
theorem dX3_digitOf_52 : decode cX3_digitOf 52 = .ok (.isub, 1) := by decide +kernel
theorem dX3_digitOf_53 : decode cX3_digitOf 53 = .ok (.bipush 10, 2) := by decide +kernel
theorem dX3_digitOf_55 : decode cX3_digitOf 55 = .ok (.iadd, 1) := by decide +kernel
theorem dX3_digitOf_56 : decode cX3_digitOf 56 = .ok (.ireturn, 1) := by decide +kernel
theorem dX3_digitOf_57 : decode cX3_digitOf 57 = .ok (.iconst (-1), 1) := by decide +kernel
theorem dX3_digitOf_58 : decode cX3_digitOf 58 = .ok (.ireturn, 1) := by decide +kernel
set_option maxRecDepth 20000 in
theorem ggX4_init_X2_init : GoodIn wsX4_init wsX2_init := goodIn_r _ [9, 10, 2, 3, 11, 12, 13, 14] (by decide +kernel) (by decide +kernel)
set_option maxRecDepth 20000 in
theorem gX4_init_X2_init_n11 : GoodIn wsX4_init (wsX2_init) := ggX4_init_X2_init
theorem dX4_init_0 : decode cX4_init 0 = .ok (.aload_n 0, 1) := by decide +kernel
theorem dX4_init_1 : decode cX4_init 1 = .ok (.invokespecial 3, 3) := by decide +kernel
theorem dX4_init_4 : decode cX4_init 4 = .ok (.aload_n 0, 1) := by decide +kernel
theorem dX4_init_5 : decode cX4_init 5 = .ok (.new 9, 3) := by decide +kernel
theorem dX4_init_8 : decode cX4_init 8 = .ok (.dup, 1) := by decide +kernel
theorem dX4_init_9 : decode cX4_init 9 = .ok (.invokespecial 11, 3) := by decide +kernel
theorem dX4_init_12 : decode cX4_init 12 = .ok (.putfield 12, 3) := by decide +kernel
theorem dX4_init_15 : decode cX4_init 15 = .ok (.return_, 1) := by decide +kernel
set_option maxRecDepth 20000 in
theorem ggX4_take_X2_take : GoodIn wsX4_take wsX2_take := goodIn_r _ [7, 8, 9, 10, 11, 12, 13, 16, 17] (by decide +kernel) (by decide +kernel)
set_option maxRecDepth 20000 in
theorem gX4_take_X2_take : GoodIn wsX4_take (wsV RX4 18 RX2 yX2_take wsX2_take) := goodIn_app (goodIn_of _ (by decide +kernel)) ggX4_take_X2_take
theorem dX4_take_0 : decode cX4_take 0 = .ok (.aload_n 0, 1) := by decide +kernel
theorem dX4_take_1 : decode cX4_take 1 = .ok (.getfield 12, 3) := by decide +kernel
theorem dX4_take_4 : decode cX4_take 4 = .ok (.aload_n 1, 1) := by decide +kernel
theorem dX4_take_5 : decode cX4_take 5 = .ok (.getfield 12, 3) := by decide +kernel
theorem dX4_take_8 : decode cX4_take 8 = .ok (.invokevirtual 18, 3) := by decide +kernel
theorem dX4_take_11 : decode cX4_take 11 = .ok (.aload_n 0, 1) := by decide +kernel
theorem dX4_take_12 : decode cX4_take 12 = .ok (.aload_n 1, 1) := by decide +kernel
theorem dX4_take_13 : decode cX4_take 13 = .ok (.getfield 22, 3) := by decide +kernel
theorem dX4_take_16 : decode cX4_take 16 = .ok (.putfield 22, 3) := by decide +kernel
theorem dX4_take_19 : decode cX4_take 19 = .ok (.return_, 1) := by decide +kernel
set_option maxRecDepth 20000 in
theorem ggX4_takeLong_X2_takeUnsigned : GoodIn wsX4_takeLong wsX2_takeUnsigned := goodIn_r _ [7, 8, 9, 10, 11, 12, 6, 13, 14, 15, 16, 17, 18, 19, 20, 21, 24, 25] (by decide +kernel) (by decide +kernel)
set_option maxRecDepth 20000 in
theorem gX4_takeLong_X2_takeUnsigned : GoodIn wsX4_takeLong (wsV RX4 26 RX2 yX2_takeUnsigned wsX2_takeUnsigned) := goodIn_app (goodIn_of _ (by decide +kernel)) ggX4_takeLong_X2_takeUnsigned
theorem dX4_takeLong_0 : decode cX4_takeLong 0 = .ok (.aload_n 0, 1) := by decide +kernel
theorem dX4_takeLong_1 : decode cX4_takeLong 1 = .ok (.getfield 12, 3) := by decide +kernel
theorem dX4_takeLong_4 : decode cX4_takeLong 4 = .ok (.lload_n 1, 1) := by decide +kernel
theorem dX4_takeLong_5 : decode cX4_takeLong 5 = .ok (.lconst 0, 1) := by decide +kernel
theorem dX4_takeLong_6 : decode cX4_takeLong 6 = .ok (.lcmp, 1) := by decide +kernel
theorem dX4_takeLong_7 : decode cX4_takeLong 7 = .ok (.ifCond .ge 8, 3) := by decide +kernel
theorem dX4_takeLong_10 : decode cX4_takeLong 10 = .ok (.lload_n 1, 1) := by decide +kernel
theorem dX4_takeLong_11 : decode cX4_takeLong 11 = .ok (.lneg, 1) := by decide +kernel
theorem dX4_takeLong_12 : decode cX4_takeLong 12 = .ok (.goto 4, 3) := by decide +kernel
theorem dX4_takeLong_15 : decode cX4_takeLong 15 = .ok (.lload_n 1, 1) := by decide +kernel
theorem dX4_takeLong_16 : decode cX4_takeLong 16 = .ok (.invokevirtual 26, 3) := by decide +kernel
theorem dX4_takeLong_19 : decode cX4_takeLong 19 = .ok (.aload_n 0, 1) := by decide +kernel
theorem dX4_takeLong_20 : decode cX4_takeLong 20 = .ok (.lload_n 1, 1) := by decide +kernel
theorem dX4_takeLong_21 : decode cX4_takeLong 21 = .ok (.lconst 0, 1) := by decide +kernel
theorem dX4_takeLong_22 : decode cX4_takeLong 22 = .ok (.lcmp, 1) := by decide +kernel
theorem dX4_takeLong_23 : decode cX4_takeLong 23 = .ok (.ifCond .ge 7, 3) := by decide +kernel
theorem dX4_takeLong_26 : decode cX4_takeLong 26 = .ok (.iconst 1, 1) := by decide +kernel
theorem dX4_takeLong_27 : decode cX4_takeLong 27 = .ok (.goto 4, 3) := by decide +kernel
theorem dX4_takeLong_30 : decode cX4_takeLong 30 = .ok (.iconst 0, 1) := by decide +kernel
theorem dX4_takeLong_31 : decode cX4_takeLong 31 = .ok (.putfield 22, 3) := by decide +kernel
theorem dX4_takeLong_34 : decode cX4_takeLong 34 = .ok (.return_, 1) := by decide +kernel
set_option maxRecDepth 20000 in
theorem ggX4_takeSign_X2_isZero : GoodIn wsX4_takeSign wsX2_isZero := goodIn_r _ [7, 8, 11, 12] (by decide +kernel) (by decide +kernel)
set_option maxRecDepth 20000 in
theorem gX4_takeSign_X2_isZero : GoodIn wsX4_takeSign (wsV RX4 30 RX2 yX2_isZero wsX2_isZero) := goodIn_app (goodIn_of _ (by decide +kernel)) ggX4_takeSign_X2_isZero
theorem dX4_takeSign_0 : decode cX4_takeSign 0 = .ok (.aload_n 0, 1) := by decide +kernel
theorem dX4_takeSign_1 : decode cX4_takeSign 1 = .ok (.iload_n 1, 1) := by decide +kernel
theorem dX4_takeSign_2 : decode cX4_takeSign 2 = .ok (.ifCond .eq 17, 3) := by decide +kernel
theorem dX4_takeSign_5 : decode cX4_takeSign 5 = .ok (.aload_n 0, 1) := by decide +kernel
theorem dX4_takeSign_6 : decode cX4_takeSign 6 = .ok (.getfield 12, 3) := by decide +kernel
theorem dX4_takeSign_9 : decode cX4_takeSign 9 = .ok (.invokevirtual 30, 3) := by decide +kernel
theorem dX4_takeSign_12 : decode cX4_takeSign 12 = .ok (.ifCond .ne 7, 3) := by decide +kernel
theorem dX4_takeSign_15 : decode cX4_takeSign 15 = .ok (.iconst 1, 1) := by decide +kernel
theorem dX4_takeSign_16 : decode cX4_takeSign 16 = .ok (.goto 4, 3) := by decide +kernel
theorem dX4_takeSign_19 : decode cX4_takeSign 19 = .ok (.iconst 0, 1) := by decide +kernel
theorem dX4_takeSign_20 : decode cX4_takeSign 20 = .ok (.putfield 22, 3) := by decide +kernel
theorem dX4_takeSign_23 : decode cX4_takeSign 23 = .ok (.return_, 1) := by decide +kernel
set_option maxRecDepth 20000 in
theorem ggX4_takeSum_X2_takeSum : GoodIn wsX4_takeSum wsX2_takeSum := goodIn_r _ [7, 8, 9, 10, 11, 12, 13, 14, 15, 16, 17, 18, 19, 20, 6, 21, 22, 23, 24, 25, 45, 46] (by decide +kernel) (by decide +kernel)
set_option maxRecDepth 20000 in
theorem gX4_takeSum_X2_takeSum : GoodIn wsX4_takeSum (wsV RX4 34 RX2 yX2_takeSum wsX2_takeSum) := goodIn_app (goodIn_of _ (by decide +kernel)) ggX4_takeSum_X2_takeSum
set_option maxRecDepth 20000 in
theorem ggX4_takeSum_X4_takeSign : GoodIn wsX4_takeSum wsX4_takeSign := goodIn_r _ [30, 2, 1, 31, 32, 33, 6, 34, 8, 43, 44, 45, 46] (by decide +kernel) (by decide +kernel)
set_option maxRecDepth 20000 in
theorem gX4_takeSum_X4_takeSign : GoodIn wsX4_takeSum (wsV RX4 38 RX4 yX4_takeSign wsX4_takeSign) := goodIn_app (goodIn_of _ (by decide +kernel)) ggX4_takeSum_X4_takeSign
set_option maxRecDepth 20000 in
theorem ggX4_takeSum_X2_order : GoodIn wsX4_takeSum wsX2_order := goodIn_r _ [38, 8, 16, 45, 46] (by decide +kernel) (by decide +kernel)
set_option maxRecDepth 20000 in
theorem gX4_takeSum_X2_order : GoodIn wsX4_takeSum (wsV RX4 42 RX2 yX2_order wsX2_order) := goodIn_app (goodIn_of _ (by decide +kernel)) ggX4_takeSum_X2_order
set_option maxRecDepth 20000 in
theorem ggX4_takeSum_X2_takeDifference : GoodIn wsX4_takeSum wsX2_takeDifference := goodIn_r _ [42, 8, 16, 17, 18, 19, 20, 6, 21, 22, 23, 24, 25, 13, 14, 11, 15, 9, 10, 12, 45, 46] (by decide +kernel) (by decide +kernel)
set_option maxRecDepth 20000 in
theorem gX4_takeSum_X2_takeDifference : GoodIn wsX4_takeSum (wsV RX4 46 RX2 yX2_takeDifference wsX2_takeDifference) := goodIn_app (goodIn_of _ (by decide +kernel)) ggX4_takeSum_X2_takeDifference
theorem dX4_takeSum_0 : decode cX4_takeSum 0 = .ok (.aload_n 1, 1) := by decide +kernel
theorem dX4_takeSum_1 : decode cX4_takeSum 1 = .ok (.getfield 22, 3) := by decide +kernel
theorem dX4_takeSum_4 : decode cX4_takeSum 4 = .ok (.iload_n 3, 1) := by decide +kernel
theorem dX4_takeSum_5 : decode cX4_takeSum 5 = .ok (.if_icmp .ne 26, 3) := by decide +kernel
theorem dX4_takeSum_8 : decode cX4_takeSum 8 = .ok (.aload_n 0, 1) := by decide +kernel
theorem dX4_takeSum_9 : decode cX4_takeSum 9 = .ok (.getfield 12, 3) := by decide +kernel
theorem dX4_takeSum_12 : decode cX4_takeSum 12 = .ok (.aload_n 1, 1) := by decide +kernel
theorem dX4_takeSum_13 : decode cX4_takeSum 13 = .ok (.getfield 12, 3) := by decide +kernel
theorem dX4_takeSum_16 : decode cX4_takeSum 16 = .ok (.aload_n 2, 1) := by decide +kernel
theorem dX4_takeSum_17 : decode cX4_takeSum 17 = .ok (.getfield 12, 3) := by decide +kernel
theorem dX4_takeSum_20 : decode cX4_takeSum 20 = .ok (.invokevirtual 34, 3) := by decide +kernel
theorem dX4_takeSum_23 : decode cX4_takeSum 23 = .ok (.aload_n 0, 1) := by decide +kernel
theorem dX4_takeSum_24 : decode cX4_takeSum 24 = .ok (.iload_n 3, 1) := by decide +kernel
theorem dX4_takeSum_25 : decode cX4_takeSum 25 = .ok (.invokevirtual 38, 3) := by decide +kernel
theorem dX4_takeSum_28 : decode cX4_takeSum 28 = .ok (.goto 63, 3) := by decide +kernel
theorem dX4_takeSum_31 : decode cX4_takeSum 31 = .ok (.aload_n 1, 1) := by decide +kernel
theorem dX4_takeSum_32 : decode cX4_takeSum 32 = .ok (.getfield 12, 3) := by decide +kernel
theorem dX4_takeSum_35 : decode cX4_takeSum 35 = .ok (.aload_n 2, 1) := by decide +kernel
theorem dX4_takeSum_36 : decode cX4_takeSum 36 = .ok (.getfield 12, 3) := by decide +kernel
theorem dX4_takeSum_39 : decode cX4_takeSum 39 = .ok (.invokevirtual 42, 3) := by decide +kernel
theorem dX4_takeSum_42 : decode cX4_takeSum 42 = .ok (.ifCond .lt 29, 3) := by decide +kernel
theorem dX4_takeSum_45 : decode cX4_takeSum 45 = .ok (.aload_n 0, 1) := by decide +kernel
theorem dX4_takeSum_46 : decode cX4_takeSum 46 = .ok (.getfield 12, 3) := by decide +kernel
theorem dX4_takeSum_49 : decode cX4_takeSum 49 = .ok (.aload_n 1, 1) := by decide +kernel
theorem dX4_takeSum_50 : decode cX4_takeSum 50 = .ok (.getfield 12, 3) := by decide +kernel
theorem dX4_takeSum_53 : decode cX4_takeSum 53 = .ok (.aload_n 2, 1) := by decide +kernel
theorem dX4_takeSum_54 : decode cX4_takeSum 54 = .ok (.getfield 12, 3) := by decide +kernel
theorem dX4_takeSum_57 : decode cX4_takeSum 57 = .ok (.invokevirtual 46, 3) := by decide +kernel
theorem dX4_takeSum_60 : decode cX4_takeSum 60 = .ok (.aload_n 0, 1) := by decide +kernel
theorem dX4_takeSum_61 : decode cX4_takeSum 61 = .ok (.aload_n 1, 1) := by decide +kernel
theorem dX4_takeSum_62 : decode cX4_takeSum 62 = .ok (.getfield 22, 3) := by decide +kernel
theorem dX4_takeSum_65 : decode cX4_takeSum 65 = .ok (.invokevirtual 38, 3) := by decide +kernel
theorem dX4_takeSum_68 : decode cX4_takeSum 68 = .ok (.goto 23, 3) := by decide +kernel
theorem dX4_takeSum_71 : decode cX4_takeSum 71 = .ok (.aload_n 0, 1) := by decide +kernel
theorem dX4_takeSum_72 : decode cX4_takeSum 72 = .ok (.getfield 12, 3) := by decide +kernel
theorem dX4_takeSum_75 : decode cX4_takeSum 75 = .ok (.aload_n 2, 1) := by decide +kernel
theorem dX4_takeSum_76 : decode cX4_takeSum 76 = .ok (.getfield 12, 3) := by decide +kernel
theorem dX4_takeSum_79 : decode cX4_takeSum 79 = .ok (.aload_n 1, 1) := by decide +kernel
theorem dX4_takeSum_80 : decode cX4_takeSum 80 = .ok (.getfield 12, 3) := by decide +kernel
theorem dX4_takeSum_83 : decode cX4_takeSum 83 = .ok (.invokevirtual 46, 3) := by decide +kernel
theorem dX4_takeSum_86 : decode cX4_takeSum 86 = .ok (.aload_n 0, 1) := by decide +kernel
theorem dX4_takeSum_87 : decode cX4_takeSum 87 = .ok (.iload_n 3, 1) := by decide +kernel
theorem dX4_takeSum_88 : decode cX4_takeSum 88 = .ok (.invokevirtual 38, 3) := by decide +kernel
theorem dX4_takeSum_91 : decode cX4_takeSum 91 = .ok (.return_, 1) := by decide +kernel
set_option maxRecDepth 20000 in
theorem ggX4_takeProduct_X2_bitLength : GoodIn wsX4_takeProduct wsX2_bitLength := goodIn_r _ [7, 8, 9, 10, 11, 6, 12, 13, 14, 15, 16, 17, 18, 19, 20, 21, 22, 54, 55] (by decide +kernel) (by decide +kernel)
set_option maxRecDepth 20000 in
theorem gX4_takeProduct_X2_bitLength : GoodIn wsX4_takeProduct (wsV RX4 49 RX2 yX2_bitLength wsX2_bitLength) := goodIn_app (goodIn_of _ (by decide +kernel)) ggX4_takeProduct_X2_bitLength
set_option maxRecDepth 20000 in
theorem ggX4_takeProduct_X2_takeProduct : GoodIn wsX4_takeProduct wsX2_takeProduct := goodIn_r _ [26, 8, 27, 28, 29, 30, 17, 31, 32, 33, 6, 34, 35, 36, 37, 38, 39, 40, 41, 42, 54, 55] (by decide +kernel) (by decide +kernel)
set_option maxRecDepth 20000 in
theorem gX4_takeProduct_X2_takeProduct : GoodIn wsX4_takeProduct (wsV RX4 53 RX2 yX2_takeProduct wsX2_takeProduct) := goodIn_app (goodIn_of _ (by decide +kernel)) ggX4_takeProduct_X2_takeProduct
set_option maxRecDepth 20000 in
theorem ggX4_takeProduct_X4_takeSign : GoodIn wsX4_takeProduct wsX4_takeSign := goodIn_r _ [47, 1, 2, 48, 49, 50, 6, 51, 8, 52, 53, 54, 55] (by decide +kernel) (by decide +kernel)
set_option maxRecDepth 20000 in
theorem gX4_takeProduct_X4_takeSign : GoodIn wsX4_takeProduct (wsV RX4 38 RX4 yX4_takeSign wsX4_takeSign) := goodIn_app (goodIn_of _ (by decide +kernel)) ggX4_takeProduct_X4_takeSign
theorem dX4_takeProduct_0 : decode cX4_takeProduct 0 = .ok (.aload_n 1, 1) := by decide +kernel
theorem dX4_takeProduct_1 : decode cX4_takeProduct 1 = .ok (.getfield 12, 3) := by decide +kernel
theorem dX4_takeProduct_4 : decode cX4_takeProduct 4 = .ok (.invokevirtual 49, 3) := by decide +kernel
theorem dX4_takeProduct_7 : decode cX4_takeProduct 7 = .ok (.aload_n 2, 1) := by decide +kernel
theorem dX4_takeProduct_8 : decode cX4_takeProduct 8 = .ok (.getfield 12, 3) := by decide +kernel
theorem dX4_takeProduct_11 : decode cX4_takeProduct 11 = .ok (.invokevirtual 49, 3) := by decide +kernel
theorem dX4_takeProduct_14 : decode cX4_takeProduct 14 = .ok (.iadd, 1) := by decide +kernel
theorem dX4_takeProduct_15 : decode cX4_takeProduct 15 = .ok (.sipush 4097, 3) := by decide +kernel
theorem dX4_takeProduct_18 : decode cX4_takeProduct 18 = .ok (.if_icmp .le 5, 3) := by decide +kernel
theorem dX4_takeProduct_21 : decode cX4_takeProduct 21 = .ok (.iconst 0, 1) := by decide +kernel
theorem dX4_takeProduct_22 : decode cX4_takeProduct 22 = .ok (.ireturn, 1) := by decide +kernel
theorem dX4_takeProduct_23 : decode cX4_takeProduct 23 = .ok (.aload_n 0, 1) := by decide +kernel
theorem dX4_takeProduct_24 : decode cX4_takeProduct 24 = .ok (.getfield 12, 3) := by decide +kernel
theorem dX4_takeProduct_27 : decode cX4_takeProduct 27 = .ok (.aload_n 1, 1) := by decide +kernel
theorem dX4_takeProduct_28 : decode cX4_takeProduct 28 = .ok (.getfield 12, 3) := by decide +kernel
theorem dX4_takeProduct_31 : decode cX4_takeProduct 31 = .ok (.aload_n 2, 1) := by decide +kernel
theorem dX4_takeProduct_32 : decode cX4_takeProduct 32 = .ok (.getfield 12, 3) := by decide +kernel
theorem dX4_takeProduct_35 : decode cX4_takeProduct 35 = .ok (.invokevirtual 53, 3) := by decide +kernel
theorem dX4_takeProduct_38 : decode cX4_takeProduct 38 = .ok (.aload_n 0, 1) := by decide +kernel
theorem dX4_takeProduct_39 : decode cX4_takeProduct 39 = .ok (.aload_n 1, 1) := by decide +kernel
theorem dX4_takeProduct_40 : decode cX4_takeProduct 40 = .ok (.getfield 22, 3) := by decide +kernel
theorem dX4_takeProduct_43 : decode cX4_takeProduct 43 = .ok (.aload_n 2, 1) := by decide +kernel
theorem dX4_takeProduct_44 : decode cX4_takeProduct 44 = .ok (.getfield 22, 3) := by decide +kernel
theorem dX4_takeProduct_47 : decode cX4_takeProduct 47 = .ok (.if_icmp .eq 7, 3) := by decide +kernel
theorem dX4_takeProduct_50 : decode cX4_takeProduct 50 = .ok (.iconst 1, 1) := by decide +kernel
theorem dX4_takeProduct_51 : decode cX4_takeProduct 51 = .ok (.goto 4, 3) := by decide +kernel
theorem dX4_takeProduct_54 : decode cX4_takeProduct 54 = .ok (.iconst 0, 1) := by decide +kernel
theorem dX4_takeProduct_55 : decode cX4_takeProduct 55 = .ok (.invokevirtual 38, 3) := by decide +kernel
theorem dX4_takeProduct_58 : decode cX4_takeProduct 58 = .ok (.iconst 1, 1) := by decide +kernel
theorem dX4_takeProduct_59 : decode cX4_takeProduct 59 = .ok (.ireturn, 1) := by decide +kernel
set_option maxRecDepth 20000 in
theorem ggX4_direction_X2_isZero : GoodIn wsX4_direction wsX2_isZero := goodIn_r _ [7, 8, 11, 12] (by decide +kernel) (by decide +kernel)
set_option maxRecDepth 20000 in
theorem gX4_direction_X2_isZero : GoodIn wsX4_direction (wsV RX4 30 RX2 yX2_isZero wsX2_isZero) := goodIn_app (goodIn_of _ (by decide +kernel)) ggX4_direction_X2_isZero
theorem dX4_direction_0 : decode cX4_direction 0 = .ok (.aload_n 0, 1) := by decide +kernel
theorem dX4_direction_1 : decode cX4_direction 1 = .ok (.getfield 12, 3) := by decide +kernel
theorem dX4_direction_4 : decode cX4_direction 4 = .ok (.invokevirtual 30, 3) := by decide +kernel
theorem dX4_direction_7 : decode cX4_direction 7 = .ok (.ifCond .eq 5, 3) := by decide +kernel
theorem dX4_direction_10 : decode cX4_direction 10 = .ok (.iconst 0, 1) := by decide +kernel
theorem dX4_direction_11 : decode cX4_direction 11 = .ok (.ireturn, 1) := by decide +kernel
theorem dX4_direction_12 : decode cX4_direction 12 = .ok (.aload_n 0, 1) := by decide +kernel
theorem dX4_direction_13 : decode cX4_direction 13 = .ok (.getfield 22, 3) := by decide +kernel
theorem dX4_direction_16 : decode cX4_direction 16 = .ok (.ifCond .eq 7, 3) := by decide +kernel
theorem dX4_direction_19 : decode cX4_direction 19 = .ok (.iconst (-1), 1) := by decide +kernel
theorem dX4_direction_20 : decode cX4_direction 20 = .ok (.goto 4, 3) := by decide +kernel
theorem dX4_direction_23 : decode cX4_direction 23 = .ok (.iconst 1, 1) := by decide +kernel
theorem dX4_direction_24 : decode cX4_direction 24 = .ok (.ireturn, 1) := by decide +kernel
set_option maxRecDepth 20000 in
theorem ggX4_order_X2_order : GoodIn wsX4_order wsX2_order := goodIn_r _ [7, 8, 9, 12, 13] (by decide +kernel) (by decide +kernel)
set_option maxRecDepth 20000 in
theorem gX4_order_X2_order : GoodIn wsX4_order (wsV RX4 42 RX2 yX2_order wsX2_order) := goodIn_app (goodIn_of _ (by decide +kernel)) ggX4_order_X2_order
theorem dX4_order_0 : decode cX4_order 0 = .ok (.aload_n 0, 1) := by decide +kernel
theorem dX4_order_1 : decode cX4_order 1 = .ok (.getfield 22, 3) := by decide +kernel
theorem dX4_order_4 : decode cX4_order 4 = .ok (.aload_n 1, 1) := by decide +kernel
theorem dX4_order_5 : decode cX4_order 5 = .ok (.getfield 22, 3) := by decide +kernel
theorem dX4_order_8 : decode cX4_order 8 = .ok (.if_icmp .eq 16, 3) := by decide +kernel
theorem dX4_order_11 : decode cX4_order 11 = .ok (.aload_n 0, 1) := by decide +kernel
theorem dX4_order_12 : decode cX4_order 12 = .ok (.getfield 22, 3) := by decide +kernel
theorem dX4_order_15 : decode cX4_order 15 = .ok (.ifCond .eq 7, 3) := by decide +kernel
theorem dX4_order_18 : decode cX4_order 18 = .ok (.iconst (-1), 1) := by decide +kernel
theorem dX4_order_19 : decode cX4_order 19 = .ok (.goto 4, 3) := by decide +kernel
theorem dX4_order_22 : decode cX4_order 22 = .ok (.iconst 1, 1) := by decide +kernel
theorem dX4_order_23 : decode cX4_order 23 = .ok (.ireturn, 1) := by decide +kernel
theorem dX4_order_24 : decode cX4_order 24 = .ok (.aload_n 0, 1) := by decide +kernel
theorem dX4_order_25 : decode cX4_order 25 = .ok (.getfield 22, 3) := by decide +kernel
theorem dX4_order_28 : decode cX4_order 28 = .ok (.ifCond .eq 17, 3) := by decide +kernel
theorem dX4_order_31 : decode cX4_order 31 = .ok (.aload_n 1, 1) := by decide +kernel
theorem dX4_order_32 : decode cX4_order 32 = .ok (.getfield 12, 3) := by decide +kernel
theorem dX4_order_35 : decode cX4_order 35 = .ok (.aload_n 0, 1) := by decide +kernel
theorem dX4_order_36 : decode cX4_order 36 = .ok (.getfield 12, 3) := by decide +kernel
theorem dX4_order_39 : decode cX4_order 39 = .ok (.invokevirtual 42, 3) := by decide +kernel
theorem dX4_order_42 : decode cX4_order 42 = .ok (.goto 14, 3) := by decide +kernel
theorem dX4_order_45 : decode cX4_order 45 = .ok (.aload_n 0, 1) := by decide +kernel
theorem dX4_order_46 : decode cX4_order 46 = .ok (.getfield 12, 3) := by decide +kernel
theorem dX4_order_49 : decode cX4_order 49 = .ok (.aload_n 1, 1) := by decide +kernel
theorem dX4_order_50 : decode cX4_order 50 = .ok (.getfield 12, 3) := by decide +kernel
theorem dX4_order_53 : decode cX4_order 53 = .ok (.invokevirtual 42, 3) := by decide +kernel
theorem dX4_order_56 : decode cX4_order 56 = .ok (.ireturn, 1) := by decide +kernel
set_option maxRecDepth 20000 in
theorem ggX4_isLong_X2_bitLength : GoodIn wsX4_isLong wsX2_bitLength := goodIn_r _ [7, 8, 9, 10, 11, 6, 12, 13, 14, 15, 16, 17, 18, 19, 20, 21, 22, 29, 30] (by decide +kernel) (by decide +kernel)
set_option maxRecDepth 20000 in
theorem gX4_isLong_X2_bitLength : GoodIn wsX4_isLong (wsV RX4 49 RX2 yX2_bitLength wsX2_bitLength) := goodIn_app (goodIn_of _ (by decide +kernel)) ggX4_isLong_X2_bitLength
set_option maxRecDepth 20000 in
theorem ggX4_isLong_X2_anyBitBelow : GoodIn wsX4_isLong wsX2_anyBitBelow := goodIn_r _ [26, 8, 17, 13, 14, 15, 6, 16, 29, 30] (by decide +kernel) (by decide +kernel)
set_option maxRecDepth 20000 in
theorem gX4_isLong_X2_anyBitBelow : GoodIn wsX4_isLong (wsV RX4 58 RX2 yX2_anyBitBelow wsX2_anyBitBelow) := goodIn_app (goodIn_of _ (by decide +kernel)) ggX4_isLong_X2_anyBitBelow
theorem dX4_isLong_0 : decode cX4_isLong 0 = .ok (.aload_n 0, 1) := by decide +kernel
theorem dX4_isLong_1 : decode cX4_isLong 1 = .ok (.getfield 12, 3) := by decide +kernel
theorem dX4_isLong_4 : decode cX4_isLong 4 = .ok (.invokevirtual 49, 3) := by decide +kernel
theorem dX4_isLong_7 : decode cX4_isLong 7 = .ok (.istore_n 1, 1) := by decide +kernel
theorem dX4_isLong_8 : decode cX4_isLong 8 = .ok (.aload_n 0, 1) := by decide +kernel
theorem dX4_isLong_9 : decode cX4_isLong 9 = .ok (.getfield 22, 3) := by decide +kernel
theorem dX4_isLong_12 : decode cX4_isLong 12 = .ok (.ifCond .eq 25, 3) := by decide +kernel
theorem dX4_isLong_15 : decode cX4_isLong 15 = .ok (.iload_n 1, 1) := by decide +kernel
theorem dX4_isLong_16 : decode cX4_isLong 16 = .ok (.bipush 64, 2) := by decide +kernel
theorem dX4_isLong_18 : decode cX4_isLong 18 = .ok (.if_icmp .ne 19, 3) := by decide +kernel
theorem dX4_isLong_21 : decode cX4_isLong 21 = .ok (.aload_n 0, 1) := by decide +kernel
theorem dX4_isLong_22 : decode cX4_isLong 22 = .ok (.getfield 12, 3) := by decide +kernel
theorem dX4_isLong_25 : decode cX4_isLong 25 = .ok (.bipush 63, 2) := by decide +kernel
theorem dX4_isLong_27 : decode cX4_isLong 27 = .ok (.invokevirtual 58, 3) := by decide +kernel
theorem dX4_isLong_30 : decode cX4_isLong 30 = .ok (.ifCond .ne 7, 3) := by decide +kernel
theorem dX4_isLong_33 : decode cX4_isLong 33 = .ok (.iconst 1, 1) := by decide +kernel
theorem dX4_isLong_34 : decode cX4_isLong 34 = .ok (.goto 4, 3) := by decide +kernel
theorem dX4_isLong_37 : decode cX4_isLong 37 = .ok (.iconst 0, 1) := by decide +kernel
theorem dX4_isLong_38 : decode cX4_isLong 38 = .ok (.istore_n 2, 1) := by decide +kernel
theorem dX4_isLong_39 : decode cX4_isLong 39 = .ok (.iload_n 1, 1) := by decide +kernel
theorem dX4_isLong_40 : decode cX4_isLong 40 = .ok (.bipush 64, 2) := by decide +kernel
theorem dX4_isLong_42 : decode cX4_isLong 42 = .ok (.if_icmp .lt 7, 3) := by decide +kernel
theorem dX4_isLong_45 : decode cX4_isLong 45 = .ok (.iload_n 2, 1) := by decide +kernel
theorem dX4_isLong_46 : decode cX4_isLong 46 = .ok (.ifCond .eq 7, 3) := by decide +kernel
theorem dX4_isLong_49 : decode cX4_isLong 49 = .ok (.iconst 1, 1) := by decide +kernel
theorem dX4_isLong_50 : decode cX4_isLong 50 = .ok (.goto 4, 3) := by decide +kernel
theorem dX4_isLong_53 : decode cX4_isLong 53 = .ok (.iconst 0, 1) := by decide +kernel
theorem dX4_isLong_54 : decode cX4_isLong 54 = .ok (.ireturn, 1) := by decide +kernel
set_option maxRecDepth 20000 in
theorem ggX4_asLong_X2_lowestLong : GoodIn wsX4_asLong wsX2_lowestLong := goodIn_r _ [7, 8, 9, 10, 6, 11, 12, 13, 16, 17] (by decide +kernel) (by decide +kernel)
set_option maxRecDepth 20000 in
theorem gX4_asLong_X2_lowestLong : GoodIn wsX4_asLong (wsV RX4 62 RX2 yX2_lowestLong wsX2_lowestLong) := goodIn_app (goodIn_of _ (by decide +kernel)) ggX4_asLong_X2_lowestLong
theorem dX4_asLong_0 : decode cX4_asLong 0 = .ok (.aload_n 0, 1) := by decide +kernel
theorem dX4_asLong_1 : decode cX4_asLong 1 = .ok (.getfield 22, 3) := by decide +kernel
theorem dX4_asLong_4 : decode cX4_asLong 4 = .ok (.ifCond .eq 14, 3) := by decide +kernel
theorem dX4_asLong_7 : decode cX4_asLong 7 = .ok (.aload_n 0, 1) := by decide +kernel
theorem dX4_asLong_8 : decode cX4_asLong 8 = .ok (.getfield 12, 3) := by decide +kernel
theorem dX4_asLong_11 : decode cX4_asLong 11 = .ok (.invokevirtual 62, 3) := by decide +kernel
theorem dX4_asLong_14 : decode cX4_asLong 14 = .ok (.lneg, 1) := by decide +kernel
theorem dX4_asLong_15 : decode cX4_asLong 15 = .ok (.goto 10, 3) := by decide +kernel
theorem dX4_asLong_18 : decode cX4_asLong 18 = .ok (.aload_n 0, 1) := by decide +kernel
theorem dX4_asLong_19 : decode cX4_asLong 19 = .ok (.getfield 12, 3) := by decide +kernel
theorem dX4_asLong_22 : decode cX4_asLong 22 = .ok (.invokevirtual 62, 3) := by decide +kernel
theorem dX4_asLong_25 : decode cX4_asLong 25 = .ok (.lreturn, 1) := by decide +kernel
set_option maxRecDepth 20000 in
theorem ggX5_init_X4_init : GoodIn wsX5_init wsX4_init := goodIn_r _ [23, 24, 2, 3, 25, 26, 27, 28, 29, 30, 31, 32, 33, 74, 75, 60, 61] (by decide +kernel) (by decide +kernel)
set_option maxRecDepth 20000 in
theorem gX5_init_X4_init_n15 : GoodIn wsX5_init (wsX4_init) := ggX5_init_X4_init
set_option maxRecDepth 20000 in
theorem ggX5_init_X1_init : GoodIn wsX5_init wsX1_init := goodIn_r _ [35, 36, 2, 3, 37, 26, 27, 38, 39, 40, 29, 30, 31, 32, 33, 74, 75, 62, 63, 64] (by decide +kernel) (by decide +kernel)
set_option maxRecDepth 20000 in
theorem gX5_init_X1_init_n25 : GoodIn wsX5_init (wsX1_init) := ggX5_init_X1_init
set_option maxRecDepth 20000 in
theorem ggX5_init_X0_init : GoodIn wsX5_init wsX0_init := goodIn_r _ [43, 44, 2, 3, 45, 26, 27, 46, 47, 48, 29, 30, 31, 32, 33, 74, 75, 65, 66, 67, 68, 69, 70, 71] (by decide +kernel) (by decide +kernel)
set_option maxRecDepth 20000 in
theorem gX5_init_X0_init : GoodIn wsX5_init (wsX0_init) := ggX5_init_X0_init
set_option maxRecDepth 20000 in
theorem ggX5_init_X3_init : GoodIn wsX5_init wsX3_init := goodIn_r _ [50, 51, 2, 3, 52, 53, 72, 73] (by decide +kernel) (by decide +kernel)
set_option maxRecDepth 20000 in
theorem gX5_init_X3_init_n41 : GoodIn wsX5_init (wsX3_init) := ggX5_init_X3_init
theorem dX5_init_0 : decode cX5_init 0 = .ok (.aload_n 0, 1) := by decide +kernel
theorem dX5_init_1 : decode cX5_init 1 = .ok (.invokespecial 3, 3) := by decide +kernel
theorem dX5_init_4 : decode cX5_init 4 = .ok (.aload_n 0, 1) := by decide +kernel
theorem dX5_init_5 : decode cX5_init 5 = .ok (.bipush 8, 2) := by decide +kernel
theorem dX5_init_7 : decode cX5_init 7 = .ok (.anewarray 9, 3) := by decide +kernel
theorem dX5_init_10 : decode cX5_init 10 = .ok (.putfield 11, 3) := by decide +kernel
theorem dX5_init_13 : decode cX5_init 13 = .ok (.iconst 0, 1) := by decide +kernel
theorem dX5_init_14 : decode cX5_init 14 = .ok (.istore_n 1, 1) := by decide +kernel
theorem dX5_init_15 : decode cX5_init 15 = .ok (.iload_n 1, 1) := by decide +kernel
theorem dX5_init_16 : decode cX5_init 16 = .ok (.bipush 8, 2) := by decide +kernel
theorem dX5_init_18 : decode cX5_init 18 = .ok (.if_icmp .ge 22, 3) := by decide +kernel
theorem dX5_init_21 : decode cX5_init 21 = .ok (.aload_n 0, 1) := by decide +kernel
theorem dX5_init_22 : decode cX5_init 22 = .ok (.getfield 11, 3) := by decide +kernel
theorem dX5_init_25 : decode cX5_init 25 = .ok (.iload_n 1, 1) := by decide +kernel
theorem dX5_init_26 : decode cX5_init 26 = .ok (.new 9, 3) := by decide +kernel
theorem dX5_init_29 : decode cX5_init 29 = .ok (.dup, 1) := by decide +kernel
theorem dX5_init_30 : decode cX5_init 30 = .ok (.invokespecial 15, 3) := by decide +kernel
theorem dX5_init_33 : decode cX5_init 33 = .ok (.aastore, 1) := by decide +kernel
theorem dX5_init_34 : decode cX5_init 34 = .ok (.iinc 1 1, 3) := by decide +kernel
theorem dX5_init_37 : decode cX5_init 37 = .ok (.goto (-22), 3) := by decide +kernel
theorem dX5_init_40 : decode cX5_init 40 = .ok (.aload_n 0, 1) := by decide +kernel
theorem dX5_init_41 : decode cX5_init 41 = .ok (.new 9, 3) := by decide +kernel
theorem dX5_init_44 : decode cX5_init 44 = .ok (.dup, 1) := by decide +kernel
theorem dX5_init_45 : decode cX5_init 45 = .ok (.invokespecial 15, 3) := by decide +kernel
theorem dX5_init_48 : decode cX5_init 48 = .ok (.putfield 16, 3) := by decide +kernel
theorem dX5_init_51 : decode cX5_init 51 = .ok (.aload_n 0, 1) := by decide +kernel
theorem dX5_init_52 : decode cX5_init 52 = .ok (.new 9, 3) := by decide +kernel
theorem dX5_init_55 : decode cX5_init 55 = .ok (.dup, 1) := by decide +kernel
theorem dX5_init_56 : decode cX5_init 56 = .ok (.invokespecial 15, 3) := by decide +kernel
theorem dX5_init_59 : decode cX5_init 59 = .ok (.putfield 20, 3) := by decide +kernel
theorem dX5_init_62 : decode cX5_init 62 = .ok (.aload_n 0, 1) := by decide +kernel
theorem dX5_init_63 : decode cX5_init 63 = .ok (.new 23, 3) := by decide +kernel
theorem dX5_init_66 : decode cX5_init 66 = .ok (.dup, 1) := by decide +kernel
theorem dX5_init_67 : decode cX5_init 67 = .ok (.invokespecial 25, 3) := by decide +kernel
theorem dX5_init_70 : decode cX5_init 70 = .ok (.putfield 26, 3) := by decide +kernel
theorem dX5_init_73 : decode cX5_init 73 = .ok (.aload_n 0, 1) := by decide +kernel
theorem dX5_init_74 : decode cX5_init 74 = .ok (.new 30, 3) := by decide +kernel
theorem dX5_init_77 : decode cX5_init 77 = .ok (.dup, 1) := by decide +kernel
theorem dX5_init_78 : decode cX5_init 78 = .ok (.aload_n 0, 1) := by decide +kernel
theorem dX5_init_79 : decode cX5_init 79 = .ok (.getfield 26, 3) := by decide +kernel
theorem dX5_init_82 : decode cX5_init 82 = .ok (.invokespecial 32, 3) := by decide +kernel
theorem dX5_init_85 : decode cX5_init 85 = .ok (.putfield 35, 3) := by decide +kernel
theorem dX5_init_88 : decode cX5_init 88 = .ok (.aload_n 0, 1) := by decide +kernel
theorem dX5_init_89 : decode cX5_init 89 = .ok (.new 39, 3) := by decide +kernel
theorem dX5_init_92 : decode cX5_init 92 = .ok (.dup, 1) := by decide +kernel
theorem dX5_init_93 : decode cX5_init 93 = .ok (.invokespecial 41, 3) := by decide +kernel
theorem dX5_init_96 : decode cX5_init 96 = .ok (.putfield 42, 3) := by decide +kernel
theorem dX5_init_99 : decode cX5_init 99 = .ok (.return_, 1) := by decide +kernel
set_option maxRecDepth 20000 in
theorem ggX5_load_X5_isRegister : GoodIn wsX5_load wsX5_isRegister := goodIn_r _ [5] (by decide +kernel) (by decide +kernel)
set_option maxRecDepth 20000 in
theorem gX5_load_X5_isRegister : GoodIn wsX5_load (va_wsS RX5 46 yX5_isRegister wsX5_isRegister) := goodIn_app (goodIn_of _ (by decide +kernel)) ggX5_load_X5_isRegister
set_option maxRecDepth 20000 in
theorem ggX5_load_X4_takeLong : GoodIn wsX5_load wsX4_takeLong := goodIn_r _ [10, 11, 12, 13, 14, 15, 16, 17, 18, 19, 20, 21, 22, 23, 24, 25, 26, 27, 28, 29, 30, 31, 38, 39, 40, 41] (by decide +kernel) (by decide +kernel)
set_option maxRecDepth 20000 in
theorem gX5_load_X4_takeLong : GoodIn wsX5_load (wsV RX5 50 RX4 yX4_takeLong wsX4_takeLong) := goodIn_app (goodIn_of _ (by decide +kernel)) ggX5_load_X4_takeLong
theorem dX5_load_0 : decode cX5_load 0 = .ok (.iload_n 1, 1) := by decide +kernel
theorem dX5_load_1 : decode cX5_load 1 = .ok (.invokestatic 46, 3) := by decide +kernel
theorem dX5_load_4 : decode cX5_load 4 = .ok (.ifCond .ne 5, 3) := by decide +kernel
theorem dX5_load_7 : decode cX5_load 7 = .ok (.iconst 0, 1) := by decide +kernel
theorem dX5_load_8 : decode cX5_load 8 = .ok (.ireturn, 1) := by decide +kernel
theorem dX5_load_9 : decode cX5_load 9 = .ok (.aload_n 0, 1) := by decide +kernel
theorem dX5_load_10 : decode cX5_load 10 = .ok (.getfield 11, 3) := by decide +kernel
theorem dX5_load_13 : decode cX5_load 13 = .ok (.iload_n 1, 1) := by decide +kernel
theorem dX5_load_14 : decode cX5_load 14 = .ok (.aaload, 1) := by decide +kernel
theorem dX5_load_15 : decode cX5_load 15 = .ok (.lload_n 2, 1) := by decide +kernel
theorem dX5_load_16 : decode cX5_load 16 = .ok (.invokevirtual 50, 3) := by decide +kernel
theorem dX5_load_19 : decode cX5_load 19 = .ok (.iconst 1, 1) := by decide +kernel
theorem dX5_load_20 : decode cX5_load 20 = .ok (.ireturn, 1) := by decide +kernel
set_option maxRecDepth 20000 in
theorem ggX5_reckon_X5_areRegisters : GoodIn wsX5_reckon wsX5_areRegisters := goodIn_r _ [7, 8, 9, 6, 10] (by decide +kernel) (by decide +kernel)
set_option maxRecDepth 20000 in
theorem gX5_reckon_X5_areRegisters : GoodIn wsX5_reckon (va_wsS RX5 54 yX5_areRegisters wsX5_areRegisters) := goodIn_app (goodIn_of _ (by decide +kernel)) ggX5_reckon_X5_areRegisters
set_option maxRecDepth 20000 in
theorem ggX5_reckon_X4_takeSum : GoodIn wsX5_reckon wsX4_takeSum := goodIn_r _ [15, 16, 17, 18, 19, 20, 21, 22, 23, 24, 25, 26, 27, 28, 29, 30, 31, 32, 33, 34, 35, 36, 37, 38, 39, 40, 41, 42, 43, 14, 44, 45, 46, 47, 48, 49, 50, 51, 52, 53, 54, 55, 56, 106, 107, 108, 109] (by decide +kernel) (by decide +kernel)
set_option maxRecDepth 20000 in
theorem gX5_reckon_X4_takeSum : GoodIn wsX5_reckon (wsV RX5 62 RX4 yX4_takeSum wsX4_takeSum) := goodIn_app (goodIn_of _ (by decide +kernel)) ggX5_reckon_X4_takeSum
set_option maxRecDepth 20000 in
theorem ggX5_reckon_X5_keepResult : GoodIn wsX5_reckon wsX5_keepResult := goodIn_r _ [60, 2, 61, 1, 62, 63, 64, 21, 65, 23, 66, 67, 68, 69, 33, 34, 35, 36, 31, 70, 71, 72, 73, 74, 75, 76, 77, 14, 78, 17, 16, 79, 80, 81, 82, 83, 84, 85, 86, 100, 101, 102, 103, 104, 105, 106, 107, 108, 109] (by decide +kernel) (by decide +kernel)
set_option maxRecDepth 20000 in
theorem gX5_reckon_X5_keepResult : GoodIn wsX5_reckon (wsV RX5 66 RX5 yX5_keepResult wsX5_keepResult) := goodIn_app (goodIn_of _ (by decide +kernel)) ggX5_reckon_X5_keepResult
set_option maxRecDepth 20000 in
theorem ggX5_reckon_X4_takeProduct : GoodIn wsX5_reckon wsX4_takeProduct := goodIn_r _ [90, 17, 16, 91, 63, 64, 21, 65, 23, 66, 67, 68, 69, 33, 34, 35, 36, 31, 70, 71, 72, 73, 74, 92, 93, 94, 95, 28, 29, 26, 30, 96, 97, 98, 99, 32, 37, 38, 39, 40, 24, 25, 27, 41, 42, 43, 14, 44, 45, 46, 47, 48, 106, 107, 108, 109] (by decide +kernel) (by decide +kernel)
set_option maxRecDepth 20000 in
theorem gX5_reckon_X4_takeProduct : GoodIn wsX5_reckon (wsV RX5 70 RX4 yX4_takeProduct wsX4_takeProduct) := goodIn_app (goodIn_of _ (by decide +kernel)) ggX5_reckon_X4_takeProduct
theorem dX5_reckon_0 : decode cX5_reckon 0 = .ok (.iload_n 2, 1) := by decide +kernel
theorem dX5_reckon_1 : decode cX5_reckon 1 = .ok (.iload_n 3, 1) := by decide +kernel
theorem dX5_reckon_2 : decode cX5_reckon 2 = .ok (.iload 4, 2) := by decide +kernel
theorem dX5_reckon_4 : decode cX5_reckon 4 = .ok (.invokestatic 54, 3) := by decide +kernel
theorem dX5_reckon_7 : decode cX5_reckon 7 = .ok (.ifCond .ne 5, 3) := by decide +kernel
theorem dX5_reckon_10 : decode cX5_reckon 10 = .ok (.iconst (-1), 1) := by decide +kernel
theorem dX5_reckon_11 : decode cX5_reckon 11 = .ok (.ireturn, 1) := by decide +kernel
theorem dX5_reckon_12 : decode cX5_reckon 12 = .ok (.aload_n 0, 1) := by decide +kernel
theorem dX5_reckon_13 : decode cX5_reckon 13 = .ok (.getfield 11, 3) := by decide +kernel
theorem dX5_reckon_16 : decode cX5_reckon 16 = .ok (.iload_n 3, 1) := by decide +kernel
theorem dX5_reckon_17 : decode cX5_reckon 17 = .ok (.aaload, 1) := by decide +kernel
theorem dX5_reckon_18 : decode cX5_reckon 18 = .ok (.astore 5, 2) := by decide +kernel
theorem dX5_reckon_20 : decode cX5_reckon 20 = .ok (.aload_n 0, 1) := by decide +kernel
theorem dX5_reckon_21 : decode cX5_reckon 21 = .ok (.getfield 11, 3) := by decide +kernel
theorem dX5_reckon_24 : decode cX5_reckon 24 = .ok (.iload 4, 2) := by decide +kernel
theorem dX5_reckon_26 : decode cX5_reckon 26 = .ok (.aaload, 1) := by decide +kernel
theorem dX5_reckon_27 : decode cX5_reckon 27 = .ok (.astore 6, 2) := by decide +kernel
theorem dX5_reckon_29 : decode cX5_reckon 29 = .ok (.iload_n 1, 1) := by decide +kernel
theorem dX5_reckon_30 : decode cX5_reckon 30 = .ok (.tableswitch 102 0 2 #[26, 48, 78], 26) := by decide +kernel
theorem dX5_reckon_56 : decode cX5_reckon 56 = .ok (.aload_n 0, 1) := by decide +kernel
theorem dX5_reckon_57 : decode cX5_reckon 57 = .ok (.getfield 16, 3) := by decide +kernel
theorem dX5_reckon_60 : decode cX5_reckon 60 = .ok (.aload 5, 2) := by decide +kernel
theorem dX5_reckon_62 : decode cX5_reckon 62 = .ok (.aload 6, 2) := by decide +kernel
theorem dX5_reckon_64 : decode cX5_reckon 64 = .ok (.aload 6, 2) := by decide +kernel
theorem dX5_reckon_66 : decode cX5_reckon 66 = .ok (.getfield 58, 3) := by decide +kernel
theorem dX5_reckon_69 : decode cX5_reckon 69 = .ok (.invokevirtual 62, 3) := by decide +kernel
theorem dX5_reckon_72 : decode cX5_reckon 72 = .ok (.aload_n 0, 1) := by decide +kernel
theorem dX5_reckon_73 : decode cX5_reckon 73 = .ok (.iload_n 2, 1) := by decide +kernel
theorem dX5_reckon_74 : decode cX5_reckon 74 = .ok (.invokevirtual 66, 3) := by decide +kernel
theorem dX5_reckon_77 : decode cX5_reckon 77 = .ok (.ireturn, 1) := by decide +kernel
theorem dX5_reckon_78 : decode cX5_reckon 78 = .ok (.aload_n 0, 1) := by decide +kernel
theorem dX5_reckon_79 : decode cX5_reckon 79 = .ok (.getfield 16, 3) := by decide +kernel
theorem dX5_reckon_82 : decode cX5_reckon 82 = .ok (.aload 5, 2) := by decide +kernel
theorem dX5_reckon_84 : decode cX5_reckon 84 = .ok (.aload 6, 2) := by decide +kernel
theorem dX5_reckon_86 : decode cX5_reckon 86 = .ok (.aload 6, 2) := by decide +kernel
theorem dX5_reckon_88 : decode cX5_reckon 88 = .ok (.getfield 58, 3) := by decide +kernel
theorem dX5_reckon_91 : decode cX5_reckon 91 = .ok (.ifCond .ne 7, 3) := by decide +kernel
theorem dX5_reckon_94 : decode cX5_reckon 94 = .ok (.iconst 1, 1) := by decide +kernel
theorem dX5_reckon_95 : decode cX5_reckon 95 = .ok (.goto 4, 3) := by decide +kernel
theorem dX5_reckon_98 : decode cX5_reckon 98 = .ok (.iconst 0, 1) := by decide +kernel
theorem dX5_reckon_99 : decode cX5_reckon 99 = .ok (.invokevirtual 62, 3) := by decide +kernel
theorem dX5_reckon_102 : decode cX5_reckon 102 = .ok (.aload_n 0, 1) := by decide +kernel
theorem dX5_reckon_103 : decode cX5_reckon 103 = .ok (.iload_n 2, 1) := by decide +kernel
theorem dX5_reckon_104 : decode cX5_reckon 104 = .ok (.invokevirtual 66, 3) := by decide +kernel
theorem dX5_reckon_107 : decode cX5_reckon 107 = .ok (.ireturn, 1) := by decide +kernel
theorem dX5_reckon_108 : decode cX5_reckon 108 = .ok (.aload_n 0, 1) := by decide +kernel
theorem dX5_reckon_109 : decode cX5_reckon 109 = .ok (.getfield 16, 3) := by decide +kernel
theorem dX5_reckon_112 : decode cX5_reckon 112 = .ok (.aload 5, 2) := by decide +kernel
theorem dX5_reckon_114 : decode cX5_reckon 114 = .ok (.aload 6, 2) := by decide +kernel
theorem dX5_reckon_116 : decode cX5_reckon 116 = .ok (.invokevirtual 70, 3) := by decide +kernel
theorem dX5_reckon_119 : decode cX5_reckon 119 = .ok (.ifCond .eq 11, 3) := by decide +kernel
theorem dX5_reckon_122 : decode cX5_reckon 122 = .ok (.aload_n 0, 1) := by decide +kernel
theorem dX5_reckon_123 : decode cX5_reckon 123 = .ok (.iload_n 2, 1) := by decide +kernel
theorem dX5_reckon_124 : decode cX5_reckon 124 = .ok (.invokevirtual 66, 3) := by decide +kernel
theorem dX5_reckon_127 : decode cX5_reckon 127 = .ok (.goto 4, 3) := by decide +kernel
theorem dX5_reckon_130 : decode cX5_reckon 130 = .ok (.iconst (-1), 1) := by decide +kernel
theorem dX5_reckon_131 : decode cX5_reckon 131 = .ok (.ireturn, 1) := by decide +kernel
theorem dX5_reckon_132 : decode cX5_reckon 132 = .ok (.iconst (-1), 1) := by decide +kernel
theorem dX5_reckon_133 : decode cX5_reckon 133 = .ok (.ireturn, 1) := by decide +kernel
set_option maxRecDepth 20000 in
theorem ggX5_divide_X5_isRegister : GoodIn wsX5_divide wsX5_isRegister := goodIn_r _ [11] (by decide +kernel) (by decide +kernel)
set_option maxRecDepth 20000 in
theorem gX5_divide_X5_isRegister : GoodIn wsX5_divide (va_wsS RX5 46 yX5_isRegister wsX5_isRegister) := goodIn_app (goodIn_of _ (by decide +kernel)) ggX5_divide_X5_isRegister
set_option maxRecDepth 20000 in
theorem ggX5_divide_X5_areRegisters : GoodIn wsX5_divide wsX5_areRegisters := goodIn_r _ [14, 8, 9, 10, 11] (by decide +kernel) (by decide +kernel)
set_option maxRecDepth 20000 in
theorem gX5_divide_X5_areRegisters : GoodIn wsX5_divide (va_wsS RX5 54 yX5_areRegisters wsX5_areRegisters) := goodIn_app (goodIn_of _ (by decide +kernel)) ggX5_divide_X5_areRegisters
set_option maxRecDepth 20000 in
theorem ggX5_divide_X2_isZero : GoodIn wsX5_divide wsX2_isZero := goodIn_r _ [19, 20, 148, 149] (by decide +kernel) (by decide +kernel)
set_option maxRecDepth 20000 in
theorem gX5_divide_X2_isZero : GoodIn wsX5_divide (wsV RX5 78 RX2 yX2_isZero wsX2_isZero) := goodIn_app (goodIn_of _ (by decide +kernel)) ggX5_divide_X2_isZero
set_option maxRecDepth 20000 in
theorem ggX5_divide_X5_cutQuotient : GoodIn wsX5_divide wsX5_cutQuotient := goodIn_r _ [24, 25, 4, 7, 26, 5, 6, 27, 28, 29, 30, 31, 32, 33, 34, 35, 36, 37, 38, 39, 40, 41, 42, 16, 17, 18, 19, 20, 43, 44, 45, 46, 47, 48, 49, 50, 51, 52, 53, 54, 55, 56, 57, 58, 59, 60, 61, 62, 63, 64, 65, 66, 67, 68, 69, 70, 71, 72, 73, 74, 75, 76, 77, 78, 79, 80, 81, 82, 83, 84, 85, 86, 87, 88, 89, 90, 91, 92, 93, 94, 95, 96, 97, 98, 99, 100, 101, 102, 103, 104, 105, 106, 107, 108, 109, 110, 111, 112, 113, 114, 115, 116, 117, 140, 141, 142, 143, 144, 145, 146, 147, 150, 151, 152, 148, 149] (by decide +kernel) (by decide +kernel)
set_option maxRecDepth 20000 in
theorem gX5_divide_X5_cutQuotient : GoodIn wsX5_divide (wsV RX5 91 RX5 yX5_cutQuotient wsX5_cutQuotient) := goodIn_app (goodIn_of _ (by decide +kernel)) ggX5_divide_X5_cutQuotient
set_option maxRecDepth 20000 in
theorem ggX5_divide_X5_stepDown : GoodIn wsX5_divide wsX5_stepDown := goodIn_r _ [121, 7, 4, 6, 5, 122, 123, 124, 18, 125, 20, 51, 64, 65, 66, 67, 68, 61, 62, 38, 63, 69, 37, 39, 110, 111, 112, 113, 114, 115, 116, 117, 16, 17, 19, 126, 127, 128, 129, 47, 48, 49, 50, 140, 141, 142, 143, 144, 145, 146, 147, 148, 149] (by decide +kernel) (by decide +kernel)
set_option maxRecDepth 20000 in
theorem gX5_divide_X5_stepDown : GoodIn wsX5_divide (wsV RX5 95 RX5 yX5_stepDown wsX5_stepDown) := goodIn_app (goodIn_of _ (by decide +kernel)) ggX5_divide_X5_stepDown
set_option maxRecDepth 20000 in
theorem ggX5_divide_X4_take : GoodIn wsX5_divide wsX4_take := goodIn_r _ [133, 115, 116, 134, 103, 104, 18, 105, 51, 20, 106, 107, 108, 109, 146, 147, 148, 149] (by decide +kernel) (by decide +kernel)
set_option maxRecDepth 20000 in
theorem gX5_divide_X4_take : GoodIn wsX5_divide (wsV RX5 99 RX4 yX4_take wsX4_take) := goodIn_app (goodIn_of _ (by decide +kernel)) ggX5_divide_X4_take
set_option maxRecDepth 20000 in
theorem ggX5_divide_X2_bitLength : GoodIn wsX5_divide wsX2_bitLength := goodIn_r _ [138, 20, 139, 44, 45, 18, 46, 47, 48, 49, 50, 51, 52, 53, 54, 55, 56, 148, 149] (by decide +kernel) (by decide +kernel)
set_option maxRecDepth 20000 in
theorem gX5_divide_X2_bitLength : GoodIn wsX5_divide (wsV RX5 102 RX2 yX2_bitLength wsX2_bitLength) := goodIn_app (goodIn_of _ (by decide +kernel)) ggX5_divide_X2_bitLength
theorem dX5_divide_0 : decode cX5_divide 0 = .ok (.iload_n 1, 1) := by decide +kernel
theorem dX5_divide_1 : decode cX5_divide 1 = .ok (.invokestatic 46, 3) := by decide +kernel
theorem dX5_divide_4 : decode cX5_divide 4 = .ok (.ifCond .eq 18, 3) := by decide +kernel
theorem dX5_divide_7 : decode cX5_divide 7 = .ok (.iload_n 2, 1) := by decide +kernel
theorem dX5_divide_8 : decode cX5_divide 8 = .ok (.iload_n 3, 1) := by decide +kernel
theorem dX5_divide_9 : decode cX5_divide 9 = .ok (.iload 4, 2) := by decide +kernel
theorem dX5_divide_11 : decode cX5_divide 11 = .ok (.invokestatic 54, 3) := by decide +kernel
theorem dX5_divide_14 : decode cX5_divide 14 = .ok (.ifCond .eq 8, 3) := by decide +kernel
theorem dX5_divide_17 : decode cX5_divide 17 = .ok (.iload_n 1, 1) := by decide +kernel
theorem dX5_divide_18 : decode cX5_divide 18 = .ok (.iload_n 2, 1) := by decide +kernel
theorem dX5_divide_19 : decode cX5_divide 19 = .ok (.if_icmp .ne 5, 3) := by decide +kernel
theorem dX5_divide_22 : decode cX5_divide 22 = .ok (.iconst (-1), 1) := by decide +kernel
theorem dX5_divide_23 : decode cX5_divide 23 = .ok (.ireturn, 1) := by decide +kernel
theorem dX5_divide_24 : decode cX5_divide 24 = .ok (.aload_n 0, 1) := by decide +kernel
theorem dX5_divide_25 : decode cX5_divide 25 = .ok (.getfield 11, 3) := by decide +kernel
theorem dX5_divide_28 : decode cX5_divide 28 = .ok (.iload_n 3, 1) := by decide +kernel
theorem dX5_divide_29 : decode cX5_divide 29 = .ok (.aaload, 1) := by decide +kernel
theorem dX5_divide_30 : decode cX5_divide 30 = .ok (.astore 6, 2) := by decide +kernel
theorem dX5_divide_32 : decode cX5_divide 32 = .ok (.aload_n 0, 1) := by decide +kernel
theorem dX5_divide_33 : decode cX5_divide 33 = .ok (.getfield 11, 3) := by decide +kernel
theorem dX5_divide_36 : decode cX5_divide 36 = .ok (.iload 4, 2) := by decide +kernel
theorem dX5_divide_38 : decode cX5_divide 38 = .ok (.aaload, 1) := by decide +kernel
theorem dX5_divide_39 : decode cX5_divide 39 = .ok (.astore 7, 2) := by decide +kernel
theorem dX5_divide_41 : decode cX5_divide 41 = .ok (.aload 7, 2) := by decide +kernel
theorem dX5_divide_43 : decode cX5_divide 43 = .ok (.getfield 74, 3) := by decide +kernel
theorem dX5_divide_46 : decode cX5_divide 46 = .ok (.invokevirtual 78, 3) := by decide +kernel
theorem dX5_divide_49 : decode cX5_divide 49 = .ok (.ifCond .eq 13, 3) := by decide +kernel
theorem dX5_divide_52 : decode cX5_divide 52 = .ok (.new 84, 3) := by decide +kernel
theorem dX5_divide_55 : decode cX5_divide 55 = .ok (.dup, 1) := by decide +kernel
theorem dX5_divide_56 : decode cX5_divide 56 = .ok (.ldc 86, 2) := by decide +kernel
theorem dX5_divide_58 : decode cX5_divide 58 = .ok (.invokespecial 88, 3) := by decide +kernel
theorem dX5_divide_61 : decode cX5_divide 61 = .ok (.athrow, 1) := by decide +kernel
theorem dX5_divide_62 : decode cX5_divide 62 = .ok (.aload_n 0, 1) := by decide +kernel
theorem dX5_divide_63 : decode cX5_divide 63 = .ok (.aload 6, 2) := by decide +kernel
theorem dX5_divide_65 : decode cX5_divide 65 = .ok (.aload 7, 2) := by decide +kernel
theorem dX5_divide_67 : decode cX5_divide 67 = .ok (.invokevirtual 91, 3) := by decide +kernel
theorem dX5_divide_70 : decode cX5_divide 70 = .ok (.iload 5, 2) := by decide +kernel
theorem dX5_divide_72 : decode cX5_divide 72 = .ok (.ifCond .eq 35, 3) := by decide +kernel
theorem dX5_divide_75 : decode cX5_divide 75 = .ok (.aload 6, 2) := by decide +kernel
theorem dX5_divide_77 : decode cX5_divide 77 = .ok (.getfield 58, 3) := by decide +kernel
theorem dX5_divide_80 : decode cX5_divide 80 = .ok (.aload 7, 2) := by decide +kernel
theorem dX5_divide_82 : decode cX5_divide 82 = .ok (.getfield 58, 3) := by decide +kernel
theorem dX5_divide_85 : decode cX5_divide 85 = .ok (.if_icmp .eq 22, 3) := by decide +kernel
theorem dX5_divide_88 : decode cX5_divide 88 = .ok (.aload_n 0, 1) := by decide +kernel
theorem dX5_divide_89 : decode cX5_divide 89 = .ok (.getfield 20, 3) := by decide +kernel
theorem dX5_divide_92 : decode cX5_divide 92 = .ok (.getfield 74, 3) := by decide +kernel
theorem dX5_divide_95 : decode cX5_divide 95 = .ok (.invokevirtual 78, 3) := by decide +kernel
theorem dX5_divide_98 : decode cX5_divide 98 = .ok (.ifCond .ne 9, 3) := by decide +kernel
theorem dX5_divide_101 : decode cX5_divide 101 = .ok (.aload_n 0, 1) := by decide +kernel
theorem dX5_divide_102 : decode cX5_divide 102 = .ok (.aload 7, 2) := by decide +kernel
theorem dX5_divide_104 : decode cX5_divide 104 = .ok (.invokevirtual 95, 3) := by decide +kernel
theorem dX5_divide_107 : decode cX5_divide 107 = .ok (.aload_n 0, 1) := by decide +kernel
theorem dX5_divide_108 : decode cX5_divide 108 = .ok (.getfield 11, 3) := by decide +kernel
theorem dX5_divide_111 : decode cX5_divide 111 = .ok (.iload_n 1, 1) := by decide +kernel
theorem dX5_divide_112 : decode cX5_divide 112 = .ok (.aaload, 1) := by decide +kernel
theorem dX5_divide_113 : decode cX5_divide 113 = .ok (.aload_n 0, 1) := by decide +kernel
theorem dX5_divide_114 : decode cX5_divide 114 = .ok (.getfield 16, 3) := by decide +kernel
theorem dX5_divide_117 : decode cX5_divide 117 = .ok (.invokevirtual 99, 3) := by decide +kernel
theorem dX5_divide_120 : decode cX5_divide 120 = .ok (.aload_n 0, 1) := by decide +kernel
theorem dX5_divide_121 : decode cX5_divide 121 = .ok (.getfield 11, 3) := by decide +kernel
theorem dX5_divide_124 : decode cX5_divide 124 = .ok (.iload_n 2, 1) := by decide +kernel
theorem dX5_divide_125 : decode cX5_divide 125 = .ok (.aaload, 1) := by decide +kernel
theorem dX5_divide_126 : decode cX5_divide 126 = .ok (.aload_n 0, 1) := by decide +kernel
theorem dX5_divide_127 : decode cX5_divide 127 = .ok (.getfield 20, 3) := by decide +kernel
theorem dX5_divide_130 : decode cX5_divide 130 = .ok (.invokevirtual 99, 3) := by decide +kernel
theorem dX5_divide_133 : decode cX5_divide 133 = .ok (.aload_n 0, 1) := by decide +kernel
theorem dX5_divide_134 : decode cX5_divide 134 = .ok (.getfield 16, 3) := by decide +kernel
theorem dX5_divide_137 : decode cX5_divide 137 = .ok (.getfield 74, 3) := by decide +kernel
theorem dX5_divide_140 : decode cX5_divide 140 = .ok (.invokevirtual 102, 3) := by decide +kernel
theorem dX5_divide_143 : decode cX5_divide 143 = .ok (.ireturn, 1) := by decide +kernel
set_option maxRecDepth 20000 in
theorem ggX5_gcd_X5_areRegisters : GoodIn wsX5_gcd wsX5_areRegisters := goodIn_r _ [8, 9, 10, 7, 11] (by decide +kernel) (by decide +kernel)
set_option maxRecDepth 20000 in
theorem gX5_gcd_X5_areRegisters : GoodIn wsX5_gcd (va_wsS RX5 54 yX5_areRegisters wsX5_areRegisters) := goodIn_app (goodIn_of _ (by decide +kernel)) ggX5_gcd_X5_areRegisters
set_option maxRecDepth 20000 in
theorem ggX5_gcd_X0_commonDivisor : GoodIn wsX5_gcd wsX0_commonDivisor := goodIn_r _ [16, 17, 18, 19, 20, 21, 22, 23, 24, 25, 26, 27, 28, 29, 30, 31, 32, 33, 34, 35, 36, 37, 38, 39, 40, 15, 41, 42, 43, 44, 45, 46, 47, 48, 49, 50, 51, 52, 53, 54, 55, 56, 57, 58, 59, 60, 61, 62, 63, 64, 65, 66, 67, 68, 69, 70, 71, 72, 73, 74, 75, 76, 77, 78, 79, 80, 81, 82, 83, 84, 85, 86, 87, 88, 89, 90, 91, 92, 93, 94, 95, 96, 97, 98, 99, 100, 101, 102, 103, 104, 105, 106, 107, 108, 109, 110, 111, 112, 113, 114, 115, 116, 117, 118, 119, 120, 121, 122, 123, 124, 125, 126, 127, 128, 129, 130, 131, 132, 133, 134, 135, 136, 137, 138, 139, 140, 141, 142, 143, 171, 172, 173, 174, 175, 176, 177, 178, 179, 180, 181, 182] (by decide +kernel) (by decide +kernel)
set_option maxRecDepth 20000 in
theorem gX5_gcd_X0_commonDivisor : GoodIn wsX5_gcd (wsV RX5 106 RX0 yX0_commonDivisor wsX0_commonDivisor) := goodIn_app (goodIn_of _ (by decide +kernel)) ggX5_gcd_X0_commonDivisor
set_option maxRecDepth 20000 in
theorem ggX5_gcd_X2_take : GoodIn wsX5_gcd wsX2_take := goodIn_r _ [29, 25, 24, 30, 31, 32, 33, 178, 179] (by decide +kernel) (by decide +kernel)
set_option maxRecDepth 20000 in
theorem gX5_gcd_X2_take : GoodIn wsX5_gcd (wsV RX5 110 RX2 yX2_take wsX2_take) := goodIn_app (goodIn_of _ (by decide +kernel)) ggX5_gcd_X2_take
set_option maxRecDepth 20000 in
theorem ggX5_gcd_X4_takeSign : GoodIn wsX5_gcd wsX4_takeSign := goodIn_r _ [149, 150, 151, 152, 35, 36, 22, 37, 24, 169, 170, 178, 179] (by decide +kernel) (by decide +kernel)
set_option maxRecDepth 20000 in
theorem gX5_gcd_X4_takeSign : GoodIn wsX5_gcd (wsV RX5 113 RX4 yX4_takeSign wsX4_takeSign) := goodIn_app (goodIn_of _ (by decide +kernel)) ggX5_gcd_X4_takeSign
set_option maxRecDepth 20000 in
theorem ggX5_gcd_X5_keepResult : GoodIn wsX5_gcd wsX5_keepResult := goodIn_r _ [156, 1, 2, 4, 157, 51, 52, 22, 53, 24, 54, 55, 56, 57, 58, 59, 60, 61, 25, 62, 63, 64, 65, 66, 158, 159, 160, 148, 161, 150, 151, 162, 27, 28, 29, 30, 31, 32, 33, 163, 164, 165, 166, 167, 168, 169, 170, 178, 179] (by decide +kernel) (by decide +kernel)
set_option maxRecDepth 20000 in
theorem gX5_gcd_X5_keepResult : GoodIn wsX5_gcd (wsV RX5 66 RX5 yX5_keepResult wsX5_keepResult) := goodIn_app (goodIn_of _ (by decide +kernel)) ggX5_gcd_X5_keepResult
theorem dX5_gcd_0 : decode cX5_gcd 0 = .ok (.iload_n 1, 1) := by decide +kernel
theorem dX5_gcd_1 : decode cX5_gcd 1 = .ok (.iload_n 2, 1) := by decide +kernel
theorem dX5_gcd_2 : decode cX5_gcd 2 = .ok (.iload_n 3, 1) := by decide +kernel
theorem dX5_gcd_3 : decode cX5_gcd 3 = .ok (.invokestatic 54, 3) := by decide +kernel
theorem dX5_gcd_6 : decode cX5_gcd 6 = .ok (.ifCond .ne 5, 3) := by decide +kernel
theorem dX5_gcd_9 : decode cX5_gcd 9 = .ok (.iconst (-1), 1) := by decide +kernel
theorem dX5_gcd_10 : decode cX5_gcd 10 = .ok (.ireturn, 1) := by decide +kernel
theorem dX5_gcd_11 : decode cX5_gcd 11 = .ok (.aload_n 0, 1) := by decide +kernel
theorem dX5_gcd_12 : decode cX5_gcd 12 = .ok (.getfield 16, 3) := by decide +kernel
theorem dX5_gcd_15 : decode cX5_gcd 15 = .ok (.getfield 74, 3) := by decide +kernel
theorem dX5_gcd_18 : decode cX5_gcd 18 = .ok (.aload_n 0, 1) := by decide +kernel
theorem dX5_gcd_19 : decode cX5_gcd 19 = .ok (.getfield 35, 3) := by decide +kernel
theorem dX5_gcd_22 : decode cX5_gcd 22 = .ok (.aload_n 0, 1) := by decide +kernel
theorem dX5_gcd_23 : decode cX5_gcd 23 = .ok (.getfield 11, 3) := by decide +kernel
theorem dX5_gcd_26 : decode cX5_gcd 26 = .ok (.iload_n 2, 1) := by decide +kernel
theorem dX5_gcd_27 : decode cX5_gcd 27 = .ok (.aaload, 1) := by decide +kernel
theorem dX5_gcd_28 : decode cX5_gcd 28 = .ok (.getfield 74, 3) := by decide +kernel
theorem dX5_gcd_31 : decode cX5_gcd 31 = .ok (.aload_n 0, 1) := by decide +kernel
theorem dX5_gcd_32 : decode cX5_gcd 32 = .ok (.getfield 11, 3) := by decide +kernel
theorem dX5_gcd_35 : decode cX5_gcd 35 = .ok (.iload_n 3, 1) := by decide +kernel
theorem dX5_gcd_36 : decode cX5_gcd 36 = .ok (.aaload, 1) := by decide +kernel
theorem dX5_gcd_37 : decode cX5_gcd 37 = .ok (.getfield 74, 3) := by decide +kernel
theorem dX5_gcd_40 : decode cX5_gcd 40 = .ok (.invokevirtual 106, 3) := by decide +kernel
theorem dX5_gcd_43 : decode cX5_gcd 43 = .ok (.invokevirtual 110, 3) := by decide +kernel
theorem dX5_gcd_46 : decode cX5_gcd 46 = .ok (.aload_n 0, 1) := by decide +kernel
theorem dX5_gcd_47 : decode cX5_gcd 47 = .ok (.getfield 16, 3) := by decide +kernel
theorem dX5_gcd_50 : decode cX5_gcd 50 = .ok (.iconst 0, 1) := by decide +kernel
theorem dX5_gcd_51 : decode cX5_gcd 51 = .ok (.invokevirtual 113, 3) := by decide +kernel
theorem dX5_gcd_54 : decode cX5_gcd 54 = .ok (.aload_n 0, 1) := by decide +kernel
theorem dX5_gcd_55 : decode cX5_gcd 55 = .ok (.iload_n 1, 1) := by decide +kernel
theorem dX5_gcd_56 : decode cX5_gcd 56 = .ok (.invokevirtual 66, 3) := by decide +kernel
theorem dX5_gcd_59 : decode cX5_gcd 59 = .ok (.ireturn, 1) := by decide +kernel
set_option maxRecDepth 20000 in
theorem ggX5_root_X5_isRegister : GoodIn wsX5_root wsX5_isRegister := goodIn_r _ [9] (by decide +kernel) (by decide +kernel)
set_option maxRecDepth 20000 in
theorem gX5_root_X5_isRegister : GoodIn wsX5_root (va_wsS RX5 46 yX5_isRegister wsX5_isRegister) := goodIn_app (goodIn_of _ (by decide +kernel)) ggX5_root_X5_isRegister
set_option maxRecDepth 20000 in
theorem ggX5_root_X5_takeRoot : GoodIn wsX5_root wsX5_takeRoot := goodIn_r _ [13, 14, 5, 15, 16, 17, 18, 19, 20, 21, 22, 23, 24, 25, 26, 27, 28, 29, 30, 31, 32, 33, 34, 35, 36, 37, 38, 39, 40, 41, 42, 43, 44, 45, 46, 47, 48, 49, 50, 51, 52, 53, 54, 55, 56, 57, 58, 59, 60, 61, 62, 63, 64, 65, 66, 67, 68, 69, 70, 71, 72, 73, 74, 75, 76, 77, 78, 79, 80, 81, 82, 83, 84, 85, 86, 87, 88, 89, 90, 91, 92, 93, 94, 95, 96, 97, 98, 99, 100, 101, 102, 103, 104, 105, 106, 107, 108, 109, 110, 111, 112, 113, 114, 115, 116, 117, 118, 119, 120, 121, 122, 123, 124, 125, 126, 127, 128, 129, 130, 131, 141, 142, 143, 144, 145, 146, 147, 148, 149, 150, 151, 152, 153] (by decide +kernel) (by decide +kernel)
set_option maxRecDepth 20000 in
theorem gX5_root_X5_takeRoot : GoodIn wsX5_root (wsV RX5 122 RX5 yX5_takeRoot wsX5_takeRoot) := goodIn_app (goodIn_of _ (by decide +kernel)) ggX5_root_X5_takeRoot
set_option maxRecDepth 20000 in
theorem ggX5_root_X5_keepResult : GoodIn wsX5_root wsX5_keepResult := goodIn_r _ [135, 14, 5, 3, 56, 57, 58, 28, 59, 43, 60, 61, 62, 63, 64, 65, 66, 67, 30, 68, 69, 70, 71, 72, 136, 137, 138, 21, 139, 23, 24, 140, 49, 50, 51, 52, 53, 54, 55, 141, 142, 143, 144, 145, 146, 147, 148, 152, 153] (by decide +kernel) (by decide +kernel)
set_option maxRecDepth 20000 in
theorem gX5_root_X5_keepResult : GoodIn wsX5_root (wsV RX5 66 RX5 yX5_keepResult wsX5_keepResult) := goodIn_app (goodIn_of _ (by decide +kernel)) ggX5_root_X5_keepResult
theorem dX5_root_0 : decode cX5_root 0 = .ok (.iload_n 1, 1) := by decide +kernel
theorem dX5_root_1 : decode cX5_root 1 = .ok (.invokestatic 46, 3) := by decide +kernel
theorem dX5_root_4 : decode cX5_root 4 = .ok (.ifCond .eq 10, 3) := by decide +kernel
theorem dX5_root_7 : decode cX5_root 7 = .ok (.iload_n 2, 1) := by decide +kernel
theorem dX5_root_8 : decode cX5_root 8 = .ok (.invokestatic 46, 3) := by decide +kernel
theorem dX5_root_11 : decode cX5_root 11 = .ok (.ifCond .ne 5, 3) := by decide +kernel
theorem dX5_root_14 : decode cX5_root 14 = .ok (.iconst (-1), 1) := by decide +kernel
theorem dX5_root_15 : decode cX5_root 15 = .ok (.ireturn, 1) := by decide +kernel
theorem dX5_root_16 : decode cX5_root 16 = .ok (.aload_n 0, 1) := by decide +kernel
theorem dX5_root_17 : decode cX5_root 17 = .ok (.getfield 11, 3) := by decide +kernel
theorem dX5_root_20 : decode cX5_root 20 = .ok (.iload_n 2, 1) := by decide +kernel
theorem dX5_root_21 : decode cX5_root 21 = .ok (.aaload, 1) := by decide +kernel
theorem dX5_root_22 : decode cX5_root 22 = .ok (.getfield 58, 3) := by decide +kernel
theorem dX5_root_25 : decode cX5_root 25 = .ok (.ifCond .eq 13, 3) := by decide +kernel
theorem dX5_root_28 : decode cX5_root 28 = .ok (.new 117, 3) := by decide +kernel
theorem dX5_root_31 : decode cX5_root 31 = .ok (.dup, 1) := by decide +kernel
theorem dX5_root_32 : decode cX5_root 32 = .ok (.ldc 119, 2) := by decide +kernel
theorem dX5_root_34 : decode cX5_root 34 = .ok (.invokespecial 121, 3) := by decide +kernel
theorem dX5_root_37 : decode cX5_root 37 = .ok (.athrow, 1) := by decide +kernel
theorem dX5_root_38 : decode cX5_root 38 = .ok (.aload_n 0, 1) := by decide +kernel
theorem dX5_root_39 : decode cX5_root 39 = .ok (.aload_n 0, 1) := by decide +kernel
theorem dX5_root_40 : decode cX5_root 40 = .ok (.getfield 11, 3) := by decide +kernel
theorem dX5_root_43 : decode cX5_root 43 = .ok (.iload_n 2, 1) := by decide +kernel
theorem dX5_root_44 : decode cX5_root 44 = .ok (.aaload, 1) := by decide +kernel
theorem dX5_root_45 : decode cX5_root 45 = .ok (.getfield 74, 3) := by decide +kernel
theorem dX5_root_48 : decode cX5_root 48 = .ok (.invokevirtual 122, 3) := by decide +kernel
theorem dX5_root_51 : decode cX5_root 51 = .ok (.aload_n 0, 1) := by decide +kernel
theorem dX5_root_52 : decode cX5_root 52 = .ok (.iload_n 1, 1) := by decide +kernel
theorem dX5_root_53 : decode cX5_root 53 = .ok (.invokevirtual 66, 3) := by decide +kernel
theorem dX5_root_56 : decode cX5_root 56 = .ok (.ireturn, 1) := by decide +kernel
set_option maxRecDepth 20000 in
theorem ggX5_shift_X5_isRegister : GoodIn wsX5_shift wsX5_isRegister := goodIn_r _ [8] (by decide +kernel) (by decide +kernel)
set_option maxRecDepth 20000 in
theorem gX5_shift_X5_isRegister : GoodIn wsX5_shift (va_wsS RX5 46 yX5_isRegister wsX5_isRegister) := goodIn_app (goodIn_of _ (by decide +kernel)) ggX5_shift_X5_isRegister
set_option maxRecDepth 20000 in
theorem ggX5_shift_X2_shiftDown : GoodIn wsX5_shift wsX2_shiftDown := goodIn_r _ [13, 14, 15, 16, 17, 18, 19, 20, 21, 22, 12, 23, 24, 25, 26, 27, 28, 29, 30, 31, 32, 33, 34, 35, 89, 90] (by decide +kernel) (by decide +kernel)
set_option maxRecDepth 20000 in
theorem gX5_shift_X2_shiftDown : GoodIn wsX5_shift (wsV RX5 125 RX2 yX2_shiftDown wsX2_shiftDown) := goodIn_app (goodIn_of _ (by decide +kernel)) ggX5_shift_X2_shiftDown
set_option maxRecDepth 20000 in
theorem ggX5_shift_X2_isZero : GoodIn wsX5_shift wsX2_isZero := goodIn_r _ [39, 14, 89, 90] (by decide +kernel) (by decide +kernel)
set_option maxRecDepth 20000 in
theorem gX5_shift_X2_isZero : GoodIn wsX5_shift (wsV RX5 78 RX2 yX2_isZero wsX2_isZero) := goodIn_app (goodIn_of _ (by decide +kernel)) ggX5_shift_X2_isZero
set_option maxRecDepth 20000 in
theorem ggX5_shift_X2_bitLength : GoodIn wsX5_shift wsX2_bitLength := goodIn_r _ [43, 14, 44, 45, 46, 12, 47, 25, 26, 27, 28, 19, 48, 49, 50, 51, 52, 89, 90] (by decide +kernel) (by decide +kernel)
set_option maxRecDepth 20000 in
theorem gX5_shift_X2_bitLength : GoodIn wsX5_shift (wsV RX5 102 RX2 yX2_bitLength wsX2_bitLength) := goodIn_app (goodIn_of _ (by decide +kernel)) ggX5_shift_X2_bitLength
set_option maxRecDepth 20000 in
theorem ggX5_shift_X2_shiftUp : GoodIn wsX5_shift wsX2_shiftUp := goodIn_r _ [56, 14, 33, 34, 17, 35, 19, 24, 25, 26, 27, 12, 28, 29, 30, 31, 32, 15, 16, 18, 89, 90] (by decide +kernel) (by decide +kernel)
set_option maxRecDepth 20000 in
theorem gX5_shift_X2_shiftUp : GoodIn wsX5_shift (wsV RX5 129 RX2 yX2_shiftUp wsX2_shiftUp) := goodIn_app (goodIn_of _ (by decide +kernel)) ggX5_shift_X2_shiftUp
set_option maxRecDepth 20000 in
theorem ggX5_shift_X4_takeSign : GoodIn wsX5_shift wsX4_takeSign := goodIn_r _ [61, 62, 63, 64, 37, 38, 12, 39, 14, 87, 88, 89, 90] (by decide +kernel) (by decide +kernel)
set_option maxRecDepth 20000 in
theorem gX5_shift_X4_takeSign : GoodIn wsX5_shift (wsV RX5 113 RX4 yX4_takeSign wsX4_takeSign) := goodIn_app (goodIn_of _ (by decide +kernel)) ggX5_shift_X4_takeSign
set_option maxRecDepth 20000 in
theorem ggX5_shift_X5_keepResult : GoodIn wsX5_shift wsX5_keepResult := goodIn_r _ [68, 2, 3, 1, 40, 41, 42, 12, 43, 14, 44, 45, 46, 47, 25, 26, 27, 28, 19, 48, 49, 50, 51, 52, 69, 70, 71, 60, 72, 62, 63, 73, 74, 75, 76, 77, 78, 79, 80, 81, 82, 83, 84, 85, 86, 87, 88, 89, 90] (by decide +kernel) (by decide +kernel)
set_option maxRecDepth 20000 in
theorem gX5_shift_X5_keepResult : GoodIn wsX5_shift (wsV RX5 66 RX5 yX5_keepResult wsX5_keepResult) := goodIn_app (goodIn_of _ (by decide +kernel)) ggX5_shift_X5_keepResult
theorem dX5_shift_0 : decode cX5_shift 0 = .ok (.iload_n 1, 1) := by decide +kernel
theorem dX5_shift_1 : decode cX5_shift 1 = .ok (.invokestatic 46, 3) := by decide +kernel
theorem dX5_shift_4 : decode cX5_shift 4 = .ok (.ifCond .eq 24, 3) := by decide +kernel
theorem dX5_shift_7 : decode cX5_shift 7 = .ok (.iload_n 2, 1) := by decide +kernel
theorem dX5_shift_8 : decode cX5_shift 8 = .ok (.invokestatic 46, 3) := by decide +kernel
theorem dX5_shift_11 : decode cX5_shift 11 = .ok (.ifCond .eq 17, 3) := by decide +kernel
theorem dX5_shift_14 : decode cX5_shift 14 = .ok (.iload_n 3, 1) := by decide +kernel
theorem dX5_shift_15 : decode cX5_shift 15 = .ok (.sipush (-4096), 3) := by decide +kernel
theorem dX5_shift_18 : decode cX5_shift 18 = .ok (.if_icmp .lt 10, 3) := by decide +kernel
theorem dX5_shift_21 : decode cX5_shift 21 = .ok (.iload_n 3, 1) := by decide +kernel
theorem dX5_shift_22 : decode cX5_shift 22 = .ok (.sipush 4096, 3) := by decide +kernel
theorem dX5_shift_25 : decode cX5_shift 25 = .ok (.if_icmp .le 5, 3) := by decide +kernel
theorem dX5_shift_28 : decode cX5_shift 28 = .ok (.iconst (-1), 1) := by decide +kernel
theorem dX5_shift_29 : decode cX5_shift 29 = .ok (.ireturn, 1) := by decide +kernel
theorem dX5_shift_30 : decode cX5_shift 30 = .ok (.aload_n 0, 1) := by decide +kernel
theorem dX5_shift_31 : decode cX5_shift 31 = .ok (.getfield 11, 3) := by decide +kernel
theorem dX5_shift_34 : decode cX5_shift 34 = .ok (.iload_n 2, 1) := by decide +kernel
theorem dX5_shift_35 : decode cX5_shift 35 = .ok (.aaload, 1) := by decide +kernel
theorem dX5_shift_36 : decode cX5_shift 36 = .ok (.astore 4, 2) := by decide +kernel
theorem dX5_shift_38 : decode cX5_shift 38 = .ok (.iload_n 3, 1) := by decide +kernel
theorem dX5_shift_39 : decode cX5_shift 39 = .ok (.ifCond .gt 23, 3) := by decide +kernel
theorem dX5_shift_42 : decode cX5_shift 42 = .ok (.aload_n 0, 1) := by decide +kernel
theorem dX5_shift_43 : decode cX5_shift 43 = .ok (.getfield 16, 3) := by decide +kernel
theorem dX5_shift_46 : decode cX5_shift 46 = .ok (.getfield 74, 3) := by decide +kernel
theorem dX5_shift_49 : decode cX5_shift 49 = .ok (.aload 4, 2) := by decide +kernel
theorem dX5_shift_51 : decode cX5_shift 51 = .ok (.getfield 74, 3) := by decide +kernel
theorem dX5_shift_54 : decode cX5_shift 54 = .ok (.iload_n 3, 1) := by decide +kernel
theorem dX5_shift_55 : decode cX5_shift 55 = .ok (.ineg, 1) := by decide +kernel
theorem dX5_shift_56 : decode cX5_shift 56 = .ok (.invokevirtual 125, 3) := by decide +kernel
theorem dX5_shift_59 : decode cX5_shift 59 = .ok (.goto 51, 3) := by decide +kernel
theorem dX5_shift_62 : decode cX5_shift 62 = .ok (.aload 4, 2) := by decide +kernel
theorem dX5_shift_64 : decode cX5_shift 64 = .ok (.getfield 74, 3) := by decide +kernel
theorem dX5_shift_67 : decode cX5_shift 67 = .ok (.invokevirtual 78, 3) := by decide +kernel
theorem dX5_shift_70 : decode cX5_shift 70 = .ok (.ifCond .ne 19, 3) := by decide +kernel
theorem dX5_shift_73 : decode cX5_shift 73 = .ok (.aload 4, 2) := by decide +kernel
theorem dX5_shift_75 : decode cX5_shift 75 = .ok (.getfield 74, 3) := by decide +kernel
theorem dX5_shift_78 : decode cX5_shift 78 = .ok (.invokevirtual 102, 3) := by decide +kernel
theorem dX5_shift_81 : decode cX5_shift 81 = .ok (.iload_n 3, 1) := by decide +kernel
theorem dX5_shift_82 : decode cX5_shift 82 = .ok (.iadd, 1) := by decide +kernel
theorem dX5_shift_83 : decode cX5_shift 83 = .ok (.sipush 4096, 3) := by decide +kernel
theorem dX5_shift_86 : decode cX5_shift 86 = .ok (.if_icmp .gt 22, 3) := by decide +kernel
theorem dX5_shift_89 : decode cX5_shift 89 = .ok (.aload_n 0, 1) := by decide +kernel
theorem dX5_shift_90 : decode cX5_shift 90 = .ok (.getfield 16, 3) := by decide +kernel
theorem dX5_shift_93 : decode cX5_shift 93 = .ok (.getfield 74, 3) := by decide +kernel
theorem dX5_shift_96 : decode cX5_shift 96 = .ok (.aload 4, 2) := by decide +kernel
theorem dX5_shift_98 : decode cX5_shift 98 = .ok (.getfield 74, 3) := by decide +kernel
theorem dX5_shift_101 : decode cX5_shift 101 = .ok (.iload_n 3, 1) := by decide +kernel
theorem dX5_shift_102 : decode cX5_shift 102 = .ok (.invokevirtual 129, 3) := by decide +kernel
theorem dX5_shift_105 : decode cX5_shift 105 = .ok (.goto 5, 3) := by decide +kernel
theorem dX5_shift_108 : decode cX5_shift 108 = .ok (.iconst (-1), 1) := by decide +kernel
theorem dX5_shift_109 : decode cX5_shift 109 = .ok (.ireturn, 1) := by decide +kernel
theorem dX5_shift_110 : decode cX5_shift 110 = .ok (.aload_n 0, 1) := by decide +kernel
theorem dX5_shift_111 : decode cX5_shift 111 = .ok (.getfield 16, 3) := by decide +kernel
theorem dX5_shift_114 : decode cX5_shift 114 = .ok (.aload 4, 2) := by decide +kernel
theorem dX5_shift_116 : decode cX5_shift 116 = .ok (.getfield 58, 3) := by decide +kernel
theorem dX5_shift_119 : decode cX5_shift 119 = .ok (.invokevirtual 113, 3) := by decide +kernel
theorem dX5_shift_122 : decode cX5_shift 122 = .ok (.aload_n 0, 1) := by decide +kernel
theorem dX5_shift_123 : decode cX5_shift 123 = .ok (.iload_n 1, 1) := by decide +kernel
theorem dX5_shift_124 : decode cX5_shift 124 = .ok (.invokevirtual 66, 3) := by decide +kernel
theorem dX5_shift_127 : decode cX5_shift 127 = .ok (.ireturn, 1) := by decide +kernel
set_option maxRecDepth 20000 in
theorem ggX5_power_X5_isRegister : GoodIn wsX5_power wsX5_isRegister := goodIn_r _ [5] (by decide +kernel) (by decide +kernel)
set_option maxRecDepth 20000 in
theorem gX5_power_X5_isRegister : GoodIn wsX5_power (va_wsS RX5 46 yX5_isRegister wsX5_isRegister) := goodIn_app (goodIn_of _ (by decide +kernel)) ggX5_power_X5_isRegister
set_option maxRecDepth 20000 in
theorem ggX5_power_X5_takePower : GoodIn wsX5_power wsX5_takePower := goodIn_r _ [9, 10, 11, 12, 13, 14, 15, 16, 17, 18, 19, 20, 21, 22, 23, 24, 25, 26, 27, 28, 29, 30, 31, 32, 33, 34, 35, 36, 37, 38, 39, 4, 40, 41, 42, 43, 44, 45, 46, 47, 48, 49, 50, 51, 52, 53, 54, 55, 56, 57, 58, 59, 60, 61, 62, 63, 64, 65, 66, 67, 68, 69, 70, 71, 72, 73, 74, 75, 76, 77, 78, 79, 80, 81, 82, 83, 84, 85, 86, 87, 88, 89, 90, 91, 92, 97, 98, 99, 100, 101, 102, 103, 104, 105, 106] (by decide +kernel) (by decide +kernel)
set_option maxRecDepth 20000 in
theorem gX5_power_X5_takePower : GoodIn wsX5_power (wsV RX5 132 RX5 yX5_takePower wsX5_takePower) := goodIn_app (goodIn_of _ (by decide +kernel)) ggX5_power_X5_takePower
set_option maxRecDepth 20000 in
theorem ggX5_power_X5_keepResult : GoodIn wsX5_power wsX5_keepResult := goodIn_r _ [96, 10, 42, 1, 80, 48, 49, 21, 50, 36, 51, 52, 53, 54, 55, 56, 57, 58, 23, 59, 60, 61, 62, 63, 81, 82, 83, 14, 84, 16, 17, 85, 86, 87, 88, 89, 90, 91, 92, 97, 98, 99, 100, 101, 102, 103, 104, 105, 106] (by decide +kernel) (by decide +kernel)
set_option maxRecDepth 20000 in
theorem gX5_power_X5_keepResult : GoodIn wsX5_power (wsV RX5 66 RX5 yX5_keepResult wsX5_keepResult) := goodIn_app (goodIn_of _ (by decide +kernel)) ggX5_power_X5_keepResult
theorem dX5_power_0 : decode cX5_power 0 = .ok (.iload_n 1, 1) := by decide +kernel
theorem dX5_power_1 : decode cX5_power 1 = .ok (.invokestatic 46, 3) := by decide +kernel
theorem dX5_power_4 : decode cX5_power 4 = .ok (.ifCond .eq 21, 3) := by decide +kernel
theorem dX5_power_7 : decode cX5_power 7 = .ok (.iload_n 2, 1) := by decide +kernel
theorem dX5_power_8 : decode cX5_power 8 = .ok (.invokestatic 46, 3) := by decide +kernel
theorem dX5_power_11 : decode cX5_power 11 = .ok (.ifCond .eq 14, 3) := by decide +kernel
theorem dX5_power_14 : decode cX5_power 14 = .ok (.iload_n 3, 1) := by decide +kernel
theorem dX5_power_15 : decode cX5_power 15 = .ok (.ifCond .lt 10, 3) := by decide +kernel
theorem dX5_power_18 : decode cX5_power 18 = .ok (.iload_n 3, 1) := by decide +kernel
theorem dX5_power_19 : decode cX5_power 19 = .ok (.sipush 4096, 3) := by decide +kernel
theorem dX5_power_22 : decode cX5_power 22 = .ok (.if_icmp .le 5, 3) := by decide +kernel
theorem dX5_power_25 : decode cX5_power 25 = .ok (.iconst (-1), 1) := by decide +kernel
theorem dX5_power_26 : decode cX5_power 26 = .ok (.ireturn, 1) := by decide +kernel
theorem dX5_power_27 : decode cX5_power 27 = .ok (.aload_n 0, 1) := by decide +kernel
theorem dX5_power_28 : decode cX5_power 28 = .ok (.aload_n 0, 1) := by decide +kernel
theorem dX5_power_29 : decode cX5_power 29 = .ok (.getfield 11, 3) := by decide +kernel
theorem dX5_power_32 : decode cX5_power 32 = .ok (.iload_n 2, 1) := by decide +kernel
theorem dX5_power_33 : decode cX5_power 33 = .ok (.aaload, 1) := by decide +kernel
theorem dX5_power_34 : decode cX5_power 34 = .ok (.iload_n 3, 1) := by decide +kernel
theorem dX5_power_35 : decode cX5_power 35 = .ok (.invokevirtual 132, 3) := by decide +kernel
theorem dX5_power_38 : decode cX5_power 38 = .ok (.ifCond .eq 11, 3) := by decide +kernel
theorem dX5_power_41 : decode cX5_power 41 = .ok (.aload_n 0, 1) := by decide +kernel
theorem dX5_power_42 : decode cX5_power 42 = .ok (.iload_n 1, 1) := by decide +kernel
theorem dX5_power_43 : decode cX5_power 43 = .ok (.invokevirtual 66, 3) := by decide +kernel
theorem dX5_power_46 : decode cX5_power 46 = .ok (.goto 4, 3) := by decide +kernel
theorem dX5_power_49 : decode cX5_power 49 = .ok (.iconst (-1), 1) := by decide +kernel
theorem dX5_power_50 : decode cX5_power 50 = .ok (.ireturn, 1) := by decide +kernel
set_option maxRecDepth 20000 in
theorem ggX5_compare_X5_isRegister : GoodIn wsX5_compare wsX5_isRegister := goodIn_r _ [5] (by decide +kernel) (by decide +kernel)
set_option maxRecDepth 20000 in
theorem gX5_compare_X5_isRegister : GoodIn wsX5_compare (va_wsS RX5 46 yX5_isRegister wsX5_isRegister) := goodIn_app (goodIn_of _ (by decide +kernel)) ggX5_compare_X5_isRegister
set_option maxRecDepth 20000 in
theorem ggX5_compare_X4_order : GoodIn wsX5_compare wsX4_order := goodIn_r _ [10, 11, 12, 13, 14, 15, 16, 17, 18, 19, 26, 27, 28, 29] (by decide +kernel) (by decide +kernel)
set_option maxRecDepth 20000 in
theorem gX5_compare_X4_order : GoodIn wsX5_compare (wsV RX5 136 RX4 yX4_order wsX4_order) := goodIn_app (goodIn_of _ (by decide +kernel)) ggX5_compare_X4_order
theorem dX5_compare_0 : decode cX5_compare 0 = .ok (.iload_n 1, 1) := by decide +kernel
theorem dX5_compare_1 : decode cX5_compare 1 = .ok (.invokestatic 46, 3) := by decide +kernel
theorem dX5_compare_4 : decode cX5_compare 4 = .ok (.ifCond .eq 10, 3) := by decide +kernel
theorem dX5_compare_7 : decode cX5_compare 7 = .ok (.iload_n 2, 1) := by decide +kernel
theorem dX5_compare_8 : decode cX5_compare 8 = .ok (.invokestatic 46, 3) := by decide +kernel
theorem dX5_compare_11 : decode cX5_compare 11 = .ok (.ifCond .ne 5, 3) := by decide +kernel
theorem dX5_compare_14 : decode cX5_compare 14 = .ok (.iconst 2, 1) := by decide +kernel
theorem dX5_compare_15 : decode cX5_compare 15 = .ok (.ireturn, 1) := by decide +kernel
theorem dX5_compare_16 : decode cX5_compare 16 = .ok (.aload_n 0, 1) := by decide +kernel
theorem dX5_compare_17 : decode cX5_compare 17 = .ok (.getfield 11, 3) := by decide +kernel
theorem dX5_compare_20 : decode cX5_compare 20 = .ok (.iload_n 1, 1) := by decide +kernel
theorem dX5_compare_21 : decode cX5_compare 21 = .ok (.aaload, 1) := by decide +kernel
theorem dX5_compare_22 : decode cX5_compare 22 = .ok (.aload_n 0, 1) := by decide +kernel
theorem dX5_compare_23 : decode cX5_compare 23 = .ok (.getfield 11, 3) := by decide +kernel
theorem dX5_compare_26 : decode cX5_compare 26 = .ok (.iload_n 2, 1) := by decide +kernel
theorem dX5_compare_27 : decode cX5_compare 27 = .ok (.aaload, 1) := by decide +kernel
theorem dX5_compare_28 : decode cX5_compare 28 = .ok (.invokevirtual 136, 3) := by decide +kernel
theorem dX5_compare_31 : decode cX5_compare 31 = .ok (.ireturn, 1) := by decide +kernel
set_option maxRecDepth 20000 in
theorem ggX5_sign_X5_isRegister : GoodIn wsX5_sign wsX5_isRegister := goodIn_r _ [5] (by decide +kernel) (by decide +kernel)
set_option maxRecDepth 20000 in
theorem gX5_sign_X5_isRegister : GoodIn wsX5_sign (va_wsS RX5 46 yX5_isRegister wsX5_isRegister) := goodIn_app (goodIn_of _ (by decide +kernel)) ggX5_sign_X5_isRegister
set_option maxRecDepth 20000 in
theorem ggX5_sign_X4_direction : GoodIn wsX5_sign wsX4_direction := goodIn_r _ [10, 11, 12, 13, 14, 15, 16, 17, 18, 25, 26, 27, 28] (by decide +kernel) (by decide +kernel)
set_option maxRecDepth 20000 in
theorem gX5_sign_X4_direction : GoodIn wsX5_sign (wsV RX5 140 RX4 yX4_direction wsX4_direction) := goodIn_app (goodIn_of _ (by decide +kernel)) ggX5_sign_X4_direction
theorem dX5_sign_0 : decode cX5_sign 0 = .ok (.iload_n 1, 1) := by decide +kernel
theorem dX5_sign_1 : decode cX5_sign 1 = .ok (.invokestatic 46, 3) := by decide +kernel
theorem dX5_sign_4 : decode cX5_sign 4 = .ok (.ifCond .eq 15, 3) := by decide +kernel
theorem dX5_sign_7 : decode cX5_sign 7 = .ok (.aload_n 0, 1) := by decide +kernel
theorem dX5_sign_8 : decode cX5_sign 8 = .ok (.getfield 11, 3) := by decide +kernel
theorem dX5_sign_11 : decode cX5_sign 11 = .ok (.iload_n 1, 1) := by decide +kernel
theorem dX5_sign_12 : decode cX5_sign 12 = .ok (.aaload, 1) := by decide +kernel
theorem dX5_sign_13 : decode cX5_sign 13 = .ok (.invokevirtual 140, 3) := by decide +kernel
theorem dX5_sign_16 : decode cX5_sign 16 = .ok (.goto 4, 3) := by decide +kernel
theorem dX5_sign_19 : decode cX5_sign 19 = .ok (.iconst 2, 1) := by decide +kernel
theorem dX5_sign_20 : decode cX5_sign 20 = .ok (.ireturn, 1) := by decide +kernel
set_option maxRecDepth 20000 in
theorem ggX5_bits_X5_isRegister : GoodIn wsX5_bits wsX5_isRegister := goodIn_r _ [6] (by decide +kernel) (by decide +kernel)
set_option maxRecDepth 20000 in
theorem gX5_bits_X5_isRegister : GoodIn wsX5_bits (va_wsS RX5 46 yX5_isRegister wsX5_isRegister) := goodIn_app (goodIn_of _ (by decide +kernel)) ggX5_bits_X5_isRegister
set_option maxRecDepth 20000 in
theorem ggX5_bits_X2_bitLength : GoodIn wsX5_bits wsX2_bitLength := goodIn_r _ [11, 12, 13, 14, 15, 10, 16, 17, 18, 19, 20, 21, 22, 23, 24, 25, 26, 35, 36] (by decide +kernel) (by decide +kernel)
set_option maxRecDepth 20000 in
theorem gX5_bits_X2_bitLength : GoodIn wsX5_bits (wsV RX5 102 RX2 yX2_bitLength wsX2_bitLength) := goodIn_app (goodIn_of _ (by decide +kernel)) ggX5_bits_X2_bitLength
theorem dX5_bits_0 : decode cX5_bits 0 = .ok (.iload_n 1, 1) := by decide +kernel
theorem dX5_bits_1 : decode cX5_bits 1 = .ok (.invokestatic 46, 3) := by decide +kernel
theorem dX5_bits_4 : decode cX5_bits 4 = .ok (.ifCond .eq 18, 3) := by decide +kernel
theorem dX5_bits_7 : decode cX5_bits 7 = .ok (.aload_n 0, 1) := by decide +kernel
theorem dX5_bits_8 : decode cX5_bits 8 = .ok (.getfield 11, 3) := by decide +kernel
theorem dX5_bits_11 : decode cX5_bits 11 = .ok (.iload_n 1, 1) := by decide +kernel
theorem dX5_bits_12 : decode cX5_bits 12 = .ok (.aaload, 1) := by decide +kernel
theorem dX5_bits_13 : decode cX5_bits 13 = .ok (.getfield 74, 3) := by decide +kernel
theorem dX5_bits_16 : decode cX5_bits 16 = .ok (.invokevirtual 102, 3) := by decide +kernel
theorem dX5_bits_19 : decode cX5_bits 19 = .ok (.goto 4, 3) := by decide +kernel
theorem dX5_bits_22 : decode cX5_bits 22 = .ok (.iconst (-1), 1) := by decide +kernel
theorem dX5_bits_23 : decode cX5_bits 23 = .ok (.ireturn, 1) := by decide +kernel
set_option maxRecDepth 20000 in
theorem ggX5_part_X5_isRegister : GoodIn wsX5_part wsX5_isRegister := goodIn_r _ [6] (by decide +kernel) (by decide +kernel)
set_option maxRecDepth 20000 in
theorem gX5_part_X5_isRegister : GoodIn wsX5_part (va_wsS RX5 46 yX5_isRegister wsX5_isRegister) := goodIn_app (goodIn_of _ (by decide +kernel)) ggX5_part_X5_isRegister
set_option maxRecDepth 20000 in
theorem ggX5_part_X2_limbFrom : GoodIn wsX5_part wsX2_limbFrom := goodIn_r _ [11, 12, 13, 14, 15, 10, 16, 17, 18, 27, 28] (by decide +kernel) (by decide +kernel)
set_option maxRecDepth 20000 in
theorem gX5_part_X2_limbFrom : GoodIn wsX5_part (wsV RX5 143 RX2 yX2_limbFrom wsX2_limbFrom) := goodIn_app (goodIn_of _ (by decide +kernel)) ggX5_part_X2_limbFrom
theorem dX5_part_0 : decode cX5_part 0 = .ok (.iload_n 1, 1) := by decide +kernel
theorem dX5_part_1 : decode cX5_part 1 = .ok (.invokestatic 46, 3) := by decide +kernel
theorem dX5_part_4 : decode cX5_part 4 = .ok (.ifCond .eq 23, 3) := by decide +kernel
theorem dX5_part_7 : decode cX5_part 7 = .ok (.iload_n 2, 1) := by decide +kernel
theorem dX5_part_8 : decode cX5_part 8 = .ok (.ifCond .lt 19, 3) := by decide +kernel
theorem dX5_part_11 : decode cX5_part 11 = .ok (.aload_n 0, 1) := by decide +kernel
theorem dX5_part_12 : decode cX5_part 12 = .ok (.getfield 11, 3) := by decide +kernel
theorem dX5_part_15 : decode cX5_part 15 = .ok (.iload_n 1, 1) := by decide +kernel
theorem dX5_part_16 : decode cX5_part 16 = .ok (.aaload, 1) := by decide +kernel
theorem dX5_part_17 : decode cX5_part 17 = .ok (.getfield 74, 3) := by decide +kernel
theorem dX5_part_20 : decode cX5_part 20 = .ok (.iload_n 2, 1) := by decide +kernel
theorem dX5_part_21 : decode cX5_part 21 = .ok (.invokevirtual 143, 3) := by decide +kernel
theorem dX5_part_24 : decode cX5_part 24 = .ok (.goto 4, 3) := by decide +kernel
theorem dX5_part_27 : decode cX5_part 27 = .ok (.iconst (-1), 1) := by decide +kernel
theorem dX5_part_28 : decode cX5_part 28 = .ok (.ireturn, 1) := by decide +kernel
set_option maxRecDepth 20000 in
theorem ggX5_hasBelow_X5_isRegister : GoodIn wsX5_hasBelow wsX5_isRegister := goodIn_r _ [6] (by decide +kernel) (by decide +kernel)
set_option maxRecDepth 20000 in
theorem gX5_hasBelow_X5_isRegister : GoodIn wsX5_hasBelow (va_wsS RX5 46 yX5_isRegister wsX5_isRegister) := goodIn_app (goodIn_of _ (by decide +kernel)) ggX5_hasBelow_X5_isRegister
set_option maxRecDepth 20000 in
theorem ggX5_hasBelow_X2_anyBitBelow : GoodIn wsX5_hasBelow wsX2_anyBitBelow := goodIn_r _ [11, 12, 13, 14, 15, 16, 10, 17, 26, 27] (by decide +kernel) (by decide +kernel)
set_option maxRecDepth 20000 in
theorem gX5_hasBelow_X2_anyBitBelow : GoodIn wsX5_hasBelow (wsV RX5 146 RX2 yX2_anyBitBelow wsX2_anyBitBelow) := goodIn_app (goodIn_of _ (by decide +kernel)) ggX5_hasBelow_X2_anyBitBelow
theorem dX5_hasBelow_0 : decode cX5_hasBelow 0 = .ok (.iload_n 1, 1) := by decide +kernel
theorem dX5_hasBelow_1 : decode cX5_hasBelow 1 = .ok (.invokestatic 46, 3) := by decide +kernel
theorem dX5_hasBelow_4 : decode cX5_hasBelow 4 = .ok (.ifCond .eq 28, 3) := by decide +kernel
theorem dX5_hasBelow_7 : decode cX5_hasBelow 7 = .ok (.iload_n 2, 1) := by decide +kernel
theorem dX5_hasBelow_8 : decode cX5_hasBelow 8 = .ok (.iconst 1, 1) := by decide +kernel
theorem dX5_hasBelow_9 : decode cX5_hasBelow 9 = .ok (.if_icmp .lt 23, 3) := by decide +kernel
theorem dX5_hasBelow_12 : decode cX5_hasBelow 12 = .ok (.aload_n 0, 1) := by decide +kernel
theorem dX5_hasBelow_13 : decode cX5_hasBelow 13 = .ok (.getfield 11, 3) := by decide +kernel
theorem dX5_hasBelow_16 : decode cX5_hasBelow 16 = .ok (.iload_n 1, 1) := by decide +kernel
theorem dX5_hasBelow_17 : decode cX5_hasBelow 17 = .ok (.aaload, 1) := by decide +kernel
theorem dX5_hasBelow_18 : decode cX5_hasBelow 18 = .ok (.getfield 74, 3) := by decide +kernel
theorem dX5_hasBelow_21 : decode cX5_hasBelow 21 = .ok (.iload_n 2, 1) := by decide +kernel
theorem dX5_hasBelow_22 : decode cX5_hasBelow 22 = .ok (.invokevirtual 146, 3) := by decide +kernel
theorem dX5_hasBelow_25 : decode cX5_hasBelow 25 = .ok (.ifCond .eq 7, 3) := by decide +kernel
theorem dX5_hasBelow_28 : decode cX5_hasBelow 28 = .ok (.iconst 1, 1) := by decide +kernel
theorem dX5_hasBelow_29 : decode cX5_hasBelow 29 = .ok (.goto 4, 3) := by decide +kernel
theorem dX5_hasBelow_32 : decode cX5_hasBelow 32 = .ok (.iconst 0, 1) := by decide +kernel
theorem dX5_hasBelow_33 : decode cX5_hasBelow 33 = .ok (.ireturn, 1) := by decide +kernel
set_option maxRecDepth 20000 in
theorem ggX5_low_X5_fits : GoodIn wsX5_low wsX5_fits := goodIn_r _ [6, 1, 7, 8, 5, 9, 10, 11, 12, 13, 14, 15, 16, 17, 18, 19, 20, 21, 22, 23, 24, 25, 26, 27, 28, 29, 30, 31, 32, 33, 34, 35, 36, 37, 38, 39, 40, 49, 50, 51, 52, 53, 54, 55, 56, 57, 58] (by decide +kernel) (by decide +kernel)
set_option maxRecDepth 20000 in
theorem gX5_low_X5_fits : GoodIn wsX5_low (wsV RX5 149 RX5 yX5_fits wsX5_fits) := goodIn_app (goodIn_of _ (by decide +kernel)) ggX5_low_X5_fits
set_option maxRecDepth 20000 in
theorem ggX5_low_X4_asLong : GoodIn wsX5_low wsX4_asLong := goodIn_r _ [44, 16, 15, 45, 46, 47, 20, 48, 27, 28, 29, 30, 22, 31, 55, 56, 57, 58] (by decide +kernel) (by decide +kernel)
set_option maxRecDepth 20000 in
theorem gX5_low_X4_asLong : GoodIn wsX5_low (wsV RX5 152 RX4 yX4_asLong wsX4_asLong) := goodIn_app (goodIn_of _ (by decide +kernel)) ggX5_low_X4_asLong
theorem dX5_low_0 : decode cX5_low 0 = .ok (.aload_n 0, 1) := by decide +kernel
theorem dX5_low_1 : decode cX5_low 1 = .ok (.iload_n 1, 1) := by decide +kernel
theorem dX5_low_2 : decode cX5_low 2 = .ok (.invokevirtual 149, 3) := by decide +kernel
theorem dX5_low_5 : decode cX5_low 5 = .ok (.ifCond .eq 15, 3) := by decide +kernel
theorem dX5_low_8 : decode cX5_low 8 = .ok (.aload_n 0, 1) := by decide +kernel
theorem dX5_low_9 : decode cX5_low 9 = .ok (.getfield 11, 3) := by decide +kernel
theorem dX5_low_12 : decode cX5_low 12 = .ok (.iload_n 1, 1) := by decide +kernel
theorem dX5_low_13 : decode cX5_low 13 = .ok (.aaload, 1) := by decide +kernel
theorem dX5_low_14 : decode cX5_low 14 = .ok (.invokevirtual 152, 3) := by decide +kernel
theorem dX5_low_17 : decode cX5_low 17 = .ok (.goto 4, 3) := by decide +kernel
theorem dX5_low_20 : decode cX5_low 20 = .ok (.lconst 0, 1) := by decide +kernel
theorem dX5_low_21 : decode cX5_low 21 = .ok (.lreturn, 1) := by decide +kernel
set_option maxRecDepth 20000 in
theorem ggX5_fits_X5_isRegister : GoodIn wsX5_fits wsX5_isRegister := goodIn_r _ [5] (by decide +kernel) (by decide +kernel)
set_option maxRecDepth 20000 in
theorem gX5_fits_X5_isRegister : GoodIn wsX5_fits (va_wsS RX5 46 yX5_isRegister wsX5_isRegister) := goodIn_app (goodIn_of _ (by decide +kernel)) ggX5_fits_X5_isRegister
set_option maxRecDepth 20000 in
theorem ggX5_fits_X4_isLong : GoodIn wsX5_fits wsX4_isLong := goodIn_r _ [10, 11, 12, 13, 14, 15, 16, 17, 18, 19, 20, 21, 22, 23, 24, 25, 26, 27, 28, 29, 30, 31, 32, 33, 34, 35, 36, 43, 44, 45, 46] (by decide +kernel) (by decide +kernel)
set_option maxRecDepth 20000 in
theorem gX5_fits_X4_isLong : GoodIn wsX5_fits (wsV RX5 156 RX4 yX4_isLong wsX4_isLong) := goodIn_app (goodIn_of _ (by decide +kernel)) ggX5_fits_X4_isLong
theorem dX5_fits_0 : decode cX5_fits 0 = .ok (.iload_n 1, 1) := by decide +kernel
theorem dX5_fits_1 : decode cX5_fits 1 = .ok (.invokestatic 46, 3) := by decide +kernel
theorem dX5_fits_4 : decode cX5_fits 4 = .ok (.ifCond .eq 19, 3) := by decide +kernel
theorem dX5_fits_7 : decode cX5_fits 7 = .ok (.aload_n 0, 1) := by decide +kernel
theorem dX5_fits_8 : decode cX5_fits 8 = .ok (.getfield 11, 3) := by decide +kernel
theorem dX5_fits_11 : decode cX5_fits 11 = .ok (.iload_n 1, 1) := by decide +kernel
theorem dX5_fits_12 : decode cX5_fits 12 = .ok (.aaload, 1) := by decide +kernel
theorem dX5_fits_13 : decode cX5_fits 13 = .ok (.invokevirtual 156, 3) := by decide +kernel
theorem dX5_fits_16 : decode cX5_fits 16 = .ok (.ifCond .eq 7, 3) := by decide +kernel
theorem dX5_fits_19 : decode cX5_fits 19 = .ok (.iconst 1, 1) := by decide +kernel
theorem dX5_fits_20 : decode cX5_fits 20 = .ok (.goto 4, 3) := by decide +kernel
theorem dX5_fits_23 : decode cX5_fits 23 = .ok (.iconst 0, 1) := by decide +kernel
theorem dX5_fits_24 : decode cX5_fits 24 = .ok (.ireturn, 1) := by decide +kernel
set_option maxRecDepth 20000 in
theorem ggX5_write_X5_isRegister : GoodIn wsX5_write wsX5_isRegister := goodIn_r _ [8] (by decide +kernel) (by decide +kernel)
set_option maxRecDepth 20000 in
theorem gX5_write_X5_isRegister : GoodIn wsX5_write (va_wsS RX5 46 yX5_isRegister wsX5_isRegister) := goodIn_app (goodIn_of _ (by decide +kernel)) ggX5_write_X5_isRegister
set_option maxRecDepth 20000 in
theorem ggX5_write_X5_isBase : GoodIn wsX5_write wsX5_isBase := goodIn_r _ [11] (by decide +kernel) (by decide +kernel)
set_option maxRecDepth 20000 in
theorem gX5_write_X5_isBase : GoodIn wsX5_write (va_wsS RX5 159 yX5_isBase wsX5_isBase) := goodIn_app (goodIn_of _ (by decide +kernel)) ggX5_write_X5_isBase
set_option maxRecDepth 20000 in
theorem ggX5_write_X4_take : GoodIn wsX5_write wsX4_take := goodIn_r _ [16, 17, 18, 19, 20, 21, 22, 23, 24, 25, 26, 27, 28, 29, 88, 89, 90, 91] (by decide +kernel) (by decide +kernel)
set_option maxRecDepth 20000 in
theorem gX5_write_X4_take : GoodIn wsX5_write (wsV RX5 99 RX4 yX4_take wsX4_take) := goodIn_app (goodIn_of _ (by decide +kernel)) ggX5_write_X4_take
end
section
set_option maxRecDepth 20000 in
theorem ggX5_write_X3_spell : GoodIn wsX5_write wsX3_spell := goodIn_r _ [34, 35, 36, 37, 38, 39, 40, 33, 41, 42, 43, 44, 22, 45, 25, 46, 47, 48, 49, 50, 51, 52, 53, 54, 55, 56, 57, 58, 59, 60, 61, 24, 62, 63, 64, 65, 66, 67, 68, 69, 70, 71, 72, 73, 74, 75, 76, 77, 78, 79, 86, 87, 88, 89, 90, 91] (by decide +kernel) (by decide +kernel)
set_option maxRecDepth 20000 in
theorem gX5_write_X3_spell : GoodIn wsX5_write (wsV RX5 162 RX3 yX3_spell wsX3_spell) := goodIn_app (goodIn_of _ (by decide +kernel)) ggX5_write_X3_spell
theorem dX5_write_0 : decode cX5_write 0 = .ok (.iload_n 1, 1) := by decide +kernel
theorem dX5_write_1 : decode cX5_write 1 = .ok (.invokestatic 46, 3) := by decide +kernel
theorem dX5_write_4 : decode cX5_write 4 = .ok (.ifCond .eq 10, 3) := by decide +kernel
theorem dX5_write_7 : decode cX5_write 7 = .ok (.iload_n 2, 1) := by decide +kernel
theorem dX5_write_8 : decode cX5_write 8 = .ok (.invokestatic 159, 3) := by decide +kernel
theorem dX5_write_11 : decode cX5_write 11 = .ok (.ifCond .ne 5, 3) := by decide +kernel
theorem dX5_write_14 : decode cX5_write 14 = .ok (.iconst (-1), 1) := by decide +kernel
theorem dX5_write_15 : decode cX5_write 15 = .ok (.ireturn, 1) := by decide +kernel
theorem dX5_write_16 : decode cX5_write 16 = .ok (.aload_n 0, 1) := by decide +kernel
theorem dX5_write_17 : decode cX5_write 17 = .ok (.getfield 16, 3) := by decide +kernel
theorem dX5_write_20 : decode cX5_write 20 = .ok (.aload_n 0, 1) := by decide +kernel
theorem dX5_write_21 : decode cX5_write 21 = .ok (.getfield 11, 3) := by decide +kernel
theorem dX5_write_24 : decode cX5_write 24 = .ok (.iload_n 1, 1) := by decide +kernel
theorem dX5_write_25 : decode cX5_write 25 = .ok (.aaload, 1) := by decide +kernel
theorem dX5_write_26 : decode cX5_write 26 = .ok (.invokevirtual 99, 3) := by decide +kernel
theorem dX5_write_29 : decode cX5_write 29 = .ok (.aload_n 0, 1) := by decide +kernel
theorem dX5_write_30 : decode cX5_write 30 = .ok (.getfield 42, 3) := by decide +kernel
theorem dX5_write_33 : decode cX5_write 33 = .ok (.aload_n 0, 1) := by decide +kernel
theorem dX5_write_34 : decode cX5_write 34 = .ok (.getfield 16, 3) := by decide +kernel
theorem dX5_write_37 : decode cX5_write 37 = .ok (.iload_n 2, 1) := by decide +kernel
theorem dX5_write_38 : decode cX5_write 38 = .ok (.invokevirtual 162, 3) := by decide +kernel
theorem dX5_write_41 : decode cX5_write 41 = .ok (.aload_n 0, 1) := by decide +kernel
theorem dX5_write_42 : decode cX5_write 42 = .ok (.getfield 42, 3) := by decide +kernel
theorem dX5_write_45 : decode cX5_write 45 = .ok (.getfield 166, 3) := by decide +kernel
theorem dX5_write_48 : decode cX5_write 48 = .ok (.ireturn, 1) := by decide +kernel
set_option maxRecDepth 20000 in
theorem ggX5_type_X3_append : GoodIn wsX5_type wsX3_append := goodIn_r _ [7, 8, 9, 16, 17] (by decide +kernel) (by decide +kernel)
set_option maxRecDepth 20000 in
theorem gX5_type_X3_append : GoodIn wsX5_type (wsV RX5 170 RX3 yX3_append wsX3_append) := goodIn_app (goodIn_of _ (by decide +kernel)) ggX5_type_X3_append
theorem dX5_type_0 : decode cX5_type 0 = .ok (.iload_n 1, 1) := by decide +kernel
theorem dX5_type_1 : decode cX5_type 1 = .ok (.ifCond .lt 22, 3) := by decide +kernel
theorem dX5_type_4 : decode cX5_type 4 = .ok (.iload_n 1, 1) := by decide +kernel
theorem dX5_type_5 : decode cX5_type 5 = .ok (.bipush 127, 2) := by decide +kernel
theorem dX5_type_7 : decode cX5_type 7 = .ok (.if_icmp .gt 16, 3) := by decide +kernel
theorem dX5_type_10 : decode cX5_type 10 = .ok (.aload_n 0, 1) := by decide +kernel
theorem dX5_type_11 : decode cX5_type 11 = .ok (.getfield 42, 3) := by decide +kernel
theorem dX5_type_14 : decode cX5_type 14 = .ok (.getfield 166, 3) := by decide +kernel
theorem dX5_type_17 : decode cX5_type 17 = .ok (.sipush 1300, 3) := by decide +kernel
theorem dX5_type_20 : decode cX5_type 20 = .ok (.if_icmp .lt 5, 3) := by decide +kernel
theorem dX5_type_23 : decode cX5_type 23 = .ok (.iconst (-1), 1) := by decide +kernel
theorem dX5_type_24 : decode cX5_type 24 = .ok (.ireturn, 1) := by decide +kernel
theorem dX5_type_25 : decode cX5_type 25 = .ok (.aload_n 0, 1) := by decide +kernel
theorem dX5_type_26 : decode cX5_type 26 = .ok (.getfield 42, 3) := by decide +kernel
theorem dX5_type_29 : decode cX5_type 29 = .ok (.iload_n 1, 1) := by decide +kernel
theorem dX5_type_30 : decode cX5_type 30 = .ok (.i2c, 1) := by decide +kernel
theorem dX5_type_31 : decode cX5_type 31 = .ok (.invokevirtual 170, 3) := by decide +kernel
theorem dX5_type_34 : decode cX5_type 34 = .ok (.aload_n 0, 1) := by decide +kernel
theorem dX5_type_35 : decode cX5_type 35 = .ok (.getfield 42, 3) := by decide +kernel
theorem dX5_type_38 : decode cX5_type 38 = .ok (.getfield 166, 3) := by decide +kernel
theorem dX5_type_41 : decode cX5_type 41 = .ok (.ireturn, 1) := by decide +kernel
theorem dX5_clear_0 : decode cX5_clear 0 = .ok (.aload_n 0, 1) := by decide +kernel
theorem dX5_clear_1 : decode cX5_clear 1 = .ok (.getfield 42, 3) := by decide +kernel
theorem dX5_clear_4 : decode cX5_clear 4 = .ok (.iconst 0, 1) := by decide +kernel
theorem dX5_clear_5 : decode cX5_clear 5 = .ok (.putfield 166, 3) := by decide +kernel
theorem dX5_clear_8 : decode cX5_clear 8 = .ok (.return_, 1) := by decide +kernel
theorem dX5_character_0 : decode cX5_character 0 = .ok (.iload_n 1, 1) := by decide +kernel
theorem dX5_character_1 : decode cX5_character 1 = .ok (.ifCond .lt 26, 3) := by decide +kernel
theorem dX5_character_4 : decode cX5_character 4 = .ok (.iload_n 1, 1) := by decide +kernel
theorem dX5_character_5 : decode cX5_character 5 = .ok (.aload_n 0, 1) := by decide +kernel
theorem dX5_character_6 : decode cX5_character 6 = .ok (.getfield 42, 3) := by decide +kernel
theorem dX5_character_9 : decode cX5_character 9 = .ok (.getfield 166, 3) := by decide +kernel
theorem dX5_character_12 : decode cX5_character 12 = .ok (.if_icmp .ge 15, 3) := by decide +kernel
theorem dX5_character_15 : decode cX5_character 15 = .ok (.aload_n 0, 1) := by decide +kernel
theorem dX5_character_16 : decode cX5_character 16 = .ok (.getfield 42, 3) := by decide +kernel
theorem dX5_character_19 : decode cX5_character 19 = .ok (.getfield 174, 3) := by decide +kernel
theorem dX5_character_22 : decode cX5_character 22 = .ok (.iload_n 1, 1) := by decide +kernel
theorem dX5_character_23 : decode cX5_character 23 = .ok (.caload, 1) := by decide +kernel
theorem dX5_character_24 : decode cX5_character 24 = .ok (.goto 4, 3) := by decide +kernel
theorem dX5_character_27 : decode cX5_character 27 = .ok (.iconst (-1), 1) := by decide +kernel
theorem dX5_character_28 : decode cX5_character 28 = .ok (.ireturn, 1) := by decide +kernel
set_option maxRecDepth 20000 in
theorem ggX5_read_X5_isRegister : GoodIn wsX5_read wsX5_isRegister := goodIn_r _ [6] (by decide +kernel) (by decide +kernel)
set_option maxRecDepth 20000 in
theorem gX5_read_X5_isRegister : GoodIn wsX5_read (va_wsS RX5 46 yX5_isRegister wsX5_isRegister) := goodIn_app (goodIn_of _ (by decide +kernel)) ggX5_read_X5_isRegister
set_option maxRecDepth 20000 in
theorem ggX5_read_X5_isBase : GoodIn wsX5_read wsX5_isBase := goodIn_r _ [9] (by decide +kernel) (by decide +kernel)
set_option maxRecDepth 20000 in
theorem gX5_read_X5_isBase : GoodIn wsX5_read (va_wsS RX5 159 yX5_isBase wsX5_isBase) := goodIn_app (goodIn_of _ (by decide +kernel)) ggX5_read_X5_isBase
set_option maxRecDepth 20000 in
theorem ggX5_read_X3_tellsNumber : GoodIn wsX5_read wsX3_tellsNumber := goodIn_r _ [14, 15, 16, 17, 18, 19, 13, 20, 21, 22, 23, 122, 123] (by decide +kernel) (by decide +kernel)
set_option maxRecDepth 20000 in
theorem gX5_read_X3_tellsNumber : GoodIn wsX5_read (wsV RX5 178 RX3 yX3_tellsNumber wsX3_tellsNumber) := goodIn_app (goodIn_of _ (by decide +kernel)) ggX5_read_X3_tellsNumber
set_option maxRecDepth 20000 in
theorem ggX5_read_X3_tell : GoodIn wsX5_read wsX3_tell := goodIn_r _ [27, 28, 29, 30, 31, 15, 32, 33, 34, 35, 36, 37, 38, 39, 40, 41, 42, 43, 44, 45, 46, 47, 48, 49, 50, 51, 52, 53, 54, 55, 56, 57, 58, 13, 59, 60, 17, 18, 19, 20, 16, 61, 62, 63, 64, 65, 66, 67, 68, 69, 70, 71, 72, 73, 74, 75, 76, 77, 78, 79, 80, 81, 82, 83, 84, 21, 22, 23, 85, 86, 87, 88, 89, 90, 91, 92, 93, 94, 95, 96, 122, 123, 124, 125, 126, 127] (by decide +kernel) (by decide +kernel)
set_option maxRecDepth 20000 in
theorem gX5_read_X3_tell : GoodIn wsX5_read (wsV RX5 181 RX3 yX3_tell wsX3_tell) := goodIn_app (goodIn_of _ (by decide +kernel)) ggX5_read_X3_tell
set_option maxRecDepth 20000 in
theorem ggX5_read_X5_keepResult : GoodIn wsX5_read wsX5_keepResult := goodIn_r _ [100, 2, 101, 102, 103, 62, 63, 46, 64, 56, 65, 66, 67, 68, 69, 70, 71, 72, 48, 73, 74, 75, 76, 77, 104, 105, 106, 39, 107, 41, 42, 108, 109, 110, 111, 112, 113, 114, 115, 116, 117, 118, 119, 120, 121, 124, 125, 126, 127] (by decide +kernel) (by decide +kernel)
set_option maxRecDepth 20000 in
theorem gX5_read_X5_keepResult : GoodIn wsX5_read (wsV RX5 66 RX5 yX5_keepResult wsX5_keepResult) := goodIn_app (goodIn_of _ (by decide +kernel)) ggX5_read_X5_keepResult
theorem dX5_read_0 : decode cX5_read 0 = .ok (.iload_n 1, 1) := by decide +kernel
theorem dX5_read_1 : decode cX5_read 1 = .ok (.invokestatic 46, 3) := by decide +kernel
theorem dX5_read_4 : decode cX5_read 4 = .ok (.ifCond .eq 21, 3) := by decide +kernel
theorem dX5_read_7 : decode cX5_read 7 = .ok (.iload_n 2, 1) := by decide +kernel
theorem dX5_read_8 : decode cX5_read 8 = .ok (.invokestatic 159, 3) := by decide +kernel
theorem dX5_read_11 : decode cX5_read 11 = .ok (.ifCond .eq 14, 3) := by decide +kernel
theorem dX5_read_14 : decode cX5_read 14 = .ok (.aload_n 0, 1) := by decide +kernel
theorem dX5_read_15 : decode cX5_read 15 = .ok (.getfield 42, 3) := by decide +kernel
theorem dX5_read_18 : decode cX5_read 18 = .ok (.iload_n 2, 1) := by decide +kernel
theorem dX5_read_19 : decode cX5_read 19 = .ok (.invokevirtual 178, 3) := by decide +kernel
theorem dX5_read_22 : decode cX5_read 22 = .ok (.ifCond .ne 5, 3) := by decide +kernel
theorem dX5_read_25 : decode cX5_read 25 = .ok (.iconst (-1), 1) := by decide +kernel
theorem dX5_read_26 : decode cX5_read 26 = .ok (.ireturn, 1) := by decide +kernel
theorem dX5_read_27 : decode cX5_read 27 = .ok (.aload_n 0, 1) := by decide +kernel
theorem dX5_read_28 : decode cX5_read 28 = .ok (.getfield 42, 3) := by decide +kernel
theorem dX5_read_31 : decode cX5_read 31 = .ok (.aload_n 0, 1) := by decide +kernel
theorem dX5_read_32 : decode cX5_read 32 = .ok (.getfield 16, 3) := by decide +kernel
theorem dX5_read_35 : decode cX5_read 35 = .ok (.iload_n 2, 1) := by decide +kernel
theorem dX5_read_36 : decode cX5_read 36 = .ok (.invokevirtual 181, 3) := by decide +kernel
theorem dX5_read_39 : decode cX5_read 39 = .ok (.aload_n 0, 1) := by decide +kernel
theorem dX5_read_40 : decode cX5_read 40 = .ok (.iload_n 1, 1) := by decide +kernel
theorem dX5_read_41 : decode cX5_read 41 = .ok (.invokevirtual 66, 3) := by decide +kernel
theorem dX5_read_44 : decode cX5_read 44 = .ok (.ireturn, 1) := by decide +kernel
theorem dX5_isRegister_0 : decode cX5_isRegister 0 = .ok (.iload_n 0, 1) := by decide +kernel
theorem dX5_isRegister_1 : decode cX5_isRegister 1 = .ok (.ifCond .lt 13, 3) := by decide +kernel
theorem dX5_isRegister_4 : decode cX5_isRegister 4 = .ok (.iload_n 0, 1) := by decide +kernel
theorem dX5_isRegister_5 : decode cX5_isRegister 5 = .ok (.bipush 8, 2) := by decide +kernel
theorem dX5_isRegister_7 : decode cX5_isRegister 7 = .ok (.if_icmp .ge 7, 3) := by decide +kernel
theorem dX5_isRegister_10 : decode cX5_isRegister 10 = .ok (.iconst 1, 1) := by decide +kernel
theorem dX5_isRegister_11 : decode cX5_isRegister 11 = .ok (.goto 4, 3) := by decide +kernel
theorem dX5_isRegister_14 : decode cX5_isRegister 14 = .ok (.iconst 0, 1) := by decide +kernel
theorem dX5_isRegister_15 : decode cX5_isRegister 15 = .ok (.ireturn, 1) := by decide +kernel
set_option maxRecDepth 20000 in
theorem ggX5_areRegisters_X5_isRegister : GoodIn wsX5_areRegisters wsX5_isRegister := goodIn_r _ [4] (by decide +kernel) (by decide +kernel)
set_option maxRecDepth 20000 in
theorem gX5_areRegisters_X5_isRegister : GoodIn wsX5_areRegisters (va_wsS RX5 46 yX5_isRegister wsX5_isRegister) := goodIn_app (goodIn_of _ (by decide +kernel)) ggX5_areRegisters_X5_isRegister
theorem dX5_areRegisters_0 : decode cX5_areRegisters 0 = .ok (.iload_n 0, 1) := by decide +kernel
theorem dX5_areRegisters_1 : decode cX5_areRegisters 1 = .ok (.invokestatic 46, 3) := by decide +kernel
theorem dX5_areRegisters_4 : decode cX5_areRegisters 4 = .ok (.ifCond .eq 21, 3) := by decide +kernel
theorem dX5_areRegisters_7 : decode cX5_areRegisters 7 = .ok (.iload_n 1, 1) := by decide +kernel
theorem dX5_areRegisters_8 : decode cX5_areRegisters 8 = .ok (.invokestatic 46, 3) := by decide +kernel
theorem dX5_areRegisters_11 : decode cX5_areRegisters 11 = .ok (.ifCond .eq 14, 3) := by decide +kernel
theorem dX5_areRegisters_14 : decode cX5_areRegisters 14 = .ok (.iload_n 2, 1) := by decide +kernel
theorem dX5_areRegisters_15 : decode cX5_areRegisters 15 = .ok (.invokestatic 46, 3) := by decide +kernel
theorem dX5_areRegisters_18 : decode cX5_areRegisters 18 = .ok (.ifCond .eq 7, 3) := by decide +kernel
theorem dX5_areRegisters_21 : decode cX5_areRegisters 21 = .ok (.iconst 1, 1) := by decide +kernel
theorem dX5_areRegisters_22 : decode cX5_areRegisters 22 = .ok (.goto 4, 3) := by decide +kernel
theorem dX5_areRegisters_25 : decode cX5_areRegisters 25 = .ok (.iconst 0, 1) := by decide +kernel
theorem dX5_areRegisters_26 : decode cX5_areRegisters 26 = .ok (.ireturn, 1) := by decide +kernel
theorem dX5_isBase_0 : decode cX5_isBase 0 = .ok (.iload_n 0, 1) := by decide +kernel
theorem dX5_isBase_1 : decode cX5_isBase 1 = .ok (.iconst 2, 1) := by decide +kernel
theorem dX5_isBase_2 : decode cX5_isBase 2 = .ok (.if_icmp .lt 13, 3) := by decide +kernel
theorem dX5_isBase_5 : decode cX5_isBase 5 = .ok (.iload_n 0, 1) := by decide +kernel
theorem dX5_isBase_6 : decode cX5_isBase 6 = .ok (.bipush 16, 2) := by decide +kernel
theorem dX5_isBase_8 : decode cX5_isBase 8 = .ok (.if_icmp .gt 7, 3) := by decide +kernel
theorem dX5_isBase_11 : decode cX5_isBase 11 = .ok (.iconst 1, 1) := by decide +kernel
theorem dX5_isBase_12 : decode cX5_isBase 12 = .ok (.goto 4, 3) := by decide +kernel
theorem dX5_isBase_15 : decode cX5_isBase 15 = .ok (.iconst 0, 1) := by decide +kernel
theorem dX5_isBase_16 : decode cX5_isBase 16 = .ok (.ireturn, 1) := by decide +kernel
set_option maxRecDepth 20000 in
theorem ggX5_keepResult_X2_bitLength : GoodIn wsX5_keepResult wsX2_bitLength := goodIn_r _ [8, 9, 10, 11, 12, 7, 13, 14, 15, 16, 17, 18, 19, 20, 21, 22, 23, 47, 48] (by decide +kernel) (by decide +kernel)
set_option maxRecDepth 20000 in
theorem gX5_keepResult_X2_bitLength : GoodIn wsX5_keepResult (wsV RX5 102 RX2 yX2_bitLength wsX2_bitLength) := goodIn_app (goodIn_of _ (by decide +kernel)) ggX5_keepResult_X2_bitLength
set_option maxRecDepth 20000 in
theorem ggX5_keepResult_X4_take : GoodIn wsX5_keepResult wsX4_take := goodIn_r _ [28, 29, 30, 31, 32, 33, 7, 34, 18, 9, 35, 36, 37, 38, 45, 46, 47, 48] (by decide +kernel) (by decide +kernel)
set_option maxRecDepth 20000 in
theorem gX5_keepResult_X4_take : GoodIn wsX5_keepResult (wsV RX5 99 RX4 yX4_take wsX4_take) := goodIn_app (goodIn_of _ (by decide +kernel)) ggX5_keepResult_X4_take
theorem dX5_keepResult_0 : decode cX5_keepResult 0 = .ok (.aload_n 0, 1) := by decide +kernel
theorem dX5_keepResult_1 : decode cX5_keepResult 1 = .ok (.getfield 16, 3) := by decide +kernel
theorem dX5_keepResult_4 : decode cX5_keepResult 4 = .ok (.getfield 74, 3) := by decide +kernel
theorem dX5_keepResult_7 : decode cX5_keepResult 7 = .ok (.invokevirtual 102, 3) := by decide +kernel
theorem dX5_keepResult_10 : decode cX5_keepResult 10 = .ok (.istore_n 2, 1) := by decide +kernel
theorem dX5_keepResult_11 : decode cX5_keepResult 11 = .ok (.iload_n 2, 1) := by decide +kernel
theorem dX5_keepResult_12 : decode cX5_keepResult 12 = .ok (.sipush 4096, 3) := by decide +kernel
theorem dX5_keepResult_15 : decode cX5_keepResult 15 = .ok (.if_icmp .le 5, 3) := by decide +kernel
theorem dX5_keepResult_18 : decode cX5_keepResult 18 = .ok (.iconst (-1), 1) := by decide +kernel
theorem dX5_keepResult_19 : decode cX5_keepResult 19 = .ok (.ireturn, 1) := by decide +kernel
theorem dX5_keepResult_20 : decode cX5_keepResult 20 = .ok (.aload_n 0, 1) := by decide +kernel
theorem dX5_keepResult_21 : decode cX5_keepResult 21 = .ok (.getfield 11, 3) := by decide +kernel
theorem dX5_keepResult_24 : decode cX5_keepResult 24 = .ok (.iload_n 1, 1) := by decide +kernel
theorem dX5_keepResult_25 : decode cX5_keepResult 25 = .ok (.aaload, 1) := by decide +kernel
theorem dX5_keepResult_26 : decode cX5_keepResult 26 = .ok (.aload_n 0, 1) := by decide +kernel
theorem dX5_keepResult_27 : decode cX5_keepResult 27 = .ok (.getfield 16, 3) := by decide +kernel
theorem dX5_keepResult_30 : decode cX5_keepResult 30 = .ok (.invokevirtual 99, 3) := by decide +kernel
theorem dX5_keepResult_33 : decode cX5_keepResult 33 = .ok (.iload_n 2, 1) := by decide +kernel
theorem dX5_keepResult_34 : decode cX5_keepResult 34 = .ok (.ireturn, 1) := by decide +kernel
set_option maxRecDepth 20000 in
theorem ggX5_cutQuotient_X1_split : GoodIn wsX5_cutQuotient wsX1_split := goodIn_r _ [12, 13, 14, 15, 16, 17, 18, 19, 20, 21, 22, 23, 24, 25, 26, 27, 28, 29, 30, 31, 32, 33, 34, 35, 36, 37, 38, 39, 40, 41, 42, 43, 44, 45, 46, 47, 48, 49, 50, 51, 52, 53, 54, 55, 56, 57, 58, 59, 60, 61, 11, 62, 63, 64, 65, 66, 67, 68, 69, 70, 71, 72, 73, 74, 75, 76, 77, 78, 79, 80, 81, 82, 83, 84, 85, 86, 111, 112, 113, 114, 115] (by decide +kernel) (by decide +kernel)
set_option maxRecDepth 20000 in
theorem gX5_cutQuotient_X1_split : GoodIn wsX5_cutQuotient (wsV RX5 184 RX1 yX1_split wsX1_split) := goodIn_app (goodIn_of _ (by decide +kernel)) ggX5_cutQuotient_X1_split
set_option maxRecDepth 20000 in
theorem ggX5_cutQuotient_X2_take : GoodIn wsX5_cutQuotient wsX2_take := goodIn_r _ [90, 36, 27, 91, 92, 93, 94, 114, 115] (by decide +kernel) (by decide +kernel)
set_option maxRecDepth 20000 in
theorem gX5_cutQuotient_X2_take : GoodIn wsX5_cutQuotient (wsV RX5 110 RX2 yX2_take wsX2_take) := goodIn_app (goodIn_of _ (by decide +kernel)) ggX5_cutQuotient_X2_take
set_option maxRecDepth 20000 in
theorem ggX5_cutQuotient_X4_takeSign : GoodIn wsX5_cutQuotient wsX4_takeSign := goodIn_r _ [99, 100, 101, 102, 23, 24, 25, 26, 27, 109, 110, 114, 115] (by decide +kernel) (by decide +kernel)
set_option maxRecDepth 20000 in
theorem gX5_cutQuotient_X4_takeSign : GoodIn wsX5_cutQuotient (wsV RX5 113 RX4 yX4_takeSign wsX4_takeSign) := goodIn_app (goodIn_of _ (by decide +kernel)) ggX5_cutQuotient_X4_takeSign
theorem dX5_cutQuotient_0 : decode cX5_cutQuotient 0 = .ok (.aload_n 0, 1) := by decide +kernel
theorem dX5_cutQuotient_1 : decode cX5_cutQuotient 1 = .ok (.getfield 26, 3) := by decide +kernel
theorem dX5_cutQuotient_4 : decode cX5_cutQuotient 4 = .ok (.aload_n 1, 1) := by decide +kernel
theorem dX5_cutQuotient_5 : decode cX5_cutQuotient 5 = .ok (.getfield 74, 3) := by decide +kernel
theorem dX5_cutQuotient_8 : decode cX5_cutQuotient 8 = .ok (.aload_n 2, 1) := by decide +kernel
theorem dX5_cutQuotient_9 : decode cX5_cutQuotient 9 = .ok (.getfield 74, 3) := by decide +kernel
theorem dX5_cutQuotient_12 : decode cX5_cutQuotient 12 = .ok (.invokevirtual 184, 3) := by decide +kernel
theorem dX5_cutQuotient_15 : decode cX5_cutQuotient 15 = .ok (.aload_n 0, 1) := by decide +kernel
theorem dX5_cutQuotient_16 : decode cX5_cutQuotient 16 = .ok (.getfield 16, 3) := by decide +kernel
theorem dX5_cutQuotient_19 : decode cX5_cutQuotient 19 = .ok (.getfield 74, 3) := by decide +kernel
theorem dX5_cutQuotient_22 : decode cX5_cutQuotient 22 = .ok (.aload_n 0, 1) := by decide +kernel
theorem dX5_cutQuotient_23 : decode cX5_cutQuotient 23 = .ok (.getfield 26, 3) := by decide +kernel
theorem dX5_cutQuotient_26 : decode cX5_cutQuotient 26 = .ok (.getfield 188, 3) := by decide +kernel
theorem dX5_cutQuotient_29 : decode cX5_cutQuotient 29 = .ok (.invokevirtual 110, 3) := by decide +kernel
theorem dX5_cutQuotient_32 : decode cX5_cutQuotient 32 = .ok (.aload_n 0, 1) := by decide +kernel
theorem dX5_cutQuotient_33 : decode cX5_cutQuotient 33 = .ok (.getfield 16, 3) := by decide +kernel
theorem dX5_cutQuotient_36 : decode cX5_cutQuotient 36 = .ok (.aload_n 1, 1) := by decide +kernel
theorem dX5_cutQuotient_37 : decode cX5_cutQuotient 37 = .ok (.getfield 58, 3) := by decide +kernel
theorem dX5_cutQuotient_40 : decode cX5_cutQuotient 40 = .ok (.aload_n 2, 1) := by decide +kernel
theorem dX5_cutQuotient_41 : decode cX5_cutQuotient 41 = .ok (.getfield 58, 3) := by decide +kernel
theorem dX5_cutQuotient_44 : decode cX5_cutQuotient 44 = .ok (.if_icmp .eq 7, 3) := by decide +kernel
theorem dX5_cutQuotient_47 : decode cX5_cutQuotient 47 = .ok (.iconst 1, 1) := by decide +kernel
theorem dX5_cutQuotient_48 : decode cX5_cutQuotient 48 = .ok (.goto 4, 3) := by decide +kernel
theorem dX5_cutQuotient_51 : decode cX5_cutQuotient 51 = .ok (.iconst 0, 1) := by decide +kernel
theorem dX5_cutQuotient_52 : decode cX5_cutQuotient 52 = .ok (.invokevirtual 113, 3) := by decide +kernel
theorem dX5_cutQuotient_55 : decode cX5_cutQuotient 55 = .ok (.aload_n 0, 1) := by decide +kernel
theorem dX5_cutQuotient_56 : decode cX5_cutQuotient 56 = .ok (.getfield 20, 3) := by decide +kernel
theorem dX5_cutQuotient_59 : decode cX5_cutQuotient 59 = .ok (.getfield 74, 3) := by decide +kernel
theorem dX5_cutQuotient_62 : decode cX5_cutQuotient 62 = .ok (.aload_n 0, 1) := by decide +kernel
theorem dX5_cutQuotient_63 : decode cX5_cutQuotient 63 = .ok (.getfield 26, 3) := by decide +kernel
theorem dX5_cutQuotient_66 : decode cX5_cutQuotient 66 = .ok (.getfield 191, 3) := by decide +kernel
theorem dX5_cutQuotient_69 : decode cX5_cutQuotient 69 = .ok (.invokevirtual 110, 3) := by decide +kernel
theorem dX5_cutQuotient_72 : decode cX5_cutQuotient 72 = .ok (.aload_n 0, 1) := by decide +kernel
theorem dX5_cutQuotient_73 : decode cX5_cutQuotient 73 = .ok (.getfield 20, 3) := by decide +kernel
theorem dX5_cutQuotient_76 : decode cX5_cutQuotient 76 = .ok (.aload_n 1, 1) := by decide +kernel
theorem dX5_cutQuotient_77 : decode cX5_cutQuotient 77 = .ok (.getfield 58, 3) := by decide +kernel
theorem dX5_cutQuotient_80 : decode cX5_cutQuotient 80 = .ok (.invokevirtual 113, 3) := by decide +kernel
theorem dX5_cutQuotient_83 : decode cX5_cutQuotient 83 = .ok (.return_, 1) := by decide +kernel
set_option maxRecDepth 20000 in
theorem ggX5_stepDown_X2_timesPlus : GoodIn wsX5_stepDown wsX2_timesPlus := goodIn_r _ [9, 10, 11, 12, 13, 14, 15, 8, 16, 17, 18, 19, 20, 21, 22, 23, 51, 52] (by decide +kernel) (by decide +kernel)
set_option maxRecDepth 20000 in
theorem gX5_stepDown_X2_timesPlus : GoodIn wsX5_stepDown (wsV RX5 194 RX2 yX2_timesPlus wsX2_timesPlus) := goodIn_app (goodIn_of _ (by decide +kernel)) ggX5_stepDown_X2_timesPlus
set_option maxRecDepth 20000 in
theorem ggX5_stepDown_X4_takeSign : GoodIn wsX5_stepDown wsX4_takeSign := goodIn_r _ [28, 29, 30, 31, 32, 33, 8, 34, 10, 49, 50, 51, 52] (by decide +kernel) (by decide +kernel)
set_option maxRecDepth 20000 in
theorem gX5_stepDown_X4_takeSign : GoodIn wsX5_stepDown (wsV RX5 113 RX4 yX4_takeSign wsX4_takeSign) := goodIn_app (goodIn_of _ (by decide +kernel)) ggX5_stepDown_X4_takeSign
set_option maxRecDepth 20000 in
theorem ggX5_stepDown_X2_takeDifference : GoodIn wsX5_stepDown wsX2_takeDifference := goodIn_r _ [38, 10, 11, 12, 39, 40, 41, 8, 42, 13, 14, 15, 16, 17, 18, 19, 20, 21, 22, 23, 51, 52] (by decide +kernel) (by decide +kernel)
set_option maxRecDepth 20000 in
theorem gX5_stepDown_X2_takeDifference : GoodIn wsX5_stepDown (wsV RX5 198 RX2 yX2_takeDifference wsX2_takeDifference) := goodIn_app (goodIn_of _ (by decide +kernel)) ggX5_stepDown_X2_takeDifference
theorem dX5_stepDown_0 : decode cX5_stepDown 0 = .ok (.aload_n 0, 1) := by decide +kernel
theorem dX5_stepDown_1 : decode cX5_stepDown 1 = .ok (.getfield 16, 3) := by decide +kernel
theorem dX5_stepDown_4 : decode cX5_stepDown 4 = .ok (.getfield 74, 3) := by decide +kernel
theorem dX5_stepDown_7 : decode cX5_stepDown 7 = .ok (.iconst 1, 1) := by decide +kernel
theorem dX5_stepDown_8 : decode cX5_stepDown 8 = .ok (.iconst 1, 1) := by decide +kernel
theorem dX5_stepDown_9 : decode cX5_stepDown 9 = .ok (.invokevirtual 194, 3) := by decide +kernel
theorem dX5_stepDown_12 : decode cX5_stepDown 12 = .ok (.aload_n 0, 1) := by decide +kernel
theorem dX5_stepDown_13 : decode cX5_stepDown 13 = .ok (.getfield 16, 3) := by decide +kernel
theorem dX5_stepDown_16 : decode cX5_stepDown 16 = .ok (.iconst 1, 1) := by decide +kernel
theorem dX5_stepDown_17 : decode cX5_stepDown 17 = .ok (.invokevirtual 113, 3) := by decide +kernel
theorem dX5_stepDown_20 : decode cX5_stepDown 20 = .ok (.aload_n 0, 1) := by decide +kernel
theorem dX5_stepDown_21 : decode cX5_stepDown 21 = .ok (.getfield 20, 3) := by decide +kernel
theorem dX5_stepDown_24 : decode cX5_stepDown 24 = .ok (.getfield 74, 3) := by decide +kernel
theorem dX5_stepDown_27 : decode cX5_stepDown 27 = .ok (.aload_n 1, 1) := by decide +kernel
theorem dX5_stepDown_28 : decode cX5_stepDown 28 = .ok (.getfield 74, 3) := by decide +kernel
theorem dX5_stepDown_31 : decode cX5_stepDown 31 = .ok (.aload_n 0, 1) := by decide +kernel
theorem dX5_stepDown_32 : decode cX5_stepDown 32 = .ok (.getfield 20, 3) := by decide +kernel
theorem dX5_stepDown_35 : decode cX5_stepDown 35 = .ok (.getfield 74, 3) := by decide +kernel
theorem dX5_stepDown_38 : decode cX5_stepDown 38 = .ok (.invokevirtual 198, 3) := by decide +kernel
theorem dX5_stepDown_41 : decode cX5_stepDown 41 = .ok (.aload_n 0, 1) := by decide +kernel
theorem dX5_stepDown_42 : decode cX5_stepDown 42 = .ok (.getfield 20, 3) := by decide +kernel
theorem dX5_stepDown_45 : decode cX5_stepDown 45 = .ok (.aload_n 1, 1) := by decide +kernel
theorem dX5_stepDown_46 : decode cX5_stepDown 46 = .ok (.getfield 58, 3) := by decide +kernel
theorem dX5_stepDown_49 : decode cX5_stepDown 49 = .ok (.invokevirtual 113, 3) := by decide +kernel
theorem dX5_stepDown_52 : decode cX5_stepDown 52 = .ok (.return_, 1) := by decide +kernel
set_option maxRecDepth 20000 in
theorem ggX5_takeRoot_X4_takeLong : GoodIn wsX5_takeRoot wsX4_takeLong := goodIn_r _ [10, 11, 12, 13, 14, 15, 16, 17, 18, 19, 20, 21, 22, 23, 24, 25, 26, 27, 28, 29, 30, 31, 126, 127, 131, 132] (by decide +kernel) (by decide +kernel)
set_option maxRecDepth 20000 in
theorem gX5_takeRoot_X4_takeLong : GoodIn wsX5_takeRoot (wsV RX5 50 RX4 yX4_takeLong wsX4_takeLong) := goodIn_app (goodIn_of _ (by decide +kernel)) ggX5_takeRoot_X4_takeLong
set_option maxRecDepth 20000 in
theorem ggX5_takeRoot_X2_isZero : GoodIn wsX5_takeRoot wsX2_isZero := goodIn_r _ [35, 31, 131, 132] (by decide +kernel) (by decide +kernel)
set_option maxRecDepth 20000 in
theorem gX5_takeRoot_X2_isZero : GoodIn wsX5_takeRoot (wsV RX5 78 RX2 yX2_isZero wsX2_isZero) := goodIn_app (goodIn_of _ (by decide +kernel)) ggX5_takeRoot_X2_isZero
set_option maxRecDepth 20000 in
theorem ggX5_takeRoot_X2_take : GoodIn wsX5_takeRoot wsX2_take := goodIn_r _ [39, 18, 31, 40, 41, 42, 43, 131, 132] (by decide +kernel) (by decide +kernel)
set_option maxRecDepth 20000 in
theorem gX5_takeRoot_X2_take : GoodIn wsX5_takeRoot (wsV RX5 110 RX2 yX2_take wsX2_take) := goodIn_app (goodIn_of _ (by decide +kernel)) ggX5_takeRoot_X2_take
set_option maxRecDepth 20000 in
theorem ggX5_takeRoot_X2_bitLength : GoodIn wsX5_takeRoot wsX2_bitLength := goodIn_r _ [47, 31, 48, 49, 50, 16, 51, 52, 53, 54, 55, 18, 56, 57, 58, 59, 60, 131, 132] (by decide +kernel) (by decide +kernel)
set_option maxRecDepth 20000 in
theorem gX5_takeRoot_X2_bitLength : GoodIn wsX5_takeRoot (wsV RX5 102 RX2 yX2_bitLength wsX2_bitLength) := goodIn_app (goodIn_of _ (by decide +kernel)) ggX5_takeRoot_X2_bitLength
set_option maxRecDepth 20000 in
theorem ggX5_takeRoot_X2_shiftUp : GoodIn wsX5_takeRoot wsX2_shiftUp := goodIn_r _ [64, 31, 24, 25, 26, 27, 18, 19, 52, 53, 54, 16, 55, 20, 21, 22, 23, 28, 29, 30, 131, 132] (by decide +kernel) (by decide +kernel)
set_option maxRecDepth 20000 in
theorem gX5_takeRoot_X2_shiftUp : GoodIn wsX5_takeRoot (wsV RX5 129 RX2 yX2_shiftUp wsX2_shiftUp) := goodIn_app (goodIn_of _ (by decide +kernel)) ggX5_takeRoot_X2_shiftUp
set_option maxRecDepth 20000 in
theorem ggX5_takeRoot_X1_split : GoodIn wsX5_takeRoot wsX1_split := goodIn_r _ [69, 70, 71, 72, 73, 29, 26, 30, 74, 75, 76, 33, 34, 16, 35, 31, 77, 49, 50, 51, 52, 53, 54, 55, 18, 56, 57, 58, 59, 60, 78, 62, 63, 64, 24, 25, 27, 19, 20, 21, 22, 23, 28, 79, 80, 81, 82, 83, 84, 85, 68, 86, 87, 88, 89, 90, 91, 92, 93, 94, 95, 96, 97, 98, 99, 100, 101, 102, 103, 104, 105, 106, 107, 108, 109, 110, 128, 129, 130, 131, 132] (by decide +kernel) (by decide +kernel)
set_option maxRecDepth 20000 in
theorem gX5_takeRoot_X1_split : GoodIn wsX5_takeRoot (wsV RX5 184 RX1 yX1_split wsX1_split) := goodIn_app (goodIn_of _ (by decide +kernel)) ggX5_takeRoot_X1_split
set_option maxRecDepth 20000 in
theorem ggX5_takeRoot_X2_takeSum : GoodIn wsX5_takeRoot wsX2_takeSum := goodIn_r _ [114, 31, 28, 29, 26, 30, 24, 25, 27, 18, 19, 52, 53, 54, 16, 55, 20, 21, 22, 23, 131, 132] (by decide +kernel) (by decide +kernel)
set_option maxRecDepth 20000 in
theorem gX5_takeRoot_X2_takeSum : GoodIn wsX5_takeRoot (wsV RX5 201 RX2 yX2_takeSum wsX2_takeSum) := goodIn_app (goodIn_of _ (by decide +kernel)) ggX5_takeRoot_X2_takeSum
set_option maxRecDepth 20000 in
theorem ggX5_takeRoot_X2_shiftDown : GoodIn wsX5_takeRoot wsX2_shiftDown := goodIn_r _ [106, 31, 28, 29, 26, 30, 18, 107, 108, 109, 16, 110, 19, 52, 53, 54, 55, 20, 21, 22, 23, 24, 25, 27, 131, 132] (by decide +kernel) (by decide +kernel)
set_option maxRecDepth 20000 in
theorem gX5_takeRoot_X2_shiftDown : GoodIn wsX5_takeRoot (wsV RX5 125 RX2 yX2_shiftDown wsX2_shiftDown) := goodIn_app (goodIn_of _ (by decide +kernel)) ggX5_takeRoot_X2_shiftDown
set_option maxRecDepth 20000 in
theorem ggX5_takeRoot_X2_order : GoodIn wsX5_takeRoot wsX2_order := goodIn_r _ [119, 31, 18, 131, 132] (by decide +kernel) (by decide +kernel)
set_option maxRecDepth 20000 in
theorem gX5_takeRoot_X2_order : GoodIn wsX5_takeRoot (wsV RX5 203 RX2 yX2_order wsX2_order) := goodIn_app (goodIn_of _ (by decide +kernel)) ggX5_takeRoot_X2_order
theorem dX5_takeRoot_0 : decode cX5_takeRoot 0 = .ok (.aload_n 0, 1) := by decide +kernel
theorem dX5_takeRoot_1 : decode cX5_takeRoot 1 = .ok (.getfield 16, 3) := by decide +kernel
theorem dX5_takeRoot_4 : decode cX5_takeRoot 4 = .ok (.lconst 1, 1) := by decide +kernel
theorem dX5_takeRoot_5 : decode cX5_takeRoot 5 = .ok (.invokevirtual 50, 3) := by decide +kernel
theorem dX5_takeRoot_8 : decode cX5_takeRoot 8 = .ok (.aload_n 0, 1) := by decide +kernel
theorem dX5_takeRoot_9 : decode cX5_takeRoot 9 = .ok (.getfield 16, 3) := by decide +kernel
theorem dX5_takeRoot_12 : decode cX5_takeRoot 12 = .ok (.getfield 74, 3) := by decide +kernel
theorem dX5_takeRoot_15 : decode cX5_takeRoot 15 = .ok (.astore_n 2, 1) := by decide +kernel
theorem dX5_takeRoot_16 : decode cX5_takeRoot 16 = .ok (.aload_n 1, 1) := by decide +kernel
theorem dX5_takeRoot_17 : decode cX5_takeRoot 17 = .ok (.invokevirtual 78, 3) := by decide +kernel
theorem dX5_takeRoot_20 : decode cX5_takeRoot 20 = .ok (.ifCond .eq 9, 3) := by decide +kernel
theorem dX5_takeRoot_23 : decode cX5_takeRoot 23 = .ok (.aload_n 2, 1) := by decide +kernel
theorem dX5_takeRoot_24 : decode cX5_takeRoot 24 = .ok (.aload_n 1, 1) := by decide +kernel
theorem dX5_takeRoot_25 : decode cX5_takeRoot 25 = .ok (.invokevirtual 110, 3) := by decide +kernel
theorem dX5_takeRoot_28 : decode cX5_takeRoot 28 = .ok (.return_, 1) := by decide +kernel
theorem dX5_takeRoot_29 : decode cX5_takeRoot 29 = .ok (.aload_n 2, 1) := by decide +kernel
theorem dX5_takeRoot_30 : decode cX5_takeRoot 30 = .ok (.aload_n 2, 1) := by decide +kernel
theorem dX5_takeRoot_31 : decode cX5_takeRoot 31 = .ok (.aload_n 1, 1) := by decide +kernel
theorem dX5_takeRoot_32 : decode cX5_takeRoot 32 = .ok (.invokevirtual 102, 3) := by decide +kernel
theorem dX5_takeRoot_35 : decode cX5_takeRoot 35 = .ok (.iconst 1, 1) := by decide +kernel
theorem dX5_takeRoot_36 : decode cX5_takeRoot 36 = .ok (.iadd, 1) := by decide +kernel
theorem dX5_takeRoot_37 : decode cX5_takeRoot 37 = .ok (.iconst 2, 1) := by decide +kernel
theorem dX5_takeRoot_38 : decode cX5_takeRoot 38 = .ok (.idiv, 1) := by decide +kernel
theorem dX5_takeRoot_39 : decode cX5_takeRoot 39 = .ok (.invokevirtual 129, 3) := by decide +kernel
theorem dX5_takeRoot_42 : decode cX5_takeRoot 42 = .ok (.aload_n 0, 1) := by decide +kernel
theorem dX5_takeRoot_43 : decode cX5_takeRoot 43 = .ok (.getfield 20, 3) := by decide +kernel
theorem dX5_takeRoot_46 : decode cX5_takeRoot 46 = .ok (.getfield 74, 3) := by decide +kernel
theorem dX5_takeRoot_49 : decode cX5_takeRoot 49 = .ok (.astore_n 3, 1) := by decide +kernel
theorem dX5_takeRoot_50 : decode cX5_takeRoot 50 = .ok (.iconst 0, 1) := by decide +kernel
theorem dX5_takeRoot_51 : decode cX5_takeRoot 51 = .ok (.istore 4, 2) := by decide +kernel
theorem dX5_takeRoot_53 : decode cX5_takeRoot 53 = .ok (.iload 4, 2) := by decide +kernel
theorem dX5_takeRoot_55 : decode cX5_takeRoot 55 = .ok (.sipush 4096, 3) := by decide +kernel
theorem dX5_takeRoot_58 : decode cX5_takeRoot 58 = .ok (.if_icmp .ge 50, 3) := by decide +kernel
theorem dX5_takeRoot_61 : decode cX5_takeRoot 61 = .ok (.aload_n 0, 1) := by decide +kernel
theorem dX5_takeRoot_62 : decode cX5_takeRoot 62 = .ok (.getfield 26, 3) := by decide +kernel
theorem dX5_takeRoot_65 : decode cX5_takeRoot 65 = .ok (.aload_n 1, 1) := by decide +kernel
theorem dX5_takeRoot_66 : decode cX5_takeRoot 66 = .ok (.aload_n 2, 1) := by decide +kernel
theorem dX5_takeRoot_67 : decode cX5_takeRoot 67 = .ok (.invokevirtual 184, 3) := by decide +kernel
theorem dX5_takeRoot_70 : decode cX5_takeRoot 70 = .ok (.aload_n 3, 1) := by decide +kernel
theorem dX5_takeRoot_71 : decode cX5_takeRoot 71 = .ok (.aload_n 2, 1) := by decide +kernel
theorem dX5_takeRoot_72 : decode cX5_takeRoot 72 = .ok (.aload_n 0, 1) := by decide +kernel
theorem dX5_takeRoot_73 : decode cX5_takeRoot 73 = .ok (.getfield 26, 3) := by decide +kernel
theorem dX5_takeRoot_76 : decode cX5_takeRoot 76 = .ok (.getfield 188, 3) := by decide +kernel
theorem dX5_takeRoot_79 : decode cX5_takeRoot 79 = .ok (.invokevirtual 201, 3) := by decide +kernel
theorem dX5_takeRoot_82 : decode cX5_takeRoot 82 = .ok (.aload_n 3, 1) := by decide +kernel
theorem dX5_takeRoot_83 : decode cX5_takeRoot 83 = .ok (.aload_n 3, 1) := by decide +kernel
theorem dX5_takeRoot_84 : decode cX5_takeRoot 84 = .ok (.iconst 1, 1) := by decide +kernel
theorem dX5_takeRoot_85 : decode cX5_takeRoot 85 = .ok (.invokevirtual 125, 3) := by decide +kernel
theorem dX5_takeRoot_88 : decode cX5_takeRoot 88 = .ok (.aload_n 3, 1) := by decide +kernel
theorem dX5_takeRoot_89 : decode cX5_takeRoot 89 = .ok (.aload_n 2, 1) := by decide +kernel
theorem dX5_takeRoot_90 : decode cX5_takeRoot 90 = .ok (.invokevirtual 203, 3) := by decide +kernel
theorem dX5_takeRoot_93 : decode cX5_takeRoot 93 = .ok (.ifCond .lt 4, 3) := by decide +kernel
theorem dX5_takeRoot_96 : decode cX5_takeRoot 96 = .ok (.return_, 1) := by decide +kernel
theorem dX5_takeRoot_97 : decode cX5_takeRoot 97 = .ok (.aload_n 2, 1) := by decide +kernel
theorem dX5_takeRoot_98 : decode cX5_takeRoot 98 = .ok (.aload_n 3, 1) := by decide +kernel
theorem dX5_takeRoot_99 : decode cX5_takeRoot 99 = .ok (.invokevirtual 110, 3) := by decide +kernel
theorem dX5_takeRoot_102 : decode cX5_takeRoot 102 = .ok (.iinc 4 1, 3) := by decide +kernel
theorem dX5_takeRoot_105 : decode cX5_takeRoot 105 = .ok (.goto (-52), 3) := by decide +kernel
theorem dX5_takeRoot_108 : decode cX5_takeRoot 108 = .ok (.return_, 1) := by decide +kernel
set_option maxRecDepth 20000 in
theorem ggX5_takePower_X4_takeLong : GoodIn wsX5_takePower wsX4_takeLong := goodIn_r _ [6, 7, 8, 9, 10, 11, 12, 13, 14, 15, 16, 17, 18, 19, 20, 21, 22, 23, 24, 25, 26, 27, 91, 92, 93, 94] (by decide +kernel) (by decide +kernel)
set_option maxRecDepth 20000 in
theorem gX5_takePower_X4_takeLong : GoodIn wsX5_takePower (wsV RX5 50 RX4 yX4_takeLong wsX4_takeLong) := goodIn_app (goodIn_of _ (by decide +kernel)) ggX5_takePower_X4_takeLong
set_option maxRecDepth 20000 in
theorem ggX5_takePower_X5_multiplyResult : GoodIn wsX5_takePower wsX5_multiplyResult := goodIn_r _ [32, 33, 1, 34, 35, 36, 37, 5, 38, 7, 8, 39, 40, 41, 12, 42, 27, 43, 44, 45, 46, 47, 48, 49, 50, 14, 51, 52, 53, 54, 55, 56, 57, 58, 59, 20, 21, 22, 23, 60, 61, 62, 63, 15, 16, 17, 18, 19, 24, 25, 26, 64, 65, 66, 67, 68, 69, 70, 71, 72, 73, 74, 75, 76, 77, 78, 79, 80, 81, 82, 83, 84, 85, 86, 87, 88, 89, 90, 91, 92, 93, 94] (by decide +kernel) (by decide +kernel)
set_option maxRecDepth 20000 in
theorem gX5_takePower_X5_multiplyResult : GoodIn wsX5_takePower (wsV RX5 206 RX5 yX5_multiplyResult wsX5_multiplyResult) := goodIn_app (goodIn_of _ (by decide +kernel)) ggX5_takePower_X5_multiplyResult
theorem dX5_takePower_0 : decode cX5_takePower 0 = .ok (.aload_n 0, 1) := by decide +kernel
theorem dX5_takePower_1 : decode cX5_takePower 1 = .ok (.getfield 16, 3) := by decide +kernel
theorem dX5_takePower_4 : decode cX5_takePower 4 = .ok (.lconst 1, 1) := by decide +kernel
theorem dX5_takePower_5 : decode cX5_takePower 5 = .ok (.invokevirtual 50, 3) := by decide +kernel
theorem dX5_takePower_8 : decode cX5_takePower 8 = .ok (.bipush 12, 2) := by decide +kernel
theorem dX5_takePower_10 : decode cX5_takePower 10 = .ok (.istore_n 3, 1) := by decide +kernel
theorem dX5_takePower_11 : decode cX5_takePower 11 = .ok (.iload_n 3, 1) := by decide +kernel
theorem dX5_takePower_12 : decode cX5_takePower 12 = .ok (.ifCond .lt 41, 3) := by decide +kernel
theorem dX5_takePower_15 : decode cX5_takePower 15 = .ok (.aload_n 0, 1) := by decide +kernel
theorem dX5_takePower_16 : decode cX5_takePower 16 = .ok (.aload_n 0, 1) := by decide +kernel
theorem dX5_takePower_17 : decode cX5_takePower 17 = .ok (.getfield 16, 3) := by decide +kernel
theorem dX5_takePower_20 : decode cX5_takePower 20 = .ok (.invokevirtual 206, 3) := by decide +kernel
theorem dX5_takePower_23 : decode cX5_takePower 23 = .ok (.ifCond .ne 5, 3) := by decide +kernel
theorem dX5_takePower_26 : decode cX5_takePower 26 = .ok (.iconst 0, 1) := by decide +kernel
theorem dX5_takePower_27 : decode cX5_takePower 27 = .ok (.ireturn, 1) := by decide +kernel
theorem dX5_takePower_28 : decode cX5_takePower 28 = .ok (.iload_n 2, 1) := by decide +kernel
theorem dX5_takePower_29 : decode cX5_takePower 29 = .ok (.iload_n 3, 1) := by decide +kernel
theorem dX5_takePower_30 : decode cX5_takePower 30 = .ok (.ishr, 1) := by decide +kernel
theorem dX5_takePower_31 : decode cX5_takePower 31 = .ok (.iconst 1, 1) := by decide +kernel
theorem dX5_takePower_32 : decode cX5_takePower 32 = .ok (.iand, 1) := by decide +kernel
theorem dX5_takePower_33 : decode cX5_takePower 33 = .ok (.iconst 1, 1) := by decide +kernel
theorem dX5_takePower_34 : decode cX5_takePower 34 = .ok (.if_icmp .ne 13, 3) := by decide +kernel
theorem dX5_takePower_37 : decode cX5_takePower 37 = .ok (.aload_n 0, 1) := by decide +kernel
theorem dX5_takePower_38 : decode cX5_takePower 38 = .ok (.aload_n 1, 1) := by decide +kernel
theorem dX5_takePower_39 : decode cX5_takePower 39 = .ok (.invokevirtual 206, 3) := by decide +kernel
theorem dX5_takePower_42 : decode cX5_takePower 42 = .ok (.ifCond .ne 5, 3) := by decide +kernel
theorem dX5_takePower_45 : decode cX5_takePower 45 = .ok (.iconst 0, 1) := by decide +kernel
theorem dX5_takePower_46 : decode cX5_takePower 46 = .ok (.ireturn, 1) := by decide +kernel
theorem dX5_takePower_47 : decode cX5_takePower 47 = .ok (.iinc 3 (-1), 3) := by decide +kernel
theorem dX5_takePower_50 : decode cX5_takePower 50 = .ok (.goto (-39), 3) := by decide +kernel
theorem dX5_takePower_53 : decode cX5_takePower 53 = .ok (.iconst 1, 1) := by decide +kernel
theorem dX5_takePower_54 : decode cX5_takePower 54 = .ok (.ireturn, 1) := by decide +kernel
set_option maxRecDepth 20000 in
theorem ggX5_multiplyResult_X4_takeProduct : GoodIn wsX5_multiplyResult wsX4_takeProduct := goodIn_r _ [8, 9, 10, 11, 12, 13, 14, 15, 16, 17, 18, 19, 20, 21, 22, 23, 24, 25, 26, 27, 28, 29, 30, 31, 32, 33, 34, 35, 36, 37, 38, 39, 40, 41, 42, 43, 44, 45, 46, 47, 48, 49, 50, 51, 52, 53, 7, 54, 55, 56, 57, 58, 78, 79, 80, 81] (by decide +kernel) (by decide +kernel)
set_option maxRecDepth 20000 in
theorem gX5_multiplyResult_X4_takeProduct : GoodIn wsX5_multiplyResult (wsV RX5 70 RX4 yX4_takeProduct wsX4_takeProduct) := goodIn_app (goodIn_of _ (by decide +kernel)) ggX5_multiplyResult_X4_takeProduct
set_option maxRecDepth 20000 in
theorem ggX5_multiplyResult_X2_bitLength : GoodIn wsX5_multiplyResult wsX2_bitLength := goodIn_r _ [15, 16, 17, 18, 19, 14, 20, 21, 22, 23, 24, 25, 26, 27, 28, 29, 30, 80, 81] (by decide +kernel) (by decide +kernel)
set_option maxRecDepth 20000 in
theorem gX5_multiplyResult_X2_bitLength : GoodIn wsX5_multiplyResult (wsV RX5 102 RX2 yX2_bitLength wsX2_bitLength) := goodIn_app (goodIn_of _ (by decide +kernel)) ggX5_multiplyResult_X2_bitLength
set_option maxRecDepth 20000 in
theorem ggX5_multiplyResult_X4_take : GoodIn wsX5_multiplyResult wsX4_take := goodIn_r _ [63, 9, 10, 64, 65, 66, 14, 67, 25, 16, 68, 69, 70, 71, 78, 79, 80, 81] (by decide +kernel) (by decide +kernel)
set_option maxRecDepth 20000 in
theorem gX5_multiplyResult_X4_take : GoodIn wsX5_multiplyResult (wsV RX5 99 RX4 yX4_take wsX4_take) := goodIn_app (goodIn_of _ (by decide +kernel)) ggX5_multiplyResult_X4_take
theorem dX5_multiplyResult_0 : decode cX5_multiplyResult 0 = .ok (.aload_n 0, 1) := by decide +kernel
theorem dX5_multiplyResult_1 : decode cX5_multiplyResult 1 = .ok (.getfield 20, 3) := by decide +kernel
theorem dX5_multiplyResult_4 : decode cX5_multiplyResult 4 = .ok (.aload_n 0, 1) := by decide +kernel
theorem dX5_multiplyResult_5 : decode cX5_multiplyResult 5 = .ok (.getfield 16, 3) := by decide +kernel
theorem dX5_multiplyResult_8 : decode cX5_multiplyResult 8 = .ok (.aload_n 1, 1) := by decide +kernel
theorem dX5_multiplyResult_9 : decode cX5_multiplyResult 9 = .ok (.invokevirtual 70, 3) := by decide +kernel
theorem dX5_multiplyResult_12 : decode cX5_multiplyResult 12 = .ok (.ifCond .eq 19, 3) := by decide +kernel
theorem dX5_multiplyResult_15 : decode cX5_multiplyResult 15 = .ok (.aload_n 0, 1) := by decide +kernel
theorem dX5_multiplyResult_16 : decode cX5_multiplyResult 16 = .ok (.getfield 20, 3) := by decide +kernel
theorem dX5_multiplyResult_19 : decode cX5_multiplyResult 19 = .ok (.getfield 74, 3) := by decide +kernel
theorem dX5_multiplyResult_22 : decode cX5_multiplyResult 22 = .ok (.invokevirtual 102, 3) := by decide +kernel
theorem dX5_multiplyResult_25 : decode cX5_multiplyResult 25 = .ok (.sipush 4096, 3) := by decide +kernel
theorem dX5_multiplyResult_28 : decode cX5_multiplyResult 28 = .ok (.if_icmp .le 5, 3) := by decide +kernel
theorem dX5_multiplyResult_31 : decode cX5_multiplyResult 31 = .ok (.iconst 0, 1) := by decide +kernel
theorem dX5_multiplyResult_32 : decode cX5_multiplyResult 32 = .ok (.ireturn, 1) := by decide +kernel
theorem dX5_multiplyResult_33 : decode cX5_multiplyResult 33 = .ok (.aload_n 0, 1) := by decide +kernel
theorem dX5_multiplyResult_34 : decode cX5_multiplyResult 34 = .ok (.getfield 16, 3) := by decide +kernel
theorem dX5_multiplyResult_37 : decode cX5_multiplyResult 37 = .ok (.aload_n 0, 1) := by decide +kernel
theorem dX5_multiplyResult_38 : decode cX5_multiplyResult 38 = .ok (.getfield 20, 3) := by decide +kernel
theorem dX5_multiplyResult_41 : decode cX5_multiplyResult 41 = .ok (.invokevirtual 99, 3) := by decide +kernel
theorem dX5_multiplyResult_44 : decode cX5_multiplyResult 44 = .ok (.iconst 1, 1) := by decide +kernel
theorem dX5_multiplyResult_45 : decode cX5_multiplyResult 45 = .ok (.ireturn, 1) := by decide +kernel
set_option maxRecDepth 20000 in
theorem ggX6_init_X6_twice : GoodIn wsX6_init wsX6_twice := goodIn_r _ [18, 19, 20, 17, 21] (by decide +kernel) (by decide +kernel)
set_option maxRecDepth 20000 in
theorem gX6_init_X6_twice : GoodIn wsX6_init (va_wsS RX6 38 yX6_twice wsX6_twice) := goodIn_app (goodIn_of _ (by decide +kernel)) ggX6_init_X6_twice
theorem dX6_init_0 : decode cX6_init 0 = .ok (.aload_n 0, 1) := by decide +kernel
theorem dX6_init_1 : decode cX6_init 1 = .ok (.invokespecial 1, 3) := by decide +kernel
theorem dX6_init_4 : decode cX6_init 4 = .ok (.aload_n 0, 1) := by decide +kernel
theorem dX6_init_5 : decode cX6_init 5 = .ok (.sipush 2560, 3) := by decide +kernel
theorem dX6_init_8 : decode cX6_init 8 = .ok (.newarray .int, 2) := by decide +kernel
theorem dX6_init_10 : decode cX6_init 10 = .ok (.putfield 7, 3) := by decide +kernel
theorem dX6_init_13 : decode cX6_init 13 = .ok (.aload_n 0, 1) := by decide +kernel
theorem dX6_init_14 : decode cX6_init 14 = .ok (.bipush 8, 2) := by decide +kernel
theorem dX6_init_16 : decode cX6_init 16 = .ok (.newarray .int, 2) := by decide +kernel
theorem dX6_init_18 : decode cX6_init 18 = .ok (.putfield 13, 3) := by decide +kernel
theorem dX6_init_21 : decode cX6_init 21 = .ok (.aload_n 0, 1) := by decide +kernel
theorem dX6_init_22 : decode cX6_init 22 = .ok (.bipush 8, 2) := by decide +kernel
theorem dX6_init_24 : decode cX6_init 24 = .ok (.newarray .int, 2) := by decide +kernel
theorem dX6_init_26 : decode cX6_init 26 = .ok (.putfield 16, 3) := by decide +kernel
theorem dX6_init_29 : decode cX6_init 29 = .ok (.aload_n 0, 1) := by decide +kernel
theorem dX6_init_30 : decode cX6_init 30 = .ok (.sipush 320, 3) := by decide +kernel
theorem dX6_init_33 : decode cX6_init 33 = .ok (.newarray .int, 2) := by decide +kernel
theorem dX6_init_35 : decode cX6_init 35 = .ok (.putfield 19, 3) := by decide +kernel
theorem dX6_init_38 : decode cX6_init 38 = .ok (.aload_n 0, 1) := by decide +kernel
theorem dX6_init_39 : decode cX6_init 39 = .ok (.sipush 700, 3) := by decide +kernel
theorem dX6_init_42 : decode cX6_init 42 = .ok (.newarray .int, 2) := by decide +kernel
theorem dX6_init_44 : decode cX6_init 44 = .ok (.putfield 22, 3) := by decide +kernel
theorem dX6_init_47 : decode cX6_init 47 = .ok (.aload_n 0, 1) := by decide +kernel
theorem dX6_init_48 : decode cX6_init 48 = .ok (.sipush 700, 3) := by decide +kernel
theorem dX6_init_51 : decode cX6_init 51 = .ok (.newarray .int, 2) := by decide +kernel
theorem dX6_init_53 : decode cX6_init 53 = .ok (.putfield 25, 3) := by decide +kernel
theorem dX6_init_56 : decode cX6_init 56 = .ok (.aload_n 0, 1) := by decide +kernel
theorem dX6_init_57 : decode cX6_init 57 = .ok (.sipush 700, 3) := by decide +kernel
theorem dX6_init_60 : decode cX6_init 60 = .ok (.newarray .int, 2) := by decide +kernel
theorem dX6_init_62 : decode cX6_init 62 = .ok (.putfield 28, 3) := by decide +kernel
theorem dX6_init_65 : decode cX6_init 65 = .ok (.aload_n 0, 1) := by decide +kernel
theorem dX6_init_66 : decode cX6_init 66 = .ok (.sipush 4100, 3) := by decide +kernel
theorem dX6_init_69 : decode cX6_init 69 = .ok (.newarray .int, 2) := by decide +kernel
theorem dX6_init_71 : decode cX6_init 71 = .ok (.putfield 31, 3) := by decide +kernel
theorem dX6_init_74 : decode cX6_init 74 = .ok (.aload_n 0, 1) := by decide +kernel
theorem dX6_init_75 : decode cX6_init 75 = .ok (.getfield 22, 3) := by decide +kernel
theorem dX6_init_78 : decode cX6_init 78 = .ok (.iconst 0, 1) := by decide +kernel
theorem dX6_init_79 : decode cX6_init 79 = .ok (.iconst 1, 1) := by decide +kernel
theorem dX6_init_80 : decode cX6_init 80 = .ok (.iastore, 1) := by decide +kernel
theorem dX6_init_81 : decode cX6_init 81 = .ok (.aload_n 0, 1) := by decide +kernel
theorem dX6_init_82 : decode cX6_init 82 = .ok (.iconst 1, 1) := by decide +kernel
theorem dX6_init_83 : decode cX6_init 83 = .ok (.putfield 34, 3) := by decide +kernel
theorem dX6_init_86 : decode cX6_init 86 = .ok (.iconst 0, 1) := by decide +kernel
theorem dX6_init_87 : decode cX6_init 87 = .ok (.istore_n 1, 1) := by decide +kernel
theorem dX6_init_88 : decode cX6_init 88 = .ok (.iload_n 1, 1) := by decide +kernel
theorem dX6_init_89 : decode cX6_init 89 = .ok (.sipush 4096, 3) := by decide +kernel
theorem dX6_init_92 : decode cX6_init 92 = .ok (.if_icmp .ge 24, 3) := by decide +kernel
theorem dX6_init_95 : decode cX6_init 95 = .ok (.aload_n 0, 1) := by decide +kernel
theorem dX6_init_96 : decode cX6_init 96 = .ok (.aload_n 0, 1) := by decide +kernel
theorem dX6_init_97 : decode cX6_init 97 = .ok (.getfield 22, 3) := by decide +kernel
theorem dX6_init_100 : decode cX6_init 100 = .ok (.aload_n 0, 1) := by decide +kernel
theorem dX6_init_101 : decode cX6_init 101 = .ok (.getfield 34, 3) := by decide +kernel
theorem dX6_init_104 : decode cX6_init 104 = .ok (.invokestatic 38, 3) := by decide +kernel
theorem dX6_init_107 : decode cX6_init 107 = .ok (.putfield 34, 3) := by decide +kernel
theorem dX6_init_110 : decode cX6_init 110 = .ok (.iinc 1 1, 3) := by decide +kernel
theorem dX6_init_113 : decode cX6_init 113 = .ok (.goto (-25), 3) := by decide +kernel
theorem dX6_init_116 : decode cX6_init 116 = .ok (.iconst 0, 1) := by decide +kernel
theorem dX6_init_117 : decode cX6_init 117 = .ok (.istore_n 1, 1) := by decide +kernel
theorem dX6_init_118 : decode cX6_init 118 = .ok (.iload_n 1, 1) := by decide +kernel
theorem dX6_init_119 : decode cX6_init 119 = .ok (.aload_n 0, 1) := by decide +kernel
theorem dX6_init_120 : decode cX6_init 120 = .ok (.getfield 34, 3) := by decide +kernel
theorem dX6_init_123 : decode cX6_init 123 = .ok (.if_icmp .ge 21, 3) := by decide +kernel
theorem dX6_init_126 : decode cX6_init 126 = .ok (.aload_n 0, 1) := by decide +kernel
theorem dX6_init_127 : decode cX6_init 127 = .ok (.getfield 19, 3) := by decide +kernel
theorem dX6_init_130 : decode cX6_init 130 = .ok (.iload_n 1, 1) := by decide +kernel
theorem dX6_init_131 : decode cX6_init 131 = .ok (.aload_n 0, 1) := by decide +kernel
theorem dX6_init_132 : decode cX6_init 132 = .ok (.getfield 22, 3) := by decide +kernel
theorem dX6_init_135 : decode cX6_init 135 = .ok (.iload_n 1, 1) := by decide +kernel
theorem dX6_init_136 : decode cX6_init 136 = .ok (.iaload, 1) := by decide +kernel
theorem dX6_init_137 : decode cX6_init 137 = .ok (.iastore, 1) := by decide +kernel
theorem dX6_init_138 : decode cX6_init 138 = .ok (.iinc 1 1, 3) := by decide +kernel
theorem dX6_init_141 : decode cX6_init 141 = .ok (.goto (-23), 3) := by decide +kernel
theorem dX6_init_144 : decode cX6_init 144 = .ok (.aload_n 0, 1) := by decide +kernel
theorem dX6_init_145 : decode cX6_init 145 = .ok (.aload_n 0, 1) := by decide +kernel
theorem dX6_init_146 : decode cX6_init 146 = .ok (.getfield 34, 3) := by decide +kernel
theorem dX6_init_149 : decode cX6_init 149 = .ok (.putfield 42, 3) := by decide +kernel
theorem dX6_init_152 : decode cX6_init 152 = .ok (.return_, 1) := by decide +kernel
theorem dX6_thrown_0 : decode cX6_thrown 0 = .ok (.aload_n 0, 1) := by decide +kernel
theorem dX6_thrown_1 : decode cX6_thrown 1 = .ok (.getfield 45, 3) := by decide +kernel
theorem dX6_thrown_4 : decode cX6_thrown 4 = .ok (.ireturn, 1) := by decide +kernel
theorem dX6_isRegister_0 : decode cX6_isRegister 0 = .ok (.iload_n 0, 1) := by decide +kernel
theorem dX6_isRegister_1 : decode cX6_isRegister 1 = .ok (.ifCond .lt 13, 3) := by decide +kernel
theorem dX6_isRegister_4 : decode cX6_isRegister 4 = .ok (.iload_n 0, 1) := by decide +kernel
theorem dX6_isRegister_5 : decode cX6_isRegister 5 = .ok (.bipush 7, 2) := by decide +kernel
theorem dX6_isRegister_7 : decode cX6_isRegister 7 = .ok (.if_icmp .gt 7, 3) := by decide +kernel
theorem dX6_isRegister_10 : decode cX6_isRegister 10 = .ok (.iconst 1, 1) := by decide +kernel
theorem dX6_isRegister_11 : decode cX6_isRegister 11 = .ok (.goto 4, 3) := by decide +kernel
theorem dX6_isRegister_14 : decode cX6_isRegister 14 = .ok (.iconst 0, 1) := by decide +kernel
theorem dX6_isRegister_15 : decode cX6_isRegister 15 = .ok (.ireturn, 1) := by decide +kernel
theorem dX6_shortened_0 : decode cX6_shortened 0 = .ok (.iload_n 1, 1) := by decide +kernel
theorem dX6_shortened_1 : decode cX6_shortened 1 = .ok (.istore_n 2, 1) := by decide +kernel
theorem dX6_shortened_2 : decode cX6_shortened 2 = .ok (.iload_n 2, 1) := by decide +kernel
theorem dX6_shortened_3 : decode cX6_shortened 3 = .ok (.ifCond .le 17, 3) := by decide +kernel
theorem dX6_shortened_6 : decode cX6_shortened 6 = .ok (.aload_n 0, 1) := by decide +kernel
theorem dX6_shortened_7 : decode cX6_shortened 7 = .ok (.iload_n 2, 1) := by decide +kernel
theorem dX6_shortened_8 : decode cX6_shortened 8 = .ok (.iconst 1, 1) := by decide +kernel
theorem dX6_shortened_9 : decode cX6_shortened 9 = .ok (.isub, 1) := by decide +kernel
theorem dX6_shortened_10 : decode cX6_shortened 10 = .ok (.iaload, 1) := by decide +kernel
theorem dX6_shortened_11 : decode cX6_shortened 11 = .ok (.ifCond .ne 9, 3) := by decide +kernel
theorem dX6_shortened_14 : decode cX6_shortened 14 = .ok (.iinc 2 (-1), 3) := by decide +kernel
theorem dX6_shortened_17 : decode cX6_shortened 17 = .ok (.goto (-15), 3) := by decide +kernel
theorem dX6_shortened_20 : decode cX6_shortened 20 = .ok (.iload_n 2, 1) := by decide +kernel
theorem dX6_shortened_21 : decode cX6_shortened 21 = .ok (.ireturn, 1) := by decide +kernel
theorem dX6_compareRows_0 : decode cX6_compareRows 0 = .ok (.iload_n 1, 1) := by decide +kernel
theorem dX6_compareRows_1 : decode cX6_compareRows 1 = .ok (.iload_n 3, 1) := by decide +kernel
theorem dX6_compareRows_2 : decode cX6_compareRows 2 = .ok (.if_icmp .eq 14, 3) := by decide +kernel
theorem dX6_compareRows_5 : decode cX6_compareRows 5 = .ok (.iload_n 1, 1) := by decide +kernel
theorem dX6_compareRows_6 : decode cX6_compareRows 6 = .ok (.iload_n 3, 1) := by decide +kernel
theorem dX6_compareRows_7 : decode cX6_compareRows 7 = .ok (.if_icmp .ge 7, 3) := by decide +kernel
theorem dX6_compareRows_10 : decode cX6_compareRows 10 = .ok (.iconst (-1), 1) := by decide +kernel
theorem dX6_compareRows_11 : decode cX6_compareRows 11 = .ok (.goto 4, 3) := by decide +kernel
theorem dX6_compareRows_14 : decode cX6_compareRows 14 = .ok (.iconst 1, 1) := by decide +kernel
theorem dX6_compareRows_15 : decode cX6_compareRows 15 = .ok (.ireturn, 1) := by decide +kernel
theorem dX6_compareRows_16 : decode cX6_compareRows 16 = .ok (.iload_n 1, 1) := by decide +kernel
theorem dX6_compareRows_17 : decode cX6_compareRows 17 = .ok (.iconst 1, 1) := by decide +kernel
theorem dX6_compareRows_18 : decode cX6_compareRows 18 = .ok (.isub, 1) := by decide +kernel
theorem dX6_compareRows_19 : decode cX6_compareRows 19 = .ok (.istore 4, 2) := by decide +kernel
theorem dX6_compareRows_21 : decode cX6_compareRows 21 = .ok (.iload 4, 2) := by decide +kernel
theorem dX6_compareRows_23 : decode cX6_compareRows 23 = .ok (.ifCond .lt 37, 3) := by decide +kernel
theorem dX6_compareRows_26 : decode cX6_compareRows 26 = .ok (.aload_n 0, 1) := by decide +kernel
theorem dX6_compareRows_27 : decode cX6_compareRows 27 = .ok (.iload 4, 2) := by decide +kernel
theorem dX6_compareRows_29 : decode cX6_compareRows 29 = .ok (.iaload, 1) := by decide +kernel
theorem dX6_compareRows_30 : decode cX6_compareRows 30 = .ok (.aload_n 2, 1) := by decide +kernel
theorem dX6_compareRows_31 : decode cX6_compareRows 31 = .ok (.iload 4, 2) := by decide +kernel
theorem dX6_compareRows_33 : decode cX6_compareRows 33 = .ok (.iaload, 1) := by decide +kernel
theorem dX6_compareRows_34 : decode cX6_compareRows 34 = .ok (.if_icmp .eq 20, 3) := by decide +kernel
theorem dX6_compareRows_37 : decode cX6_compareRows 37 = .ok (.aload_n 0, 1) := by decide +kernel
theorem dX6_compareRows_38 : decode cX6_compareRows 38 = .ok (.iload 4, 2) := by decide +kernel
theorem dX6_compareRows_40 : decode cX6_compareRows 40 = .ok (.iaload, 1) := by decide +kernel
theorem dX6_compareRows_41 : decode cX6_compareRows 41 = .ok (.aload_n 2, 1) := by decide +kernel
theorem dX6_compareRows_42 : decode cX6_compareRows 42 = .ok (.iload 4, 2) := by decide +kernel
theorem dX6_compareRows_44 : decode cX6_compareRows 44 = .ok (.iaload, 1) := by decide +kernel
theorem dX6_compareRows_45 : decode cX6_compareRows 45 = .ok (.if_icmp .ge 7, 3) := by decide +kernel
theorem dX6_compareRows_48 : decode cX6_compareRows 48 = .ok (.iconst (-1), 1) := by decide +kernel
theorem dX6_compareRows_49 : decode cX6_compareRows 49 = .ok (.goto 4, 3) := by decide +kernel
theorem dX6_compareRows_52 : decode cX6_compareRows 52 = .ok (.iconst 1, 1) := by decide +kernel
theorem dX6_compareRows_53 : decode cX6_compareRows 53 = .ok (.ireturn, 1) := by decide +kernel
theorem dX6_compareRows_54 : decode cX6_compareRows 54 = .ok (.iinc 4 (-1), 3) := by decide +kernel
theorem dX6_compareRows_57 : decode cX6_compareRows 57 = .ok (.goto (-36), 3) := by decide +kernel
theorem dX6_compareRows_60 : decode cX6_compareRows 60 = .ok (.iconst 0, 1) := by decide +kernel
theorem dX6_compareRows_61 : decode cX6_compareRows 61 = .ok (.ireturn, 1) := by decide +kernel
theorem dX6_scaled_0 : decode cX6_scaled 0 = .ok (.iload_n 3, 1) := by decide +kernel
theorem dX6_scaled_1 : decode cX6_scaled 1 = .ok (.istore 4, 2) := by decide +kernel
theorem dX6_scaled_3 : decode cX6_scaled 3 = .ok (.iconst 0, 1) := by decide +kernel
theorem dX6_scaled_4 : decode cX6_scaled 4 = .ok (.istore 5, 2) := by decide +kernel
theorem dX6_scaled_6 : decode cX6_scaled 6 = .ok (.iload 5, 2) := by decide +kernel
theorem dX6_scaled_8 : decode cX6_scaled 8 = .ok (.iload_n 1, 1) := by decide +kernel
theorem dX6_scaled_9 : decode cX6_scaled 9 = .ok (.if_icmp .lt 8, 3) := by decide +kernel
theorem dX6_scaled_12 : decode cX6_scaled 12 = .ok (.iload 4, 2) := by decide +kernel
theorem dX6_scaled_14 : decode cX6_scaled 14 = .ok (.ifCond .le 48, 3) := by decide +kernel
theorem dX6_scaled_17 : decode cX6_scaled 17 = .ok (.iload 5, 2) := by decide +kernel
theorem dX6_scaled_19 : decode cX6_scaled 19 = .ok (.iload_n 1, 1) := by decide +kernel
theorem dX6_scaled_20 : decode cX6_scaled 20 = .ok (.if_icmp .ge 10, 3) := by decide +kernel
theorem dX6_scaled_23 : decode cX6_scaled 23 = .ok (.aload_n 0, 1) := by decide +kernel
theorem dX6_scaled_24 : decode cX6_scaled 24 = .ok (.iload 5, 2) := by decide +kernel
theorem dX6_scaled_26 : decode cX6_scaled 26 = .ok (.iaload, 1) := by decide +kernel
theorem dX6_scaled_27 : decode cX6_scaled 27 = .ok (.goto 4, 3) := by decide +kernel
theorem dX6_scaled_30 : decode cX6_scaled 30 = .ok (.iconst 0, 1) := by decide +kernel
theorem dX6_scaled_31 : decode cX6_scaled 31 = .ok (.iload_n 2, 1) := by decide +kernel
theorem dX6_scaled_32 : decode cX6_scaled 32 = .ok (.imul, 1) := by decide +kernel
theorem dX6_scaled_33 : decode cX6_scaled 33 = .ok (.iload 4, 2) := by decide +kernel
theorem dX6_scaled_35 : decode cX6_scaled 35 = .ok (.iadd, 1) := by decide +kernel
theorem dX6_scaled_36 : decode cX6_scaled 36 = .ok (.istore 6, 2) := by decide +kernel
theorem dX6_scaled_38 : decode cX6_scaled 38 = .ok (.aload_n 0, 1) := by decide +kernel
theorem dX6_scaled_39 : decode cX6_scaled 39 = .ok (.iload 5, 2) := by decide +kernel
theorem dX6_scaled_41 : decode cX6_scaled 41 = .ok (.iload 6, 2) := by decide +kernel
theorem dX6_scaled_43 : decode cX6_scaled 43 = .ok (.sipush 10000, 3) := by decide +kernel
theorem dX6_scaled_46 : decode cX6_scaled 46 = .ok (.irem, 1) := by decide +kernel
theorem dX6_scaled_47 : decode cX6_scaled 47 = .ok (.iastore, 1) := by decide +kernel
theorem dX6_scaled_48 : decode cX6_scaled 48 = .ok (.iload 6, 2) := by decide +kernel
theorem dX6_scaled_50 : decode cX6_scaled 50 = .ok (.sipush 10000, 3) := by decide +kernel
theorem dX6_scaled_53 : decode cX6_scaled 53 = .ok (.idiv, 1) := by decide +kernel
theorem dX6_scaled_54 : decode cX6_scaled 54 = .ok (.istore 4, 2) := by decide +kernel
theorem dX6_scaled_56 : decode cX6_scaled 56 = .ok (.iinc 5 1, 3) := by decide +kernel
theorem dX6_scaled_59 : decode cX6_scaled 59 = .ok (.goto (-53), 3) := by decide +kernel
theorem dX6_scaled_62 : decode cX6_scaled 62 = .ok (.iload 5, 2) := by decide +kernel
theorem dX6_scaled_64 : decode cX6_scaled 64 = .ok (.ireturn, 1) := by decide +kernel
set_option maxRecDepth 20000 in
theorem ggX6_twice_X6_scaled : GoodIn wsX6_twice wsX6_scaled := goodIn_r _ [4] (by decide +kernel) (by decide +kernel)
set_option maxRecDepth 20000 in
theorem gX6_twice_X6_scaled : GoodIn wsX6_twice (va_wsS RX6 48 yX6_scaled wsX6_scaled) := goodIn_app (goodIn_of _ (by decide +kernel)) ggX6_twice_X6_scaled
theorem dX6_twice_0 : decode cX6_twice 0 = .ok (.aload_n 0, 1) := by decide +kernel
theorem dX6_twice_1 : decode cX6_twice 1 = .ok (.iload_n 1, 1) := by decide +kernel
theorem dX6_twice_2 : decode cX6_twice 2 = .ok (.iconst 2, 1) := by decide +kernel
theorem dX6_twice_3 : decode cX6_twice 3 = .ok (.iconst 0, 1) := by decide +kernel
theorem dX6_twice_4 : decode cX6_twice 4 = .ok (.invokestatic 48, 3) := by decide +kernel
theorem dX6_twice_7 : decode cX6_twice 7 = .ok (.ireturn, 1) := by decide +kernel
set_option maxRecDepth 20000 in
theorem ggX6_half_X6_shortened : GoodIn wsX6_half wsX6_shortened := goodIn_r _ [4] (by decide +kernel) (by decide +kernel)
set_option maxRecDepth 20000 in
theorem gX6_half_X6_shortened : GoodIn wsX6_half (va_wsS RX6 52 yX6_shortened wsX6_shortened) := goodIn_app (goodIn_of _ (by decide +kernel)) ggX6_half_X6_shortened
theorem dX6_half_0 : decode cX6_half 0 = .ok (.iconst 0, 1) := by decide +kernel
theorem dX6_half_1 : decode cX6_half 1 = .ok (.istore_n 2, 1) := by decide +kernel
theorem dX6_half_2 : decode cX6_half 2 = .ok (.iload_n 1, 1) := by decide +kernel
theorem dX6_half_3 : decode cX6_half 3 = .ok (.iconst 1, 1) := by decide +kernel
theorem dX6_half_4 : decode cX6_half 4 = .ok (.isub, 1) := by decide +kernel
theorem dX6_half_5 : decode cX6_half 5 = .ok (.istore_n 3, 1) := by decide +kernel
theorem dX6_half_6 : decode cX6_half 6 = .ok (.iload_n 3, 1) := by decide +kernel
theorem dX6_half_7 : decode cX6_half 7 = .ok (.ifCond .lt 32, 3) := by decide +kernel
theorem dX6_half_10 : decode cX6_half 10 = .ok (.iload_n 2, 1) := by decide +kernel
theorem dX6_half_11 : decode cX6_half 11 = .ok (.sipush 10000, 3) := by decide +kernel
theorem dX6_half_14 : decode cX6_half 14 = .ok (.imul, 1) := by decide +kernel
theorem dX6_half_15 : decode cX6_half 15 = .ok (.aload_n 0, 1) := by decide +kernel
theorem dX6_half_16 : decode cX6_half 16 = .ok (.iload_n 3, 1) := by decide +kernel
theorem dX6_half_17 : decode cX6_half 17 = .ok (.iaload, 1) := by decide +kernel
theorem dX6_half_18 : decode cX6_half 18 = .ok (.iadd, 1) := by decide +kernel
theorem dX6_half_19 : decode cX6_half 19 = .ok (.istore 4, 2) := by decide +kernel
theorem dX6_half_21 : decode cX6_half 21 = .ok (.aload_n 0, 1) := by decide +kernel
theorem dX6_half_22 : decode cX6_half 22 = .ok (.iload_n 3, 1) := by decide +kernel
theorem dX6_half_23 : decode cX6_half 23 = .ok (.iload 4, 2) := by decide +kernel
theorem dX6_half_25 : decode cX6_half 25 = .ok (.iconst 2, 1) := by decide +kernel
theorem dX6_half_26 : decode cX6_half 26 = .ok (.idiv, 1) := by decide +kernel
theorem dX6_half_27 : decode cX6_half 27 = .ok (.iastore, 1) := by decide +kernel
theorem dX6_half_28 : decode cX6_half 28 = .ok (.iload 4, 2) := by decide +kernel
theorem dX6_half_30 : decode cX6_half 30 = .ok (.iconst 2, 1) := by decide +kernel
theorem dX6_half_31 : decode cX6_half 31 = .ok (.irem, 1) := by decide +kernel
theorem dX6_half_32 : decode cX6_half 32 = .ok (.istore_n 2, 1) := by decide +kernel
theorem dX6_half_33 : decode cX6_half 33 = .ok (.iinc 3 (-1), 3) := by decide +kernel
theorem dX6_half_36 : decode cX6_half 36 = .ok (.goto (-30), 3) := by decide +kernel
theorem dX6_half_39 : decode cX6_half 39 = .ok (.aload_n 0, 1) := by decide +kernel
theorem dX6_half_40 : decode cX6_half 40 = .ok (.iload_n 1, 1) := by decide +kernel
theorem dX6_half_41 : decode cX6_half 41 = .ok (.invokestatic 52, 3) := by decide +kernel
theorem dX6_half_44 : decode cX6_half 44 = .ok (.ireturn, 1) := by decide +kernel
theorem dX6_added_0 : decode cX6_added 0 = .ok (.iconst 0, 1) := by decide +kernel
theorem dX6_added_1 : decode cX6_added 1 = .ok (.istore 4, 2) := by decide +kernel
theorem dX6_added_3 : decode cX6_added 3 = .ok (.iconst 0, 1) := by decide +kernel
theorem dX6_added_4 : decode cX6_added 4 = .ok (.istore 5, 2) := by decide +kernel
theorem dX6_added_6 : decode cX6_added 6 = .ok (.iload 5, 2) := by decide +kernel
theorem dX6_added_8 : decode cX6_added 8 = .ok (.iload_n 1, 1) := by decide +kernel
theorem dX6_added_9 : decode cX6_added 9 = .ok (.if_icmp .lt 14, 3) := by decide +kernel
theorem dX6_added_12 : decode cX6_added 12 = .ok (.iload 5, 2) := by decide +kernel
theorem dX6_added_14 : decode cX6_added 14 = .ok (.iload_n 3, 1) := by decide +kernel
theorem dX6_added_15 : decode cX6_added 15 = .ok (.if_icmp .lt 8, 3) := by decide +kernel
theorem dX6_added_18 : decode cX6_added 18 = .ok (.iload 4, 2) := by decide +kernel
theorem dX6_added_20 : decode cX6_added 20 = .ok (.ifCond .le 61, 3) := by decide +kernel
theorem dX6_added_23 : decode cX6_added 23 = .ok (.iload 5, 2) := by decide +kernel
theorem dX6_added_25 : decode cX6_added 25 = .ok (.iload_n 1, 1) := by decide +kernel
theorem dX6_added_26 : decode cX6_added 26 = .ok (.if_icmp .ge 10, 3) := by decide +kernel
theorem dX6_added_29 : decode cX6_added 29 = .ok (.aload_n 0, 1) := by decide +kernel
theorem dX6_added_30 : decode cX6_added 30 = .ok (.iload 5, 2) := by decide +kernel
theorem dX6_added_32 : decode cX6_added 32 = .ok (.iaload, 1) := by decide +kernel
theorem dX6_added_33 : decode cX6_added 33 = .ok (.goto 4, 3) := by decide +kernel
theorem dX6_added_36 : decode cX6_added 36 = .ok (.iconst 0, 1) := by decide +kernel
theorem dX6_added_37 : decode cX6_added 37 = .ok (.iload 5, 2) := by decide +kernel
theorem dX6_added_39 : decode cX6_added 39 = .ok (.iload_n 3, 1) := by decide +kernel
theorem dX6_added_40 : decode cX6_added 40 = .ok (.if_icmp .ge 10, 3) := by decide +kernel
theorem dX6_added_43 : decode cX6_added 43 = .ok (.aload_n 2, 1) := by decide +kernel
theorem dX6_added_44 : decode cX6_added 44 = .ok (.iload 5, 2) := by decide +kernel
theorem dX6_added_46 : decode cX6_added 46 = .ok (.iaload, 1) := by decide +kernel
theorem dX6_added_47 : decode cX6_added 47 = .ok (.goto 4, 3) := by decide +kernel
theorem dX6_added_50 : decode cX6_added 50 = .ok (.iconst 0, 1) := by decide +kernel
theorem dX6_added_51 : decode cX6_added 51 = .ok (.iadd, 1) := by decide +kernel
theorem dX6_added_52 : decode cX6_added 52 = .ok (.iload 4, 2) := by decide +kernel
theorem dX6_added_54 : decode cX6_added 54 = .ok (.iadd, 1) := by decide +kernel
theorem dX6_added_55 : decode cX6_added 55 = .ok (.istore 6, 2) := by decide +kernel
theorem dX6_added_57 : decode cX6_added 57 = .ok (.aload_n 0, 1) := by decide +kernel
theorem dX6_added_58 : decode cX6_added 58 = .ok (.iload 5, 2) := by decide +kernel
theorem dX6_added_60 : decode cX6_added 60 = .ok (.iload 6, 2) := by decide +kernel
theorem dX6_added_62 : decode cX6_added 62 = .ok (.sipush 10000, 3) := by decide +kernel
theorem dX6_added_65 : decode cX6_added 65 = .ok (.irem, 1) := by decide +kernel
theorem dX6_added_66 : decode cX6_added 66 = .ok (.iastore, 1) := by decide +kernel
theorem dX6_added_67 : decode cX6_added 67 = .ok (.iload 6, 2) := by decide +kernel
theorem dX6_added_69 : decode cX6_added 69 = .ok (.sipush 10000, 3) := by decide +kernel
theorem dX6_added_72 : decode cX6_added 72 = .ok (.idiv, 1) := by decide +kernel
theorem dX6_added_73 : decode cX6_added 73 = .ok (.istore 4, 2) := by decide +kernel
theorem dX6_added_75 : decode cX6_added 75 = .ok (.iinc 5 1, 3) := by decide +kernel
theorem dX6_added_78 : decode cX6_added 78 = .ok (.goto (-72), 3) := by decide +kernel
theorem dX6_added_81 : decode cX6_added 81 = .ok (.iload 5, 2) := by decide +kernel
theorem dX6_added_83 : decode cX6_added 83 = .ok (.ireturn, 1) := by decide +kernel
set_option maxRecDepth 20000 in
theorem ggX6_taken_X6_shortened : GoodIn wsX6_taken wsX6_shortened := goodIn_r _ [4] (by decide +kernel) (by decide +kernel)
set_option maxRecDepth 20000 in
theorem gX6_taken_X6_shortened : GoodIn wsX6_taken (va_wsS RX6 52 yX6_shortened wsX6_shortened) := goodIn_app (goodIn_of _ (by decide +kernel)) ggX6_taken_X6_shortened
theorem dX6_taken_0 : decode cX6_taken 0 = .ok (.iconst 0, 1) := by decide +kernel
theorem dX6_taken_1 : decode cX6_taken 1 = .ok (.istore 4, 2) := by decide +kernel
theorem dX6_taken_3 : decode cX6_taken 3 = .ok (.iconst 0, 1) := by decide +kernel
theorem dX6_taken_4 : decode cX6_taken 4 = .ok (.istore 5, 2) := by decide +kernel
theorem dX6_taken_6 : decode cX6_taken 6 = .ok (.iload 5, 2) := by decide +kernel
theorem dX6_taken_8 : decode cX6_taken 8 = .ok (.iload_n 1, 1) := by decide +kernel
theorem dX6_taken_9 : decode cX6_taken 9 = .ok (.if_icmp .ge 58, 3) := by decide +kernel
theorem dX6_taken_12 : decode cX6_taken 12 = .ok (.aload_n 0, 1) := by decide +kernel
theorem dX6_taken_13 : decode cX6_taken 13 = .ok (.iload 5, 2) := by decide +kernel
theorem dX6_taken_15 : decode cX6_taken 15 = .ok (.iaload, 1) := by decide +kernel
theorem dX6_taken_16 : decode cX6_taken 16 = .ok (.iload 4, 2) := by decide +kernel
theorem dX6_taken_18 : decode cX6_taken 18 = .ok (.isub, 1) := by decide +kernel
theorem dX6_taken_19 : decode cX6_taken 19 = .ok (.iload 5, 2) := by decide +kernel
theorem dX6_taken_21 : decode cX6_taken 21 = .ok (.iload_n 3, 1) := by decide +kernel
theorem dX6_taken_22 : decode cX6_taken 22 = .ok (.if_icmp .ge 10, 3) := by decide +kernel
theorem dX6_taken_25 : decode cX6_taken 25 = .ok (.aload_n 2, 1) := by decide +kernel
theorem dX6_taken_26 : decode cX6_taken 26 = .ok (.iload 5, 2) := by decide +kernel
theorem dX6_taken_28 : decode cX6_taken 28 = .ok (.iaload, 1) := by decide +kernel
theorem dX6_taken_29 : decode cX6_taken 29 = .ok (.goto 4, 3) := by decide +kernel
theorem dX6_taken_32 : decode cX6_taken 32 = .ok (.iconst 0, 1) := by decide +kernel
theorem dX6_taken_33 : decode cX6_taken 33 = .ok (.isub, 1) := by decide +kernel
theorem dX6_taken_34 : decode cX6_taken 34 = .ok (.istore 6, 2) := by decide +kernel
theorem dX6_taken_36 : decode cX6_taken 36 = .ok (.iload 6, 2) := by decide +kernel
theorem dX6_taken_38 : decode cX6_taken 38 = .ok (.ifCond .ge 7, 3) := by decide +kernel
theorem dX6_taken_41 : decode cX6_taken 41 = .ok (.iconst 1, 1) := by decide +kernel
theorem dX6_taken_42 : decode cX6_taken 42 = .ok (.goto 4, 3) := by decide +kernel
theorem dX6_taken_45 : decode cX6_taken 45 = .ok (.iconst 0, 1) := by decide +kernel
theorem dX6_taken_46 : decode cX6_taken 46 = .ok (.istore 4, 2) := by decide +kernel
theorem dX6_taken_48 : decode cX6_taken 48 = .ok (.aload_n 0, 1) := by decide +kernel
theorem dX6_taken_49 : decode cX6_taken 49 = .ok (.iload 5, 2) := by decide +kernel
theorem dX6_taken_51 : decode cX6_taken 51 = .ok (.iload 6, 2) := by decide +kernel
theorem dX6_taken_53 : decode cX6_taken 53 = .ok (.iload 4, 2) := by decide +kernel
theorem dX6_taken_55 : decode cX6_taken 55 = .ok (.sipush 10000, 3) := by decide +kernel
theorem dX6_taken_58 : decode cX6_taken 58 = .ok (.imul, 1) := by decide +kernel
theorem dX6_taken_59 : decode cX6_taken 59 = .ok (.iadd, 1) := by decide +kernel
theorem dX6_taken_60 : decode cX6_taken 60 = .ok (.iastore, 1) := by decide +kernel
theorem dX6_taken_61 : decode cX6_taken 61 = .ok (.iinc 5 1, 3) := by decide +kernel
theorem dX6_taken_64 : decode cX6_taken 64 = .ok (.goto (-58), 3) := by decide +kernel
theorem dX6_taken_67 : decode cX6_taken 67 = .ok (.aload_n 0, 1) := by decide +kernel
theorem dX6_taken_68 : decode cX6_taken 68 = .ok (.iload_n 1, 1) := by decide +kernel
theorem dX6_taken_69 : decode cX6_taken 69 = .ok (.invokestatic 52, 3) := by decide +kernel
theorem dX6_taken_72 : decode cX6_taken 72 = .ok (.ireturn, 1) := by decide +kernel
theorem dX6_isOdd_0 : decode cX6_isOdd 0 = .ok (.iload_n 1, 1) := by decide +kernel
theorem dX6_isOdd_1 : decode cX6_isOdd 1 = .ok (.ifCond .le 16, 3) := by decide +kernel
theorem dX6_isOdd_4 : decode cX6_isOdd 4 = .ok (.aload_n 0, 1) := by decide +kernel
theorem dX6_isOdd_5 : decode cX6_isOdd 5 = .ok (.iconst 0, 1) := by decide +kernel
theorem dX6_isOdd_6 : decode cX6_isOdd 6 = .ok (.iaload, 1) := by decide +kernel
theorem dX6_isOdd_7 : decode cX6_isOdd 7 = .ok (.iconst 2, 1) := by decide +kernel
theorem dX6_isOdd_8 : decode cX6_isOdd 8 = .ok (.irem, 1) := by decide +kernel
theorem dX6_isOdd_9 : decode cX6_isOdd 9 = .ok (.iconst 1, 1) := by decide +kernel
theorem dX6_isOdd_10 : decode cX6_isOdd 10 = .ok (.if_icmp .ne 7, 3) := by decide +kernel
theorem dX6_isOdd_13 : decode cX6_isOdd 13 = .ok (.iconst 1, 1) := by decide +kernel
theorem dX6_isOdd_14 : decode cX6_isOdd 14 = .ok (.goto 4, 3) := by decide +kernel
theorem dX6_isOdd_17 : decode cX6_isOdd 17 = .ok (.iconst 0, 1) := by decide +kernel
theorem dX6_isOdd_18 : decode cX6_isOdd 18 = .ok (.ireturn, 1) := by decide +kernel
theorem dX6_toX_0 : decode cX6_toX 0 = .ok (.aload_n 0, 1) := by decide +kernel
theorem dX6_toX_1 : decode cX6_toX 1 = .ok (.aload_n 0, 1) := by decide +kernel
theorem dX6_toX_2 : decode cX6_toX 2 = .ok (.getfield 13, 3) := by decide +kernel
theorem dX6_toX_5 : decode cX6_toX 5 = .ok (.iload_n 1, 1) := by decide +kernel
theorem dX6_toX_6 : decode cX6_toX 6 = .ok (.iaload, 1) := by decide +kernel
theorem dX6_toX_7 : decode cX6_toX 7 = .ok (.putfield 34, 3) := by decide +kernel
theorem dX6_toX_10 : decode cX6_toX 10 = .ok (.iconst 0, 1) := by decide +kernel
theorem dX6_toX_11 : decode cX6_toX 11 = .ok (.istore_n 2, 1) := by decide +kernel
theorem dX6_toX_12 : decode cX6_toX 12 = .ok (.iload_n 2, 1) := by decide +kernel
theorem dX6_toX_13 : decode cX6_toX 13 = .ok (.aload_n 0, 1) := by decide +kernel
theorem dX6_toX_14 : decode cX6_toX 14 = .ok (.getfield 34, 3) := by decide +kernel
theorem dX6_toX_17 : decode cX6_toX 17 = .ok (.if_icmp .ge 27, 3) := by decide +kernel
theorem dX6_toX_20 : decode cX6_toX 20 = .ok (.aload_n 0, 1) := by decide +kernel
theorem dX6_toX_21 : decode cX6_toX 21 = .ok (.getfield 22, 3) := by decide +kernel
theorem dX6_toX_24 : decode cX6_toX 24 = .ok (.iload_n 2, 1) := by decide +kernel
theorem dX6_toX_25 : decode cX6_toX 25 = .ok (.aload_n 0, 1) := by decide +kernel
theorem dX6_toX_26 : decode cX6_toX 26 = .ok (.getfield 7, 3) := by decide +kernel
theorem dX6_toX_29 : decode cX6_toX 29 = .ok (.sipush 320, 3) := by decide +kernel
theorem dX6_toX_32 : decode cX6_toX 32 = .ok (.iload_n 1, 1) := by decide +kernel
theorem dX6_toX_33 : decode cX6_toX 33 = .ok (.imul, 1) := by decide +kernel
theorem dX6_toX_34 : decode cX6_toX 34 = .ok (.iload_n 2, 1) := by decide +kernel
theorem dX6_toX_35 : decode cX6_toX 35 = .ok (.iadd, 1) := by decide +kernel
theorem dX6_toX_36 : decode cX6_toX 36 = .ok (.iaload, 1) := by decide +kernel
theorem dX6_toX_37 : decode cX6_toX 37 = .ok (.iastore, 1) := by decide +kernel
theorem dX6_toX_38 : decode cX6_toX 38 = .ok (.iinc 2 1, 3) := by decide +kernel
theorem dX6_toX_41 : decode cX6_toX 41 = .ok (.goto (-29), 3) := by decide +kernel
theorem dX6_toX_44 : decode cX6_toX 44 = .ok (.return_, 1) := by decide +kernel
theorem dX6_toY_0 : decode cX6_toY 0 = .ok (.aload_n 0, 1) := by decide +kernel
theorem dX6_toY_1 : decode cX6_toY 1 = .ok (.aload_n 0, 1) := by decide +kernel
theorem dX6_toY_2 : decode cX6_toY 2 = .ok (.getfield 13, 3) := by decide +kernel
theorem dX6_toY_5 : decode cX6_toY 5 = .ok (.iload_n 1, 1) := by decide +kernel
theorem dX6_toY_6 : decode cX6_toY 6 = .ok (.iaload, 1) := by decide +kernel
theorem dX6_toY_7 : decode cX6_toY 7 = .ok (.putfield 55, 3) := by decide +kernel
theorem dX6_toY_10 : decode cX6_toY 10 = .ok (.iconst 0, 1) := by decide +kernel
theorem dX6_toY_11 : decode cX6_toY 11 = .ok (.istore_n 2, 1) := by decide +kernel
theorem dX6_toY_12 : decode cX6_toY 12 = .ok (.iload_n 2, 1) := by decide +kernel
theorem dX6_toY_13 : decode cX6_toY 13 = .ok (.aload_n 0, 1) := by decide +kernel
theorem dX6_toY_14 : decode cX6_toY 14 = .ok (.getfield 55, 3) := by decide +kernel
theorem dX6_toY_17 : decode cX6_toY 17 = .ok (.if_icmp .ge 27, 3) := by decide +kernel
theorem dX6_toY_20 : decode cX6_toY 20 = .ok (.aload_n 0, 1) := by decide +kernel
theorem dX6_toY_21 : decode cX6_toY 21 = .ok (.getfield 25, 3) := by decide +kernel
theorem dX6_toY_24 : decode cX6_toY 24 = .ok (.iload_n 2, 1) := by decide +kernel
theorem dX6_toY_25 : decode cX6_toY 25 = .ok (.aload_n 0, 1) := by decide +kernel
theorem dX6_toY_26 : decode cX6_toY 26 = .ok (.getfield 7, 3) := by decide +kernel
theorem dX6_toY_29 : decode cX6_toY 29 = .ok (.sipush 320, 3) := by decide +kernel
theorem dX6_toY_32 : decode cX6_toY 32 = .ok (.iload_n 1, 1) := by decide +kernel
theorem dX6_toY_33 : decode cX6_toY 33 = .ok (.imul, 1) := by decide +kernel
theorem dX6_toY_34 : decode cX6_toY 34 = .ok (.iload_n 2, 1) := by decide +kernel
theorem dX6_toY_35 : decode cX6_toY 35 = .ok (.iadd, 1) := by decide +kernel
theorem dX6_toY_36 : decode cX6_toY 36 = .ok (.iaload, 1) := by decide +kernel
theorem dX6_toY_37 : decode cX6_toY 37 = .ok (.iastore, 1) := by decide +kernel
theorem dX6_toY_38 : decode cX6_toY 38 = .ok (.iinc 2 1, 3) := by decide +kernel
theorem dX6_toY_41 : decode cX6_toY 41 = .ok (.goto (-29), 3) := by decide +kernel
theorem dX6_toY_44 : decode cX6_toY 44 = .ok (.return_, 1) := by decide +kernel
set_option maxRecDepth 20000 in
theorem ggX6_isWithin_X6_compareRows : GoodIn wsX6_isWithin wsX6_compareRows := goodIn_r _ [6] (by decide +kernel) (by decide +kernel)
set_option maxRecDepth 20000 in
theorem gX6_isWithin_X6_compareRows : GoodIn wsX6_isWithin (va_wsS RX6 58 yX6_compareRows wsX6_compareRows) := goodIn_app (goodIn_of _ (by decide +kernel)) ggX6_isWithin_X6_compareRows
theorem dX6_isWithin_0 : decode cX6_isWithin 0 = .ok (.aload_n 1, 1) := by decide +kernel
theorem dX6_isWithin_1 : decode cX6_isWithin 1 = .ok (.iload_n 2, 1) := by decide +kernel
theorem dX6_isWithin_2 : decode cX6_isWithin 2 = .ok (.aload_n 0, 1) := by decide +kernel
theorem dX6_isWithin_3 : decode cX6_isWithin 3 = .ok (.getfield 19, 3) := by decide +kernel
theorem dX6_isWithin_6 : decode cX6_isWithin 6 = .ok (.aload_n 0, 1) := by decide +kernel
theorem dX6_isWithin_7 : decode cX6_isWithin 7 = .ok (.getfield 42, 3) := by decide +kernel
theorem dX6_isWithin_10 : decode cX6_isWithin 10 = .ok (.invokestatic 58, 3) := by decide +kernel
theorem dX6_isWithin_13 : decode cX6_isWithin 13 = .ok (.ifCond .ge 7, 3) := by decide +kernel
theorem dX6_isWithin_16 : decode cX6_isWithin 16 = .ok (.iconst 1, 1) := by decide +kernel
theorem dX6_isWithin_17 : decode cX6_isWithin 17 = .ok (.goto 4, 3) := by decide +kernel
theorem dX6_isWithin_20 : decode cX6_isWithin 20 = .ok (.iconst 0, 1) := by decide +kernel
theorem dX6_isWithin_21 : decode cX6_isWithin 21 = .ok (.ireturn, 1) := by decide +kernel
set_option maxRecDepth 20000 in
theorem ggX6_put_X6_isWithin : GoodIn wsX6_put wsX6_isWithin := goodIn_r _ [8, 9, 10, 11, 12, 7, 13, 30, 31, 32, 33, 34, 35, 36, 37, 38, 39, 40, 41, 42, 43] (by decide +kernel) (by decide +kernel)
set_option maxRecDepth 20000 in
theorem gX6_put_X6_isWithin : GoodIn wsX6_put (wsV RX6 62 RX6 yX6_isWithin wsX6_isWithin) := goodIn_app (goodIn_of _ (by decide +kernel)) ggX6_put_X6_isWithin
set_option maxRecDepth 20000 in
theorem ggX6_put_X6_bitsOf : GoodIn wsX6_put wsX6_bitsOf := goodIn_r _ [17, 18, 19, 20, 21, 22, 7, 23, 1, 3, 24, 25, 26, 27, 28, 29, 30, 31, 32, 33, 34, 35, 36, 37, 38, 39, 40, 41, 42, 43] (by decide +kernel) (by decide +kernel)
set_option maxRecDepth 20000 in
theorem gX6_put_X6_bitsOf : GoodIn wsX6_put (wsV RX6 66 RX6 yX6_bitsOf wsX6_bitsOf) := goodIn_app (goodIn_of _ (by decide +kernel)) ggX6_put_X6_bitsOf
theorem dX6_put_0 : decode cX6_put 0 = .ok (.aload_n 0, 1) := by decide +kernel
theorem dX6_put_1 : decode cX6_put 1 = .ok (.aload_n 2, 1) := by decide +kernel
theorem dX6_put_2 : decode cX6_put 2 = .ok (.iload_n 3, 1) := by decide +kernel
theorem dX6_put_3 : decode cX6_put 3 = .ok (.invokevirtual 62, 3) := by decide +kernel
theorem dX6_put_6 : decode cX6_put 6 = .ok (.ifCond .ne 5, 3) := by decide +kernel
theorem dX6_put_9 : decode cX6_put 9 = .ok (.iconst (-1), 1) := by decide +kernel
theorem dX6_put_10 : decode cX6_put 10 = .ok (.ireturn, 1) := by decide +kernel
theorem dX6_put_11 : decode cX6_put 11 = .ok (.aload_n 0, 1) := by decide +kernel
theorem dX6_put_12 : decode cX6_put 12 = .ok (.getfield 13, 3) := by decide +kernel
theorem dX6_put_15 : decode cX6_put 15 = .ok (.iload_n 1, 1) := by decide +kernel
theorem dX6_put_16 : decode cX6_put 16 = .ok (.iload_n 3, 1) := by decide +kernel
theorem dX6_put_17 : decode cX6_put 17 = .ok (.iastore, 1) := by decide +kernel
theorem dX6_put_18 : decode cX6_put 18 = .ok (.aload_n 0, 1) := by decide +kernel
theorem dX6_put_19 : decode cX6_put 19 = .ok (.getfield 16, 3) := by decide +kernel
theorem dX6_put_22 : decode cX6_put 22 = .ok (.iload_n 1, 1) := by decide +kernel
theorem dX6_put_23 : decode cX6_put 23 = .ok (.iload_n 3, 1) := by decide +kernel
theorem dX6_put_24 : decode cX6_put 24 = .ok (.ifCond .ne 7, 3) := by decide +kernel
theorem dX6_put_27 : decode cX6_put 27 = .ok (.iconst 0, 1) := by decide +kernel
theorem dX6_put_28 : decode cX6_put 28 = .ok (.goto 5, 3) := by decide +kernel
theorem dX6_put_31 : decode cX6_put 31 = .ok (.iload 4, 2) := by decide +kernel
theorem dX6_put_33 : decode cX6_put 33 = .ok (.iastore, 1) := by decide +kernel
theorem dX6_put_34 : decode cX6_put 34 = .ok (.iconst 0, 1) := by decide +kernel
theorem dX6_put_35 : decode cX6_put 35 = .ok (.istore 5, 2) := by decide +kernel
theorem dX6_put_37 : decode cX6_put 37 = .ok (.iload 5, 2) := by decide +kernel
theorem dX6_put_39 : decode cX6_put 39 = .ok (.iload_n 3, 1) := by decide +kernel
theorem dX6_put_40 : decode cX6_put 40 = .ok (.if_icmp .ge 26, 3) := by decide +kernel
theorem dX6_put_43 : decode cX6_put 43 = .ok (.aload_n 0, 1) := by decide +kernel
theorem dX6_put_44 : decode cX6_put 44 = .ok (.getfield 7, 3) := by decide +kernel
theorem dX6_put_47 : decode cX6_put 47 = .ok (.sipush 320, 3) := by decide +kernel
theorem dX6_put_50 : decode cX6_put 50 = .ok (.iload_n 1, 1) := by decide +kernel
theorem dX6_put_51 : decode cX6_put 51 = .ok (.imul, 1) := by decide +kernel
theorem dX6_put_52 : decode cX6_put 52 = .ok (.iload 5, 2) := by decide +kernel
theorem dX6_put_54 : decode cX6_put 54 = .ok (.iadd, 1) := by decide +kernel
theorem dX6_put_55 : decode cX6_put 55 = .ok (.aload_n 2, 1) := by decide +kernel
theorem dX6_put_56 : decode cX6_put 56 = .ok (.iload 5, 2) := by decide +kernel
theorem dX6_put_58 : decode cX6_put 58 = .ok (.iaload, 1) := by decide +kernel
theorem dX6_put_59 : decode cX6_put 59 = .ok (.iastore, 1) := by decide +kernel
theorem dX6_put_60 : decode cX6_put 60 = .ok (.iinc 5 1, 3) := by decide +kernel
theorem dX6_put_63 : decode cX6_put 63 = .ok (.goto (-26), 3) := by decide +kernel
theorem dX6_put_66 : decode cX6_put 66 = .ok (.aload_n 0, 1) := by decide +kernel
theorem dX6_put_67 : decode cX6_put 67 = .ok (.iload_n 1, 1) := by decide +kernel
theorem dX6_put_68 : decode cX6_put 68 = .ok (.invokevirtual 66, 3) := by decide +kernel
theorem dX6_put_71 : decode cX6_put 71 = .ok (.ireturn, 1) := by decide +kernel
set_option maxRecDepth 20000 in
theorem ggX6_bitsOf_X6_toX : GoodIn wsX6_bitsOf wsX6_toX := goodIn_r _ [7, 8, 1, 2, 9, 16, 17, 18, 19, 20, 21, 22, 23, 24, 25, 26, 27, 28, 29] (by decide +kernel) (by decide +kernel)
set_option maxRecDepth 20000 in
theorem gX6_bitsOf_X6_toX : GoodIn wsX6_bitsOf (wsV RX6 70 RX6 yX6_toX wsX6_toX) := goodIn_app (goodIn_of _ (by decide +kernel)) ggX6_bitsOf_X6_toX
set_option maxRecDepth 20000 in
theorem ggX6_bitsOf_X6_half : GoodIn wsX6_bitsOf wsX6_half := goodIn_r _ [12, 13, 14, 6, 15] (by decide +kernel) (by decide +kernel)
set_option maxRecDepth 20000 in
theorem gX6_bitsOf_X6_half : GoodIn wsX6_bitsOf (va_wsS RX6 74 yX6_half wsX6_half) := goodIn_app (goodIn_of _ (by decide +kernel)) ggX6_bitsOf_X6_half
theorem dX6_bitsOf_0 : decode cX6_bitsOf 0 = .ok (.aload_n 0, 1) := by decide +kernel
theorem dX6_bitsOf_1 : decode cX6_bitsOf 1 = .ok (.iload_n 1, 1) := by decide +kernel
theorem dX6_bitsOf_2 : decode cX6_bitsOf 2 = .ok (.invokevirtual 70, 3) := by decide +kernel
theorem dX6_bitsOf_5 : decode cX6_bitsOf 5 = .ok (.iconst 0, 1) := by decide +kernel
theorem dX6_bitsOf_6 : decode cX6_bitsOf 6 = .ok (.istore_n 2, 1) := by decide +kernel
theorem dX6_bitsOf_7 : decode cX6_bitsOf 7 = .ok (.aload_n 0, 1) := by decide +kernel
theorem dX6_bitsOf_8 : decode cX6_bitsOf 8 = .ok (.getfield 34, 3) := by decide +kernel
theorem dX6_bitsOf_11 : decode cX6_bitsOf 11 = .ok (.ifCond .le 24, 3) := by decide +kernel
theorem dX6_bitsOf_14 : decode cX6_bitsOf 14 = .ok (.aload_n 0, 1) := by decide +kernel
theorem dX6_bitsOf_15 : decode cX6_bitsOf 15 = .ok (.aload_n 0, 1) := by decide +kernel
theorem dX6_bitsOf_16 : decode cX6_bitsOf 16 = .ok (.getfield 22, 3) := by decide +kernel
theorem dX6_bitsOf_19 : decode cX6_bitsOf 19 = .ok (.aload_n 0, 1) := by decide +kernel
theorem dX6_bitsOf_20 : decode cX6_bitsOf 20 = .ok (.getfield 34, 3) := by decide +kernel
theorem dX6_bitsOf_23 : decode cX6_bitsOf 23 = .ok (.invokestatic 74, 3) := by decide +kernel
theorem dX6_bitsOf_26 : decode cX6_bitsOf 26 = .ok (.putfield 34, 3) := by decide +kernel
theorem dX6_bitsOf_29 : decode cX6_bitsOf 29 = .ok (.iinc 2 1, 3) := by decide +kernel
theorem dX6_bitsOf_32 : decode cX6_bitsOf 32 = .ok (.goto (-25), 3) := by decide +kernel
theorem dX6_bitsOf_35 : decode cX6_bitsOf 35 = .ok (.iload_n 2, 1) := by decide +kernel
theorem dX6_bitsOf_36 : decode cX6_bitsOf 36 = .ok (.ireturn, 1) := by decide +kernel
set_option maxRecDepth 20000 in
theorem ggX6_load_X6_isRegister : GoodIn wsX6_load wsX6_isRegister := goodIn_r _ [9] (by decide +kernel) (by decide +kernel)
set_option maxRecDepth 20000 in
theorem gX6_load_X6_isRegister : GoodIn wsX6_load (va_wsS RX6 77 yX6_isRegister wsX6_isRegister) := goodIn_app (goodIn_of _ (by decide +kernel)) ggX6_load_X6_isRegister
theorem dX6_load_0 : decode cX6_load 0 = .ok (.aload_n 0, 1) := by decide +kernel
theorem dX6_load_1 : decode cX6_load 1 = .ok (.iconst 0, 1) := by decide +kernel
theorem dX6_load_2 : decode cX6_load 2 = .ok (.putfield 45, 3) := by decide +kernel
theorem dX6_load_5 : decode cX6_load 5 = .ok (.iload_n 1, 1) := by decide +kernel
theorem dX6_load_6 : decode cX6_load 6 = .ok (.invokestatic 77, 3) := by decide +kernel
theorem dX6_load_9 : decode cX6_load 9 = .ok (.ifCond .ne 5, 3) := by decide +kernel
theorem dX6_load_12 : decode cX6_load 12 = .ok (.iconst 0, 1) := by decide +kernel
theorem dX6_load_13 : decode cX6_load 13 = .ok (.ireturn, 1) := by decide +kernel
theorem dX6_load_14 : decode cX6_load 14 = .ok (.lload_n 2, 1) := by decide +kernel
theorem dX6_load_15 : decode cX6_load 15 = .ok (.lstore 4, 2) := by decide +kernel
theorem dX6_load_17 : decode cX6_load 17 = .ok (.iconst 0, 1) := by decide +kernel
theorem dX6_load_18 : decode cX6_load 18 = .ok (.istore 6, 2) := by decide +kernel
theorem dX6_load_20 : decode cX6_load 20 = .ok (.lload 4, 2) := by decide +kernel
theorem dX6_load_22 : decode cX6_load 22 = .ok (.lconst 0, 1) := by decide +kernel
theorem dX6_load_23 : decode cX6_load 23 = .ok (.lcmp, 1) := by decide +kernel
theorem dX6_load_24 : decode cX6_load 24 = .ok (.ifCond .eq 54, 3) := by decide +kernel
theorem dX6_load_27 : decode cX6_load 27 = .ok (.lload 4, 2) := by decide +kernel
theorem dX6_load_29 : decode cX6_load 29 = .ok (.ldc2_w 81, 3) := by decide +kernel
theorem dX6_load_32 : decode cX6_load 32 = .ok (.lrem, 1) := by decide +kernel
theorem dX6_load_33 : decode cX6_load 33 = .ok (.lstore 7, 2) := by decide +kernel
theorem dX6_load_35 : decode cX6_load 35 = .ok (.aload_n 0, 1) := by decide +kernel
theorem dX6_load_36 : decode cX6_load 36 = .ok (.getfield 7, 3) := by decide +kernel
theorem dX6_load_39 : decode cX6_load 39 = .ok (.sipush 320, 3) := by decide +kernel
theorem dX6_load_42 : decode cX6_load 42 = .ok (.iload_n 1, 1) := by decide +kernel
theorem dX6_load_43 : decode cX6_load 43 = .ok (.imul, 1) := by decide +kernel
theorem dX6_load_44 : decode cX6_load 44 = .ok (.iload 6, 2) := by decide +kernel
theorem dX6_load_46 : decode cX6_load 46 = .ok (.iadd, 1) := by decide +kernel
theorem dX6_load_47 : decode cX6_load 47 = .ok (.lload 7, 2) := by decide +kernel
theorem dX6_load_49 : decode cX6_load 49 = .ok (.lconst 0, 1) := by decide +kernel
theorem dX6_load_50 : decode cX6_load 50 = .ok (.lcmp, 1) := by decide +kernel
theorem dX6_load_51 : decode cX6_load 51 = .ok (.ifCond .ge 9, 3) := by decide +kernel
theorem dX6_load_54 : decode cX6_load 54 = .ok (.lload 7, 2) := by decide +kernel
theorem dX6_load_56 : decode cX6_load 56 = .ok (.lneg, 1) := by decide +kernel
theorem dX6_load_57 : decode cX6_load 57 = .ok (.goto 5, 3) := by decide +kernel
theorem dX6_load_60 : decode cX6_load 60 = .ok (.lload 7, 2) := by decide +kernel
theorem dX6_load_62 : decode cX6_load 62 = .ok (.l2i, 1) := by decide +kernel
theorem dX6_load_63 : decode cX6_load 63 = .ok (.iastore, 1) := by decide +kernel
theorem dX6_load_64 : decode cX6_load 64 = .ok (.lload 4, 2) := by decide +kernel
theorem dX6_load_66 : decode cX6_load 66 = .ok (.ldc2_w 81, 3) := by decide +kernel
theorem dX6_load_69 : decode cX6_load 69 = .ok (.ldiv, 1) := by decide +kernel
theorem dX6_load_70 : decode cX6_load 70 = .ok (.lstore 4, 2) := by decide +kernel
theorem dX6_load_72 : decode cX6_load 72 = .ok (.iinc 6 1, 3) := by decide +kernel
theorem dX6_load_75 : decode cX6_load 75 = .ok (.goto (-55), 3) := by decide +kernel
theorem dX6_load_78 : decode cX6_load 78 = .ok (.aload_n 0, 1) := by decide +kernel
theorem dX6_load_79 : decode cX6_load 79 = .ok (.getfield 13, 3) := by decide +kernel
theorem dX6_load_82 : decode cX6_load 82 = .ok (.iload_n 1, 1) := by decide +kernel
theorem dX6_load_83 : decode cX6_load 83 = .ok (.iload 6, 2) := by decide +kernel
theorem dX6_load_85 : decode cX6_load 85 = .ok (.iastore, 1) := by decide +kernel
theorem dX6_load_86 : decode cX6_load 86 = .ok (.aload_n 0, 1) := by decide +kernel
theorem dX6_load_87 : decode cX6_load 87 = .ok (.getfield 16, 3) := by decide +kernel
theorem dX6_load_90 : decode cX6_load 90 = .ok (.iload_n 1, 1) := by decide +kernel
theorem dX6_load_91 : decode cX6_load 91 = .ok (.lload_n 2, 1) := by decide +kernel
theorem dX6_load_92 : decode cX6_load 92 = .ok (.lconst 0, 1) := by decide +kernel
theorem dX6_load_93 : decode cX6_load 93 = .ok (.lcmp, 1) := by decide +kernel
theorem dX6_load_94 : decode cX6_load 94 = .ok (.ifCond .ge 7, 3) := by decide +kernel
theorem dX6_load_97 : decode cX6_load 97 = .ok (.iconst (-1), 1) := by decide +kernel
theorem dX6_load_98 : decode cX6_load 98 = .ok (.goto 14, 3) := by decide +kernel
theorem dX6_load_101 : decode cX6_load 101 = .ok (.lload_n 2, 1) := by decide +kernel
theorem dX6_load_102 : decode cX6_load 102 = .ok (.lconst 0, 1) := by decide +kernel
theorem dX6_load_103 : decode cX6_load 103 = .ok (.lcmp, 1) := by decide +kernel
theorem dX6_load_104 : decode cX6_load 104 = .ok (.ifCond .le 7, 3) := by decide +kernel
theorem dX6_load_107 : decode cX6_load 107 = .ok (.iconst 1, 1) := by decide +kernel
theorem dX6_load_108 : decode cX6_load 108 = .ok (.goto 4, 3) := by decide +kernel
theorem dX6_load_111 : decode cX6_load 111 = .ok (.iconst 0, 1) := by decide +kernel
theorem dX6_load_112 : decode cX6_load 112 = .ok (.iastore, 1) := by decide +kernel
theorem dX6_load_113 : decode cX6_load 113 = .ok (.iconst 1, 1) := by decide +kernel
theorem dX6_load_114 : decode cX6_load 114 = .ok (.ireturn, 1) := by decide +kernel
set_option maxRecDepth 20000 in
theorem ggX6_sum_X6_added : GoodIn wsX6_sum wsX6_added := goodIn_r _ [8] (by decide +kernel) (by decide +kernel)
set_option maxRecDepth 20000 in
theorem gX6_sum_X6_added : GoodIn wsX6_sum (va_wsS RX6 83 yX6_added wsX6_added) := goodIn_app (goodIn_of _ (by decide +kernel)) ggX6_sum_X6_added
set_option maxRecDepth 20000 in
theorem ggX6_sum_X6_compareRows : GoodIn wsX6_sum wsX6_compareRows := goodIn_r _ [11] (by decide +kernel) (by decide +kernel)
set_option maxRecDepth 20000 in
theorem gX6_sum_X6_compareRows : GoodIn wsX6_sum (va_wsS RX6 58 yX6_compareRows wsX6_compareRows) := goodIn_app (goodIn_of _ (by decide +kernel)) ggX6_sum_X6_compareRows
set_option maxRecDepth 20000 in
theorem ggX6_sum_X6_taken : GoodIn wsX6_sum wsX6_taken := goodIn_r _ [14, 15, 16, 7, 17] (by decide +kernel) (by decide +kernel)
set_option maxRecDepth 20000 in
theorem gX6_sum_X6_taken : GoodIn wsX6_sum (va_wsS RX6 86 yX6_taken wsX6_taken) := goodIn_app (goodIn_of _ (by decide +kernel)) ggX6_sum_X6_taken
theorem dX6_sum_0 : decode cX6_sum 0 = .ok (.iload_n 1, 1) := by decide +kernel
theorem dX6_sum_1 : decode cX6_sum 1 = .ok (.ifCond .eq 12, 3) := by decide +kernel
theorem dX6_sum_4 : decode cX6_sum 4 = .ok (.iload_n 2, 1) := by decide +kernel
theorem dX6_sum_5 : decode cX6_sum 5 = .ok (.ifCond .eq 8, 3) := by decide +kernel
theorem dX6_sum_8 : decode cX6_sum 8 = .ok (.iload_n 1, 1) := by decide +kernel
theorem dX6_sum_9 : decode cX6_sum 9 = .ok (.iload_n 2, 1) := by decide +kernel
theorem dX6_sum_10 : decode cX6_sum 10 = .ok (.if_icmp .ne 36, 3) := by decide +kernel
theorem dX6_sum_13 : decode cX6_sum 13 = .ok (.aload_n 0, 1) := by decide +kernel
theorem dX6_sum_14 : decode cX6_sum 14 = .ok (.aload_n 0, 1) := by decide +kernel
theorem dX6_sum_15 : decode cX6_sum 15 = .ok (.getfield 22, 3) := by decide +kernel
theorem dX6_sum_18 : decode cX6_sum 18 = .ok (.aload_n 0, 1) := by decide +kernel
theorem dX6_sum_19 : decode cX6_sum 19 = .ok (.getfield 34, 3) := by decide +kernel
theorem dX6_sum_22 : decode cX6_sum 22 = .ok (.aload_n 0, 1) := by decide +kernel
theorem dX6_sum_23 : decode cX6_sum 23 = .ok (.getfield 25, 3) := by decide +kernel
theorem dX6_sum_26 : decode cX6_sum 26 = .ok (.aload_n 0, 1) := by decide +kernel
theorem dX6_sum_27 : decode cX6_sum 27 = .ok (.getfield 55, 3) := by decide +kernel
theorem dX6_sum_30 : decode cX6_sum 30 = .ok (.invokestatic 83, 3) := by decide +kernel
theorem dX6_sum_33 : decode cX6_sum 33 = .ok (.putfield 34, 3) := by decide +kernel
theorem dX6_sum_36 : decode cX6_sum 36 = .ok (.iload_n 1, 1) := by decide +kernel
theorem dX6_sum_37 : decode cX6_sum 37 = .ok (.ifCond .ne 7, 3) := by decide +kernel
theorem dX6_sum_40 : decode cX6_sum 40 = .ok (.iload_n 2, 1) := by decide +kernel
theorem dX6_sum_41 : decode cX6_sum 41 = .ok (.goto 4, 3) := by decide +kernel
theorem dX6_sum_44 : decode cX6_sum 44 = .ok (.iload_n 1, 1) := by decide +kernel
theorem dX6_sum_45 : decode cX6_sum 45 = .ok (.ireturn, 1) := by decide +kernel
theorem dX6_sum_46 : decode cX6_sum 46 = .ok (.aload_n 0, 1) := by decide +kernel
theorem dX6_sum_47 : decode cX6_sum 47 = .ok (.getfield 22, 3) := by decide +kernel
theorem dX6_sum_50 : decode cX6_sum 50 = .ok (.aload_n 0, 1) := by decide +kernel
theorem dX6_sum_51 : decode cX6_sum 51 = .ok (.getfield 34, 3) := by decide +kernel
theorem dX6_sum_54 : decode cX6_sum 54 = .ok (.aload_n 0, 1) := by decide +kernel
theorem dX6_sum_55 : decode cX6_sum 55 = .ok (.getfield 25, 3) := by decide +kernel
theorem dX6_sum_58 : decode cX6_sum 58 = .ok (.aload_n 0, 1) := by decide +kernel
theorem dX6_sum_59 : decode cX6_sum 59 = .ok (.getfield 55, 3) := by decide +kernel
theorem dX6_sum_62 : decode cX6_sum 62 = .ok (.invokestatic 58, 3) := by decide +kernel
theorem dX6_sum_65 : decode cX6_sum 65 = .ok (.ifCond .lt 28, 3) := by decide +kernel
theorem dX6_sum_68 : decode cX6_sum 68 = .ok (.aload_n 0, 1) := by decide +kernel
theorem dX6_sum_69 : decode cX6_sum 69 = .ok (.aload_n 0, 1) := by decide +kernel
theorem dX6_sum_70 : decode cX6_sum 70 = .ok (.getfield 22, 3) := by decide +kernel
theorem dX6_sum_73 : decode cX6_sum 73 = .ok (.aload_n 0, 1) := by decide +kernel
theorem dX6_sum_74 : decode cX6_sum 74 = .ok (.getfield 34, 3) := by decide +kernel
theorem dX6_sum_77 : decode cX6_sum 77 = .ok (.aload_n 0, 1) := by decide +kernel
theorem dX6_sum_78 : decode cX6_sum 78 = .ok (.getfield 25, 3) := by decide +kernel
theorem dX6_sum_81 : decode cX6_sum 81 = .ok (.aload_n 0, 1) := by decide +kernel
theorem dX6_sum_82 : decode cX6_sum 82 = .ok (.getfield 55, 3) := by decide +kernel
theorem dX6_sum_85 : decode cX6_sum 85 = .ok (.invokestatic 86, 3) := by decide +kernel
theorem dX6_sum_88 : decode cX6_sum 88 = .ok (.putfield 34, 3) := by decide +kernel
theorem dX6_sum_91 : decode cX6_sum 91 = .ok (.iload_n 1, 1) := by decide +kernel
theorem dX6_sum_92 : decode cX6_sum 92 = .ok (.ireturn, 1) := by decide +kernel
theorem dX6_sum_93 : decode cX6_sum 93 = .ok (.aload_n 0, 1) := by decide +kernel
theorem dX6_sum_94 : decode cX6_sum 94 = .ok (.aload_n 0, 1) := by decide +kernel
theorem dX6_sum_95 : decode cX6_sum 95 = .ok (.getfield 25, 3) := by decide +kernel
theorem dX6_sum_98 : decode cX6_sum 98 = .ok (.aload_n 0, 1) := by decide +kernel
theorem dX6_sum_99 : decode cX6_sum 99 = .ok (.getfield 55, 3) := by decide +kernel
theorem dX6_sum_102 : decode cX6_sum 102 = .ok (.aload_n 0, 1) := by decide +kernel
theorem dX6_sum_103 : decode cX6_sum 103 = .ok (.getfield 22, 3) := by decide +kernel
theorem dX6_sum_106 : decode cX6_sum 106 = .ok (.aload_n 0, 1) := by decide +kernel
theorem dX6_sum_107 : decode cX6_sum 107 = .ok (.getfield 34, 3) := by decide +kernel
theorem dX6_sum_110 : decode cX6_sum 110 = .ok (.invokestatic 86, 3) := by decide +kernel
theorem dX6_sum_113 : decode cX6_sum 113 = .ok (.putfield 55, 3) := by decide +kernel
theorem dX6_sum_116 : decode cX6_sum 116 = .ok (.aload_n 0, 1) := by decide +kernel
theorem dX6_sum_117 : decode cX6_sum 117 = .ok (.aload_n 0, 1) := by decide +kernel
theorem dX6_sum_118 : decode cX6_sum 118 = .ok (.getfield 55, 3) := by decide +kernel
theorem dX6_sum_121 : decode cX6_sum 121 = .ok (.putfield 34, 3) := by decide +kernel
theorem dX6_sum_124 : decode cX6_sum 124 = .ok (.iconst 0, 1) := by decide +kernel
theorem dX6_sum_125 : decode cX6_sum 125 = .ok (.istore_n 3, 1) := by decide +kernel
theorem dX6_sum_126 : decode cX6_sum 126 = .ok (.iload_n 3, 1) := by decide +kernel
theorem dX6_sum_127 : decode cX6_sum 127 = .ok (.aload_n 0, 1) := by decide +kernel
theorem dX6_sum_128 : decode cX6_sum 128 = .ok (.getfield 55, 3) := by decide +kernel
theorem dX6_sum_131 : decode cX6_sum 131 = .ok (.if_icmp .ge 21, 3) := by decide +kernel
theorem dX6_sum_134 : decode cX6_sum 134 = .ok (.aload_n 0, 1) := by decide +kernel
theorem dX6_sum_135 : decode cX6_sum 135 = .ok (.getfield 22, 3) := by decide +kernel
theorem dX6_sum_138 : decode cX6_sum 138 = .ok (.iload_n 3, 1) := by decide +kernel
theorem dX6_sum_139 : decode cX6_sum 139 = .ok (.aload_n 0, 1) := by decide +kernel
theorem dX6_sum_140 : decode cX6_sum 140 = .ok (.getfield 25, 3) := by decide +kernel
theorem dX6_sum_143 : decode cX6_sum 143 = .ok (.iload_n 3, 1) := by decide +kernel
theorem dX6_sum_144 : decode cX6_sum 144 = .ok (.iaload, 1) := by decide +kernel
theorem dX6_sum_145 : decode cX6_sum 145 = .ok (.iastore, 1) := by decide +kernel
theorem dX6_sum_146 : decode cX6_sum 146 = .ok (.iinc 3 1, 3) := by decide +kernel
theorem dX6_sum_149 : decode cX6_sum 149 = .ok (.goto (-23), 3) := by decide +kernel
theorem dX6_sum_152 : decode cX6_sum 152 = .ok (.iload_n 2, 1) := by decide +kernel
theorem dX6_sum_153 : decode cX6_sum 153 = .ok (.ireturn, 1) := by decide +kernel
set_option maxRecDepth 20000 in
theorem ggX6_multiply_X6_shortened : GoodIn wsX6_multiply wsX6_shortened := goodIn_r _ [10] (by decide +kernel) (by decide +kernel)
set_option maxRecDepth 20000 in
theorem gX6_multiply_X6_shortened : GoodIn wsX6_multiply (va_wsS RX6 52 yX6_shortened wsX6_shortened) := goodIn_app (goodIn_of _ (by decide +kernel)) ggX6_multiply_X6_shortened
theorem dX6_multiply_0 : decode cX6_multiply 0 = .ok (.iconst 0, 1) := by decide +kernel
theorem dX6_multiply_1 : decode cX6_multiply 1 = .ok (.istore_n 1, 1) := by decide +kernel
theorem dX6_multiply_2 : decode cX6_multiply 2 = .ok (.iload_n 1, 1) := by decide +kernel
theorem dX6_multiply_3 : decode cX6_multiply 3 = .ok (.aload_n 0, 1) := by decide +kernel
theorem dX6_multiply_4 : decode cX6_multiply 4 = .ok (.getfield 34, 3) := by decide +kernel
theorem dX6_multiply_7 : decode cX6_multiply 7 = .ok (.aload_n 0, 1) := by decide +kernel
theorem dX6_multiply_8 : decode cX6_multiply 8 = .ok (.getfield 55, 3) := by decide +kernel
theorem dX6_multiply_11 : decode cX6_multiply 11 = .ok (.iadd, 1) := by decide +kernel
theorem dX6_multiply_12 : decode cX6_multiply 12 = .ok (.if_icmp .ge 16, 3) := by decide +kernel
theorem dX6_multiply_15 : decode cX6_multiply 15 = .ok (.aload_n 0, 1) := by decide +kernel
theorem dX6_multiply_16 : decode cX6_multiply 16 = .ok (.getfield 28, 3) := by decide +kernel
theorem dX6_multiply_19 : decode cX6_multiply 19 = .ok (.iload_n 1, 1) := by decide +kernel
theorem dX6_multiply_20 : decode cX6_multiply 20 = .ok (.iconst 0, 1) := by decide +kernel
theorem dX6_multiply_21 : decode cX6_multiply 21 = .ok (.iastore, 1) := by decide +kernel
theorem dX6_multiply_22 : decode cX6_multiply 22 = .ok (.iinc 1 1, 3) := by decide +kernel
theorem dX6_multiply_25 : decode cX6_multiply 25 = .ok (.goto (-23), 3) := by decide +kernel
theorem dX6_multiply_28 : decode cX6_multiply 28 = .ok (.iconst 0, 1) := by decide +kernel
theorem dX6_multiply_29 : decode cX6_multiply 29 = .ok (.istore_n 1, 1) := by decide +kernel
theorem dX6_multiply_30 : decode cX6_multiply 30 = .ok (.iload_n 1, 1) := by decide +kernel
theorem dX6_multiply_31 : decode cX6_multiply 31 = .ok (.aload_n 0, 1) := by decide +kernel
theorem dX6_multiply_32 : decode cX6_multiply 32 = .ok (.getfield 34, 3) := by decide +kernel
theorem dX6_multiply_35 : decode cX6_multiply 35 = .ok (.if_icmp .ge 89, 3) := by decide +kernel
theorem dX6_multiply_38 : decode cX6_multiply 38 = .ok (.iconst 0, 1) := by decide +kernel
theorem dX6_multiply_39 : decode cX6_multiply 39 = .ok (.istore_n 2, 1) := by decide +kernel
theorem dX6_multiply_40 : decode cX6_multiply 40 = .ok (.iconst 0, 1) := by decide +kernel
theorem dX6_multiply_41 : decode cX6_multiply 41 = .ok (.istore_n 3, 1) := by decide +kernel
theorem dX6_multiply_42 : decode cX6_multiply 42 = .ok (.iload_n 3, 1) := by decide +kernel
theorem dX6_multiply_43 : decode cX6_multiply 43 = .ok (.aload_n 0, 1) := by decide +kernel
theorem dX6_multiply_44 : decode cX6_multiply 44 = .ok (.getfield 55, 3) := by decide +kernel
theorem dX6_multiply_47 : decode cX6_multiply 47 = .ok (.if_icmp .ge 56, 3) := by decide +kernel
theorem dX6_multiply_50 : decode cX6_multiply 50 = .ok (.aload_n 0, 1) := by decide +kernel
theorem dX6_multiply_51 : decode cX6_multiply 51 = .ok (.getfield 28, 3) := by decide +kernel
theorem dX6_multiply_54 : decode cX6_multiply 54 = .ok (.iload_n 1, 1) := by decide +kernel
theorem dX6_multiply_55 : decode cX6_multiply 55 = .ok (.iload_n 3, 1) := by decide +kernel
theorem dX6_multiply_56 : decode cX6_multiply 56 = .ok (.iadd, 1) := by decide +kernel
theorem dX6_multiply_57 : decode cX6_multiply 57 = .ok (.iaload, 1) := by decide +kernel
theorem dX6_multiply_58 : decode cX6_multiply 58 = .ok (.aload_n 0, 1) := by decide +kernel
theorem dX6_multiply_59 : decode cX6_multiply 59 = .ok (.getfield 22, 3) := by decide +kernel
theorem dX6_multiply_62 : decode cX6_multiply 62 = .ok (.iload_n 1, 1) := by decide +kernel
theorem dX6_multiply_63 : decode cX6_multiply 63 = .ok (.iaload, 1) := by decide +kernel
theorem dX6_multiply_64 : decode cX6_multiply 64 = .ok (.aload_n 0, 1) := by decide +kernel
theorem dX6_multiply_65 : decode cX6_multiply 65 = .ok (.getfield 25, 3) := by decide +kernel
theorem dX6_multiply_68 : decode cX6_multiply 68 = .ok (.iload_n 3, 1) := by decide +kernel
theorem dX6_multiply_69 : decode cX6_multiply 69 = .ok (.iaload, 1) := by decide +kernel
theorem dX6_multiply_70 : decode cX6_multiply 70 = .ok (.imul, 1) := by decide +kernel
theorem dX6_multiply_71 : decode cX6_multiply 71 = .ok (.iadd, 1) := by decide +kernel
theorem dX6_multiply_72 : decode cX6_multiply 72 = .ok (.iload_n 2, 1) := by decide +kernel
theorem dX6_multiply_73 : decode cX6_multiply 73 = .ok (.iadd, 1) := by decide +kernel
theorem dX6_multiply_74 : decode cX6_multiply 74 = .ok (.istore 4, 2) := by decide +kernel
theorem dX6_multiply_76 : decode cX6_multiply 76 = .ok (.aload_n 0, 1) := by decide +kernel
theorem dX6_multiply_77 : decode cX6_multiply 77 = .ok (.getfield 28, 3) := by decide +kernel
theorem dX6_multiply_80 : decode cX6_multiply 80 = .ok (.iload_n 1, 1) := by decide +kernel
theorem dX6_multiply_81 : decode cX6_multiply 81 = .ok (.iload_n 3, 1) := by decide +kernel
theorem dX6_multiply_82 : decode cX6_multiply 82 = .ok (.iadd, 1) := by decide +kernel
theorem dX6_multiply_83 : decode cX6_multiply 83 = .ok (.iload 4, 2) := by decide +kernel
theorem dX6_multiply_85 : decode cX6_multiply 85 = .ok (.sipush 10000, 3) := by decide +kernel
theorem dX6_multiply_88 : decode cX6_multiply 88 = .ok (.irem, 1) := by decide +kernel
theorem dX6_multiply_89 : decode cX6_multiply 89 = .ok (.iastore, 1) := by decide +kernel
theorem dX6_multiply_90 : decode cX6_multiply 90 = .ok (.iload 4, 2) := by decide +kernel
theorem dX6_multiply_92 : decode cX6_multiply 92 = .ok (.sipush 10000, 3) := by decide +kernel
theorem dX6_multiply_95 : decode cX6_multiply 95 = .ok (.idiv, 1) := by decide +kernel
theorem dX6_multiply_96 : decode cX6_multiply 96 = .ok (.istore_n 2, 1) := by decide +kernel
theorem dX6_multiply_97 : decode cX6_multiply 97 = .ok (.iinc 3 1, 3) := by decide +kernel
theorem dX6_multiply_100 : decode cX6_multiply 100 = .ok (.goto (-58), 3) := by decide +kernel
theorem dX6_multiply_103 : decode cX6_multiply 103 = .ok (.aload_n 0, 1) := by decide +kernel
theorem dX6_multiply_104 : decode cX6_multiply 104 = .ok (.getfield 28, 3) := by decide +kernel
theorem dX6_multiply_107 : decode cX6_multiply 107 = .ok (.iload_n 1, 1) := by decide +kernel
theorem dX6_multiply_108 : decode cX6_multiply 108 = .ok (.aload_n 0, 1) := by decide +kernel
theorem dX6_multiply_109 : decode cX6_multiply 109 = .ok (.getfield 55, 3) := by decide +kernel
theorem dX6_multiply_112 : decode cX6_multiply 112 = .ok (.iadd, 1) := by decide +kernel
theorem dX6_multiply_113 : decode cX6_multiply 113 = .ok (.dup2, 1) := by decide +kernel
theorem dX6_multiply_114 : decode cX6_multiply 114 = .ok (.iaload, 1) := by decide +kernel
theorem dX6_multiply_115 : decode cX6_multiply 115 = .ok (.iload_n 2, 1) := by decide +kernel
theorem dX6_multiply_116 : decode cX6_multiply 116 = .ok (.iadd, 1) := by decide +kernel
theorem dX6_multiply_117 : decode cX6_multiply 117 = .ok (.iastore, 1) := by decide +kernel
theorem dX6_multiply_118 : decode cX6_multiply 118 = .ok (.iinc 1 1, 3) := by decide +kernel
theorem dX6_multiply_121 : decode cX6_multiply 121 = .ok (.goto (-91), 3) := by decide +kernel
theorem dX6_multiply_124 : decode cX6_multiply 124 = .ok (.aload_n 0, 1) := by decide +kernel
theorem dX6_multiply_125 : decode cX6_multiply 125 = .ok (.aload_n 0, 1) := by decide +kernel
theorem dX6_multiply_126 : decode cX6_multiply 126 = .ok (.getfield 28, 3) := by decide +kernel
theorem dX6_multiply_129 : decode cX6_multiply 129 = .ok (.aload_n 0, 1) := by decide +kernel
theorem dX6_multiply_130 : decode cX6_multiply 130 = .ok (.getfield 34, 3) := by decide +kernel
theorem dX6_multiply_133 : decode cX6_multiply 133 = .ok (.aload_n 0, 1) := by decide +kernel
theorem dX6_multiply_134 : decode cX6_multiply 134 = .ok (.getfield 55, 3) := by decide +kernel
theorem dX6_multiply_137 : decode cX6_multiply 137 = .ok (.iadd, 1) := by decide +kernel
theorem dX6_multiply_138 : decode cX6_multiply 138 = .ok (.invokestatic 52, 3) := by decide +kernel
theorem dX6_multiply_141 : decode cX6_multiply 141 = .ok (.putfield 89, 3) := by decide +kernel
theorem dX6_multiply_144 : decode cX6_multiply 144 = .ok (.return_, 1) := by decide +kernel
set_option maxRecDepth 20000 in
theorem ggX6_reckon_X6_isRegister : GoodIn wsX6_reckon wsX6_isRegister := goodIn_r _ [10] (by decide +kernel) (by decide +kernel)
set_option maxRecDepth 20000 in
theorem gX6_reckon_X6_isRegister : GoodIn wsX6_reckon (va_wsS RX6 77 yX6_isRegister wsX6_isRegister) := goodIn_app (goodIn_of _ (by decide +kernel)) ggX6_reckon_X6_isRegister
set_option maxRecDepth 20000 in
theorem ggX6_reckon_X6_toX : GoodIn wsX6_reckon wsX6_toX := goodIn_r _ [14, 15, 6, 5, 16, 60, 61, 62, 63, 64, 65, 66, 67, 68, 69, 70, 71, 72, 73] (by decide +kernel) (by decide +kernel)
set_option maxRecDepth 20000 in
theorem gX6_reckon_X6_toX : GoodIn wsX6_reckon (wsV RX6 70 RX6 yX6_toX wsX6_toX) := goodIn_app (goodIn_of _ (by decide +kernel)) ggX6_reckon_X6_toX
set_option maxRecDepth 20000 in
theorem ggX6_reckon_X6_toY : GoodIn wsX6_reckon wsX6_toY := goodIn_r _ [20, 15, 21, 22, 16, 60, 61, 62, 63, 64, 65, 66, 67, 68, 69, 70, 71, 72, 73] (by decide +kernel) (by decide +kernel)
set_option maxRecDepth 20000 in
theorem gX6_reckon_X6_toY : GoodIn wsX6_reckon (wsV RX6 92 RX6 yX6_toY wsX6_toY) := goodIn_app (goodIn_of _ (by decide +kernel)) ggX6_reckon_X6_toY
set_option maxRecDepth 20000 in
theorem ggX6_reckon_X6_multiply : GoodIn wsX6_reckon wsX6_multiply := goodIn_r _ [26, 6, 21, 2, 5, 22, 3, 27, 28, 9, 29, 60, 61, 62, 63, 64, 65, 66, 67, 68, 69, 70, 71, 72, 73] (by decide +kernel) (by decide +kernel)
set_option maxRecDepth 20000 in
theorem gX6_reckon_X6_multiply : GoodIn wsX6_reckon (wsV RX6 95 RX6 yX6_multiply wsX6_multiply) := goodIn_app (goodIn_of _ (by decide +kernel)) ggX6_reckon_X6_multiply
set_option maxRecDepth 20000 in
theorem ggX6_reckon_X6_put : GoodIn wsX6_reckon wsX6_put := goodIn_r _ [33, 15, 4, 16, 34, 35, 36, 9, 37, 38, 39, 40, 41, 42, 43, 44, 45, 46, 6, 5, 11, 12, 13, 14, 47, 48, 49, 27, 28, 29, 60, 61, 62, 63, 64, 65, 66, 67, 68, 69, 70, 71, 72, 73] (by decide +kernel) (by decide +kernel)
set_option maxRecDepth 20000 in
theorem gX6_reckon_X6_put : GoodIn wsX6_reckon (wsV RX6 98 RX6 yX6_put wsX6_put) := goodIn_app (goodIn_of _ (by decide +kernel)) ggX6_reckon_X6_put
set_option maxRecDepth 20000 in
theorem ggX6_reckon_X6_sum : GoodIn wsX6_reckon wsX6_sum := goodIn_r _ [53, 5, 6, 22, 21, 54, 55, 9, 56, 40, 41, 42, 57, 58, 59, 27, 28, 29, 60, 61, 62, 63, 64, 65, 66, 67, 68, 69, 70, 71, 72, 73] (by decide +kernel) (by decide +kernel)
set_option maxRecDepth 20000 in
theorem gX6_reckon_X6_sum : GoodIn wsX6_reckon (wsV RX6 102 RX6 yX6_sum wsX6_sum) := goodIn_app (goodIn_of _ (by decide +kernel)) ggX6_reckon_X6_sum
theorem dX6_reckon_0 : decode cX6_reckon 0 = .ok (.aload_n 0, 1) := by decide +kernel
theorem dX6_reckon_1 : decode cX6_reckon 1 = .ok (.iconst 0, 1) := by decide +kernel
theorem dX6_reckon_2 : decode cX6_reckon 2 = .ok (.putfield 45, 3) := by decide +kernel
theorem dX6_reckon_5 : decode cX6_reckon 5 = .ok (.iload_n 1, 1) := by decide +kernel
theorem dX6_reckon_6 : decode cX6_reckon 6 = .ok (.ifCond .lt 30, 3) := by decide +kernel
theorem dX6_reckon_9 : decode cX6_reckon 9 = .ok (.iload_n 1, 1) := by decide +kernel
theorem dX6_reckon_10 : decode cX6_reckon 10 = .ok (.iconst 2, 1) := by decide +kernel
theorem dX6_reckon_11 : decode cX6_reckon 11 = .ok (.if_icmp .gt 25, 3) := by decide +kernel
theorem dX6_reckon_14 : decode cX6_reckon 14 = .ok (.iload_n 2, 1) := by decide +kernel
theorem dX6_reckon_15 : decode cX6_reckon 15 = .ok (.invokestatic 77, 3) := by decide +kernel
theorem dX6_reckon_18 : decode cX6_reckon 18 = .ok (.ifCond .eq 18, 3) := by decide +kernel
theorem dX6_reckon_21 : decode cX6_reckon 21 = .ok (.iload_n 3, 1) := by decide +kernel
theorem dX6_reckon_22 : decode cX6_reckon 22 = .ok (.invokestatic 77, 3) := by decide +kernel
theorem dX6_reckon_25 : decode cX6_reckon 25 = .ok (.ifCond .eq 11, 3) := by decide +kernel
theorem dX6_reckon_28 : decode cX6_reckon 28 = .ok (.iload 4, 2) := by decide +kernel
theorem dX6_reckon_30 : decode cX6_reckon 30 = .ok (.invokestatic 77, 3) := by decide +kernel
theorem dX6_reckon_33 : decode cX6_reckon 33 = .ok (.ifCond .ne 5, 3) := by decide +kernel
theorem dX6_reckon_36 : decode cX6_reckon 36 = .ok (.iconst (-1), 1) := by decide +kernel
theorem dX6_reckon_37 : decode cX6_reckon 37 = .ok (.ireturn, 1) := by decide +kernel
theorem dX6_reckon_38 : decode cX6_reckon 38 = .ok (.aload_n 0, 1) := by decide +kernel
theorem dX6_reckon_39 : decode cX6_reckon 39 = .ok (.iload_n 3, 1) := by decide +kernel
theorem dX6_reckon_40 : decode cX6_reckon 40 = .ok (.invokevirtual 70, 3) := by decide +kernel
theorem dX6_reckon_43 : decode cX6_reckon 43 = .ok (.aload_n 0, 1) := by decide +kernel
theorem dX6_reckon_44 : decode cX6_reckon 44 = .ok (.iload 4, 2) := by decide +kernel
theorem dX6_reckon_46 : decode cX6_reckon 46 = .ok (.invokevirtual 92, 3) := by decide +kernel
theorem dX6_reckon_49 : decode cX6_reckon 49 = .ok (.iload_n 1, 1) := by decide +kernel
theorem dX6_reckon_50 : decode cX6_reckon 50 = .ok (.iconst 2, 1) := by decide +kernel
theorem dX6_reckon_51 : decode cX6_reckon 51 = .ok (.if_icmp .ne 35, 3) := by decide +kernel
theorem dX6_reckon_54 : decode cX6_reckon 54 = .ok (.aload_n 0, 1) := by decide +kernel
theorem dX6_reckon_55 : decode cX6_reckon 55 = .ok (.invokevirtual 95, 3) := by decide +kernel
theorem dX6_reckon_58 : decode cX6_reckon 58 = .ok (.aload_n 0, 1) := by decide +kernel
theorem dX6_reckon_59 : decode cX6_reckon 59 = .ok (.iload_n 2, 1) := by decide +kernel
theorem dX6_reckon_60 : decode cX6_reckon 60 = .ok (.aload_n 0, 1) := by decide +kernel
theorem dX6_reckon_61 : decode cX6_reckon 61 = .ok (.getfield 28, 3) := by decide +kernel
theorem dX6_reckon_64 : decode cX6_reckon 64 = .ok (.aload_n 0, 1) := by decide +kernel
theorem dX6_reckon_65 : decode cX6_reckon 65 = .ok (.getfield 89, 3) := by decide +kernel
theorem dX6_reckon_68 : decode cX6_reckon 68 = .ok (.aload_n 0, 1) := by decide +kernel
theorem dX6_reckon_69 : decode cX6_reckon 69 = .ok (.getfield 16, 3) := by decide +kernel
theorem dX6_reckon_72 : decode cX6_reckon 72 = .ok (.iload_n 3, 1) := by decide +kernel
theorem dX6_reckon_73 : decode cX6_reckon 73 = .ok (.iaload, 1) := by decide +kernel
theorem dX6_reckon_74 : decode cX6_reckon 74 = .ok (.aload_n 0, 1) := by decide +kernel
theorem dX6_reckon_75 : decode cX6_reckon 75 = .ok (.getfield 16, 3) := by decide +kernel
theorem dX6_reckon_78 : decode cX6_reckon 78 = .ok (.iload 4, 2) := by decide +kernel
theorem dX6_reckon_80 : decode cX6_reckon 80 = .ok (.iaload, 1) := by decide +kernel
theorem dX6_reckon_81 : decode cX6_reckon 81 = .ok (.imul, 1) := by decide +kernel
theorem dX6_reckon_82 : decode cX6_reckon 82 = .ok (.invokevirtual 98, 3) := by decide +kernel
theorem dX6_reckon_85 : decode cX6_reckon 85 = .ok (.ireturn, 1) := by decide +kernel
theorem dX6_reckon_86 : decode cX6_reckon 86 = .ok (.aload_n 0, 1) := by decide +kernel
theorem dX6_reckon_87 : decode cX6_reckon 87 = .ok (.aload_n 0, 1) := by decide +kernel
theorem dX6_reckon_88 : decode cX6_reckon 88 = .ok (.getfield 16, 3) := by decide +kernel
theorem dX6_reckon_91 : decode cX6_reckon 91 = .ok (.iload_n 3, 1) := by decide +kernel
theorem dX6_reckon_92 : decode cX6_reckon 92 = .ok (.iaload, 1) := by decide +kernel
theorem dX6_reckon_93 : decode cX6_reckon 93 = .ok (.iload_n 1, 1) := by decide +kernel
theorem dX6_reckon_94 : decode cX6_reckon 94 = .ok (.ifCond .ne 13, 3) := by decide +kernel
theorem dX6_reckon_97 : decode cX6_reckon 97 = .ok (.aload_n 0, 1) := by decide +kernel
theorem dX6_reckon_98 : decode cX6_reckon 98 = .ok (.getfield 16, 3) := by decide +kernel
theorem dX6_reckon_101 : decode cX6_reckon 101 = .ok (.iload 4, 2) := by decide +kernel
theorem dX6_reckon_103 : decode cX6_reckon 103 = .ok (.iaload, 1) := by decide +kernel
theorem dX6_reckon_104 : decode cX6_reckon 104 = .ok (.goto 11, 3) := by decide +kernel
theorem dX6_reckon_107 : decode cX6_reckon 107 = .ok (.aload_n 0, 1) := by decide +kernel
theorem dX6_reckon_108 : decode cX6_reckon 108 = .ok (.getfield 16, 3) := by decide +kernel
theorem dX6_reckon_111 : decode cX6_reckon 111 = .ok (.iload 4, 2) := by decide +kernel
theorem dX6_reckon_113 : decode cX6_reckon 113 = .ok (.iaload, 1) := by decide +kernel
theorem dX6_reckon_114 : decode cX6_reckon 114 = .ok (.ineg, 1) := by decide +kernel
theorem dX6_reckon_115 : decode cX6_reckon 115 = .ok (.invokevirtual 102, 3) := by decide +kernel
theorem dX6_reckon_118 : decode cX6_reckon 118 = .ok (.istore 5, 2) := by decide +kernel
theorem dX6_reckon_120 : decode cX6_reckon 120 = .ok (.aload_n 0, 1) := by decide +kernel
theorem dX6_reckon_121 : decode cX6_reckon 121 = .ok (.iload_n 2, 1) := by decide +kernel
theorem dX6_reckon_122 : decode cX6_reckon 122 = .ok (.aload_n 0, 1) := by decide +kernel
theorem dX6_reckon_123 : decode cX6_reckon 123 = .ok (.getfield 22, 3) := by decide +kernel
theorem dX6_reckon_126 : decode cX6_reckon 126 = .ok (.aload_n 0, 1) := by decide +kernel
theorem dX6_reckon_127 : decode cX6_reckon 127 = .ok (.getfield 34, 3) := by decide +kernel
theorem dX6_reckon_130 : decode cX6_reckon 130 = .ok (.iload 5, 2) := by decide +kernel
theorem dX6_reckon_132 : decode cX6_reckon 132 = .ok (.invokevirtual 98, 3) := by decide +kernel
theorem dX6_reckon_135 : decode cX6_reckon 135 = .ok (.ireturn, 1) := by decide +kernel
set_option maxRecDepth 20000 in
theorem ggX6_split_X6_compareRows : GoodIn wsX6_split wsX6_compareRows := goodIn_r _ [10] (by decide +kernel) (by decide +kernel)
set_option maxRecDepth 20000 in
theorem gX6_split_X6_compareRows : GoodIn wsX6_split (va_wsS RX6 58 yX6_compareRows wsX6_compareRows) := goodIn_app (goodIn_of _ (by decide +kernel)) ggX6_split_X6_compareRows
set_option maxRecDepth 20000 in
theorem ggX6_split_X6_twice : GoodIn wsX6_split wsX6_twice := goodIn_r _ [13, 14, 15, 9, 16] (by decide +kernel) (by decide +kernel)
set_option maxRecDepth 20000 in
theorem gX6_split_X6_twice : GoodIn wsX6_split (va_wsS RX6 38 yX6_twice wsX6_twice) := goodIn_app (goodIn_of _ (by decide +kernel)) ggX6_split_X6_twice
set_option maxRecDepth 20000 in
theorem ggX6_split_X6_half : GoodIn wsX6_split wsX6_half := goodIn_r _ [19, 20, 21, 9, 22] (by decide +kernel) (by decide +kernel)
set_option maxRecDepth 20000 in
theorem gX6_split_X6_half : GoodIn wsX6_split (va_wsS RX6 74 yX6_half wsX6_half) := goodIn_app (goodIn_of _ (by decide +kernel)) ggX6_split_X6_half
set_option maxRecDepth 20000 in
theorem ggX6_split_X6_taken : GoodIn wsX6_split wsX6_taken := goodIn_r _ [25, 20, 21, 9, 22] (by decide +kernel) (by decide +kernel)
set_option maxRecDepth 20000 in
theorem gX6_split_X6_taken : GoodIn wsX6_split (va_wsS RX6 86 yX6_taken wsX6_taken) := goodIn_app (goodIn_of _ (by decide +kernel)) ggX6_split_X6_taken
set_option maxRecDepth 20000 in
theorem ggX6_split_X6_scaled : GoodIn wsX6_split wsX6_scaled := goodIn_r _ [16] (by decide +kernel) (by decide +kernel)
set_option maxRecDepth 20000 in
theorem gX6_split_X6_scaled : GoodIn wsX6_split (va_wsS RX6 48 yX6_scaled wsX6_scaled) := goodIn_app (goodIn_of _ (by decide +kernel)) ggX6_split_X6_scaled
theorem dX6_split_0 : decode cX6_split 0 = .ok (.iconst 0, 1) := by decide +kernel
theorem dX6_split_1 : decode cX6_split 1 = .ok (.istore_n 1, 1) := by decide +kernel
theorem dX6_split_2 : decode cX6_split 2 = .ok (.aload_n 0, 1) := by decide +kernel
theorem dX6_split_3 : decode cX6_split 3 = .ok (.getfield 25, 3) := by decide +kernel
theorem dX6_split_6 : decode cX6_split 6 = .ok (.aload_n 0, 1) := by decide +kernel
theorem dX6_split_7 : decode cX6_split 7 = .ok (.getfield 55, 3) := by decide +kernel
theorem dX6_split_10 : decode cX6_split 10 = .ok (.aload_n 0, 1) := by decide +kernel
theorem dX6_split_11 : decode cX6_split 11 = .ok (.getfield 22, 3) := by decide +kernel
theorem dX6_split_14 : decode cX6_split 14 = .ok (.aload_n 0, 1) := by decide +kernel
theorem dX6_split_15 : decode cX6_split 15 = .ok (.getfield 34, 3) := by decide +kernel
theorem dX6_split_18 : decode cX6_split 18 = .ok (.invokestatic 58, 3) := by decide +kernel
theorem dX6_split_21 : decode cX6_split 21 = .ok (.ifCond .gt 24, 3) := by decide +kernel
theorem dX6_split_24 : decode cX6_split 24 = .ok (.aload_n 0, 1) := by decide +kernel
theorem dX6_split_25 : decode cX6_split 25 = .ok (.aload_n 0, 1) := by decide +kernel
theorem dX6_split_26 : decode cX6_split 26 = .ok (.getfield 25, 3) := by decide +kernel
theorem dX6_split_29 : decode cX6_split 29 = .ok (.aload_n 0, 1) := by decide +kernel
theorem dX6_split_30 : decode cX6_split 30 = .ok (.getfield 55, 3) := by decide +kernel
theorem dX6_split_33 : decode cX6_split 33 = .ok (.invokestatic 38, 3) := by decide +kernel
theorem dX6_split_36 : decode cX6_split 36 = .ok (.putfield 55, 3) := by decide +kernel
theorem dX6_split_39 : decode cX6_split 39 = .ok (.iinc 1 1, 3) := by decide +kernel
theorem dX6_split_42 : decode cX6_split 42 = .ok (.goto (-40), 3) := by decide +kernel
theorem dX6_split_45 : decode cX6_split 45 = .ok (.aload_n 0, 1) := by decide +kernel
theorem dX6_split_46 : decode cX6_split 46 = .ok (.iconst 0, 1) := by decide +kernel
theorem dX6_split_47 : decode cX6_split 47 = .ok (.putfield 89, 3) := by decide +kernel
theorem dX6_split_50 : decode cX6_split 50 = .ok (.iconst 0, 1) := by decide +kernel
theorem dX6_split_51 : decode cX6_split 51 = .ok (.istore_n 2, 1) := by decide +kernel
theorem dX6_split_52 : decode cX6_split 52 = .ok (.iload_n 2, 1) := by decide +kernel
theorem dX6_split_53 : decode cX6_split 53 = .ok (.iload_n 1, 1) := by decide +kernel
theorem dX6_split_54 : decode cX6_split 54 = .ok (.if_icmp .ge 101, 3) := by decide +kernel
theorem dX6_split_57 : decode cX6_split 57 = .ok (.aload_n 0, 1) := by decide +kernel
theorem dX6_split_58 : decode cX6_split 58 = .ok (.aload_n 0, 1) := by decide +kernel
theorem dX6_split_59 : decode cX6_split 59 = .ok (.getfield 25, 3) := by decide +kernel
theorem dX6_split_62 : decode cX6_split 62 = .ok (.aload_n 0, 1) := by decide +kernel
theorem dX6_split_63 : decode cX6_split 63 = .ok (.getfield 55, 3) := by decide +kernel
theorem dX6_split_66 : decode cX6_split 66 = .ok (.invokestatic 74, 3) := by decide +kernel
theorem dX6_split_69 : decode cX6_split 69 = .ok (.putfield 55, 3) := by decide +kernel
theorem dX6_split_72 : decode cX6_split 72 = .ok (.aload_n 0, 1) := by decide +kernel
theorem dX6_split_73 : decode cX6_split 73 = .ok (.aload_n 0, 1) := by decide +kernel
theorem dX6_split_74 : decode cX6_split 74 = .ok (.getfield 28, 3) := by decide +kernel
theorem dX6_split_77 : decode cX6_split 77 = .ok (.aload_n 0, 1) := by decide +kernel
theorem dX6_split_78 : decode cX6_split 78 = .ok (.getfield 89, 3) := by decide +kernel
theorem dX6_split_81 : decode cX6_split 81 = .ok (.invokestatic 38, 3) := by decide +kernel
theorem dX6_split_84 : decode cX6_split 84 = .ok (.putfield 89, 3) := by decide +kernel
theorem dX6_split_87 : decode cX6_split 87 = .ok (.aload_n 0, 1) := by decide +kernel
theorem dX6_split_88 : decode cX6_split 88 = .ok (.getfield 25, 3) := by decide +kernel
theorem dX6_split_91 : decode cX6_split 91 = .ok (.aload_n 0, 1) := by decide +kernel
theorem dX6_split_92 : decode cX6_split 92 = .ok (.getfield 55, 3) := by decide +kernel
theorem dX6_split_95 : decode cX6_split 95 = .ok (.aload_n 0, 1) := by decide +kernel
theorem dX6_split_96 : decode cX6_split 96 = .ok (.getfield 22, 3) := by decide +kernel
theorem dX6_split_99 : decode cX6_split 99 = .ok (.aload_n 0, 1) := by decide +kernel
theorem dX6_split_100 : decode cX6_split 100 = .ok (.getfield 34, 3) := by decide +kernel
theorem dX6_split_103 : decode cX6_split 103 = .ok (.invokestatic 58, 3) := by decide +kernel
theorem dX6_split_106 : decode cX6_split 106 = .ok (.ifCond .gt 43, 3) := by decide +kernel
theorem dX6_split_109 : decode cX6_split 109 = .ok (.aload_n 0, 1) := by decide +kernel
theorem dX6_split_110 : decode cX6_split 110 = .ok (.aload_n 0, 1) := by decide +kernel
theorem dX6_split_111 : decode cX6_split 111 = .ok (.getfield 22, 3) := by decide +kernel
theorem dX6_split_114 : decode cX6_split 114 = .ok (.aload_n 0, 1) := by decide +kernel
theorem dX6_split_115 : decode cX6_split 115 = .ok (.getfield 34, 3) := by decide +kernel
theorem dX6_split_118 : decode cX6_split 118 = .ok (.aload_n 0, 1) := by decide +kernel
theorem dX6_split_119 : decode cX6_split 119 = .ok (.getfield 25, 3) := by decide +kernel
theorem dX6_split_122 : decode cX6_split 122 = .ok (.aload_n 0, 1) := by decide +kernel
theorem dX6_split_123 : decode cX6_split 123 = .ok (.getfield 55, 3) := by decide +kernel
theorem dX6_split_126 : decode cX6_split 126 = .ok (.invokestatic 86, 3) := by decide +kernel
theorem dX6_split_129 : decode cX6_split 129 = .ok (.putfield 34, 3) := by decide +kernel
theorem dX6_split_132 : decode cX6_split 132 = .ok (.aload_n 0, 1) := by decide +kernel
theorem dX6_split_133 : decode cX6_split 133 = .ok (.aload_n 0, 1) := by decide +kernel
theorem dX6_split_134 : decode cX6_split 134 = .ok (.getfield 28, 3) := by decide +kernel
theorem dX6_split_137 : decode cX6_split 137 = .ok (.aload_n 0, 1) := by decide +kernel
theorem dX6_split_138 : decode cX6_split 138 = .ok (.getfield 89, 3) := by decide +kernel
theorem dX6_split_141 : decode cX6_split 141 = .ok (.iconst 1, 1) := by decide +kernel
theorem dX6_split_142 : decode cX6_split 142 = .ok (.iconst 1, 1) := by decide +kernel
theorem dX6_split_143 : decode cX6_split 143 = .ok (.invokestatic 48, 3) := by decide +kernel
theorem dX6_split_146 : decode cX6_split 146 = .ok (.putfield 89, 3) := by decide +kernel
theorem dX6_split_149 : decode cX6_split 149 = .ok (.iinc 2 1, 3) := by decide +kernel
theorem dX6_split_152 : decode cX6_split 152 = .ok (.goto (-100), 3) := by decide +kernel
theorem dX6_split_155 : decode cX6_split 155 = .ok (.return_, 1) := by decide +kernel
set_option maxRecDepth 20000 in
theorem ggX6_divide_X6_isRegister : GoodIn wsX6_divide wsX6_isRegister := goodIn_r _ [12] (by decide +kernel) (by decide +kernel)
set_option maxRecDepth 20000 in
theorem gX6_divide_X6_isRegister : GoodIn wsX6_divide (va_wsS RX6 77 yX6_isRegister wsX6_isRegister) := goodIn_app (goodIn_of _ (by decide +kernel)) ggX6_divide_X6_isRegister
set_option maxRecDepth 20000 in
theorem ggX6_divide_X6_toX : GoodIn wsX6_divide wsX6_toX := goodIn_r _ [16, 17, 3, 7, 18, 59, 60, 61, 62, 63, 64, 65, 66, 67, 68, 69, 70, 71, 72] (by decide +kernel) (by decide +kernel)
set_option maxRecDepth 20000 in
theorem gX6_divide_X6_toX : GoodIn wsX6_divide (wsV RX6 70 RX6 yX6_toX wsX6_toX) := goodIn_app (goodIn_of _ (by decide +kernel)) ggX6_divide_X6_toX
set_option maxRecDepth 20000 in
theorem ggX6_divide_X6_toY : GoodIn wsX6_divide wsX6_toY := goodIn_r _ [22, 17, 8, 6, 18, 59, 60, 61, 62, 63, 64, 65, 66, 67, 68, 69, 70, 71, 72] (by decide +kernel) (by decide +kernel)
set_option maxRecDepth 20000 in
theorem gX6_divide_X6_toY : GoodIn wsX6_divide (wsV RX6 92 RX6 yX6_toY wsX6_toY) := goodIn_app (goodIn_of _ (by decide +kernel)) ggX6_divide_X6_toY
set_option maxRecDepth 20000 in
theorem ggX6_divide_X6_split : GoodIn wsX6_divide wsX6_split := goodIn_r _ [26, 6, 8, 7, 3, 5, 4, 27, 28, 11, 29, 30, 31, 32, 33, 34, 35, 36, 37, 38, 39, 40, 41, 42, 43, 44, 59, 60, 61, 62, 63, 64, 65, 66, 67, 68, 69, 70, 71, 72] (by decide +kernel) (by decide +kernel)
set_option maxRecDepth 20000 in
theorem gX6_divide_X6_split : GoodIn wsX6_divide (wsV RX6 106 RX6 yX6_split wsX6_split) := goodIn_app (goodIn_of _ (by decide +kernel)) ggX6_divide_X6_split
set_option maxRecDepth 20000 in
theorem ggX6_divide_X6_scaled : GoodIn wsX6_divide wsX6_scaled := goodIn_r _ [35] (by decide +kernel) (by decide +kernel)
set_option maxRecDepth 20000 in
theorem gX6_divide_X6_scaled : GoodIn wsX6_divide (va_wsS RX6 48 yX6_scaled wsX6_scaled) := goodIn_app (goodIn_of _ (by decide +kernel)) ggX6_divide_X6_scaled
set_option maxRecDepth 20000 in
theorem ggX6_divide_X6_taken : GoodIn wsX6_divide wsX6_taken := goodIn_r _ [44, 39, 40, 11, 41] (by decide +kernel) (by decide +kernel)
set_option maxRecDepth 20000 in
theorem gX6_divide_X6_taken : GoodIn wsX6_divide (va_wsS RX6 86 yX6_taken wsX6_taken) := goodIn_app (goodIn_of _ (by decide +kernel)) ggX6_divide_X6_taken
set_option maxRecDepth 20000 in
theorem ggX6_divide_X6_put : GoodIn wsX6_divide wsX6_put := goodIn_r _ [48, 17, 2, 18, 49, 50, 51, 11, 52, 53, 54, 27, 28, 29, 55, 56, 57, 58, 3, 7, 13, 14, 15, 16, 36, 37, 38, 39, 40, 41, 59, 60, 61, 62, 63, 64, 65, 66, 67, 68, 69, 70, 71, 72] (by decide +kernel) (by decide +kernel)
set_option maxRecDepth 20000 in
theorem gX6_divide_X6_put : GoodIn wsX6_divide (wsV RX6 98 RX6 yX6_put wsX6_put) := goodIn_app (goodIn_of _ (by decide +kernel)) ggX6_divide_X6_put
theorem dX6_divide_0 : decode cX6_divide 0 = .ok (.aload_n 0, 1) := by decide +kernel
theorem dX6_divide_1 : decode cX6_divide 1 = .ok (.iconst 0, 1) := by decide +kernel
theorem dX6_divide_2 : decode cX6_divide 2 = .ok (.putfield 45, 3) := by decide +kernel
theorem dX6_divide_5 : decode cX6_divide 5 = .ok (.iload_n 1, 1) := by decide +kernel
theorem dX6_divide_6 : decode cX6_divide 6 = .ok (.invokestatic 77, 3) := by decide +kernel
theorem dX6_divide_9 : decode cX6_divide 9 = .ok (.ifCond .eq 30, 3) := by decide +kernel
end
section
theorem dX6_divide_12 : decode cX6_divide 12 = .ok (.iload_n 2, 1) := by decide +kernel
theorem dX6_divide_13 : decode cX6_divide 13 = .ok (.invokestatic 77, 3) := by decide +kernel
theorem dX6_divide_16 : decode cX6_divide 16 = .ok (.ifCond .eq 23, 3) := by decide +kernel
theorem dX6_divide_19 : decode cX6_divide 19 = .ok (.iload_n 3, 1) := by decide +kernel
theorem dX6_divide_20 : decode cX6_divide 20 = .ok (.invokestatic 77, 3) := by decide +kernel
theorem dX6_divide_23 : decode cX6_divide 23 = .ok (.ifCond .eq 16, 3) := by decide +kernel
theorem dX6_divide_26 : decode cX6_divide 26 = .ok (.iload 4, 2) := by decide +kernel
theorem dX6_divide_28 : decode cX6_divide 28 = .ok (.invokestatic 77, 3) := by decide +kernel
theorem dX6_divide_31 : decode cX6_divide 31 = .ok (.ifCond .eq 8, 3) := by decide +kernel
theorem dX6_divide_34 : decode cX6_divide 34 = .ok (.iload_n 1, 1) := by decide +kernel
theorem dX6_divide_35 : decode cX6_divide 35 = .ok (.iload_n 2, 1) := by decide +kernel
theorem dX6_divide_36 : decode cX6_divide 36 = .ok (.if_icmp .ne 5, 3) := by decide +kernel
theorem dX6_divide_39 : decode cX6_divide 39 = .ok (.iconst (-1), 1) := by decide +kernel
theorem dX6_divide_40 : decode cX6_divide 40 = .ok (.ireturn, 1) := by decide +kernel
theorem dX6_divide_41 : decode cX6_divide 41 = .ok (.aload_n 0, 1) := by decide +kernel
theorem dX6_divide_42 : decode cX6_divide 42 = .ok (.getfield 16, 3) := by decide +kernel
theorem dX6_divide_45 : decode cX6_divide 45 = .ok (.iload 4, 2) := by decide +kernel
theorem dX6_divide_47 : decode cX6_divide 47 = .ok (.iaload, 1) := by decide +kernel
theorem dX6_divide_48 : decode cX6_divide 48 = .ok (.ifCond .ne 10, 3) := by decide +kernel
theorem dX6_divide_51 : decode cX6_divide 51 = .ok (.aload_n 0, 1) := by decide +kernel
theorem dX6_divide_52 : decode cX6_divide 52 = .ok (.iconst 1, 1) := by decide +kernel
theorem dX6_divide_53 : decode cX6_divide 53 = .ok (.putfield 45, 3) := by decide +kernel
theorem dX6_divide_56 : decode cX6_divide 56 = .ok (.iconst 0, 1) := by decide +kernel
theorem dX6_divide_57 : decode cX6_divide 57 = .ok (.ireturn, 1) := by decide +kernel
theorem dX6_divide_58 : decode cX6_divide 58 = .ok (.aload_n 0, 1) := by decide +kernel
theorem dX6_divide_59 : decode cX6_divide 59 = .ok (.getfield 16, 3) := by decide +kernel
theorem dX6_divide_62 : decode cX6_divide 62 = .ok (.iload_n 3, 1) := by decide +kernel
theorem dX6_divide_63 : decode cX6_divide 63 = .ok (.iaload, 1) := by decide +kernel
theorem dX6_divide_64 : decode cX6_divide 64 = .ok (.istore 6, 2) := by decide +kernel
theorem dX6_divide_66 : decode cX6_divide 66 = .ok (.aload_n 0, 1) := by decide +kernel
theorem dX6_divide_67 : decode cX6_divide 67 = .ok (.getfield 16, 3) := by decide +kernel
theorem dX6_divide_70 : decode cX6_divide 70 = .ok (.iload 4, 2) := by decide +kernel
theorem dX6_divide_72 : decode cX6_divide 72 = .ok (.iaload, 1) := by decide +kernel
theorem dX6_divide_73 : decode cX6_divide 73 = .ok (.istore 7, 2) := by decide +kernel
theorem dX6_divide_75 : decode cX6_divide 75 = .ok (.aload_n 0, 1) := by decide +kernel
theorem dX6_divide_76 : decode cX6_divide 76 = .ok (.iload_n 3, 1) := by decide +kernel
theorem dX6_divide_77 : decode cX6_divide 77 = .ok (.invokevirtual 70, 3) := by decide +kernel
theorem dX6_divide_80 : decode cX6_divide 80 = .ok (.aload_n 0, 1) := by decide +kernel
theorem dX6_divide_81 : decode cX6_divide 81 = .ok (.iload 4, 2) := by decide +kernel
theorem dX6_divide_83 : decode cX6_divide 83 = .ok (.invokevirtual 92, 3) := by decide +kernel
theorem dX6_divide_86 : decode cX6_divide 86 = .ok (.aload_n 0, 1) := by decide +kernel
theorem dX6_divide_87 : decode cX6_divide 87 = .ok (.invokevirtual 106, 3) := by decide +kernel
theorem dX6_divide_90 : decode cX6_divide 90 = .ok (.iload 6, 2) := by decide +kernel
theorem dX6_divide_92 : decode cX6_divide 92 = .ok (.istore 8, 2) := by decide +kernel
theorem dX6_divide_94 : decode cX6_divide 94 = .ok (.iload 5, 2) := by decide +kernel
theorem dX6_divide_96 : decode cX6_divide 96 = .ok (.ifCond .eq 107, 3) := by decide +kernel
theorem dX6_divide_99 : decode cX6_divide 99 = .ok (.aload_n 0, 1) := by decide +kernel
theorem dX6_divide_100 : decode cX6_divide 100 = .ok (.getfield 34, 3) := by decide +kernel
theorem dX6_divide_103 : decode cX6_divide 103 = .ok (.ifCond .le 100, 3) := by decide +kernel
theorem dX6_divide_106 : decode cX6_divide 106 = .ok (.iload 6, 2) := by decide +kernel
theorem dX6_divide_108 : decode cX6_divide 108 = .ok (.iload 7, 2) := by decide +kernel
theorem dX6_divide_110 : decode cX6_divide 110 = .ok (.if_icmp .eq 93, 3) := by decide +kernel
theorem dX6_divide_113 : decode cX6_divide 113 = .ok (.aload_n 0, 1) := by decide +kernel
theorem dX6_divide_114 : decode cX6_divide 114 = .ok (.aload_n 0, 1) := by decide +kernel
theorem dX6_divide_115 : decode cX6_divide 115 = .ok (.getfield 28, 3) := by decide +kernel
theorem dX6_divide_118 : decode cX6_divide 118 = .ok (.aload_n 0, 1) := by decide +kernel
theorem dX6_divide_119 : decode cX6_divide 119 = .ok (.getfield 89, 3) := by decide +kernel
theorem dX6_divide_122 : decode cX6_divide 122 = .ok (.iconst 1, 1) := by decide +kernel
theorem dX6_divide_123 : decode cX6_divide 123 = .ok (.iconst 1, 1) := by decide +kernel
theorem dX6_divide_124 : decode cX6_divide 124 = .ok (.invokestatic 48, 3) := by decide +kernel
theorem dX6_divide_127 : decode cX6_divide 127 = .ok (.putfield 89, 3) := by decide +kernel
theorem dX6_divide_130 : decode cX6_divide 130 = .ok (.iconst 0, 1) := by decide +kernel
theorem dX6_divide_131 : decode cX6_divide 131 = .ok (.istore 9, 2) := by decide +kernel
theorem dX6_divide_133 : decode cX6_divide 133 = .ok (.iload 9, 2) := by decide +kernel
theorem dX6_divide_135 : decode cX6_divide 135 = .ok (.aload_n 0, 1) := by decide +kernel
theorem dX6_divide_136 : decode cX6_divide 136 = .ok (.getfield 34, 3) := by decide +kernel
theorem dX6_divide_139 : decode cX6_divide 139 = .ok (.if_icmp .ge 23, 3) := by decide +kernel
theorem dX6_divide_142 : decode cX6_divide 142 = .ok (.aload_n 0, 1) := by decide +kernel
theorem dX6_divide_143 : decode cX6_divide 143 = .ok (.getfield 25, 3) := by decide +kernel
theorem dX6_divide_146 : decode cX6_divide 146 = .ok (.iload 9, 2) := by decide +kernel
theorem dX6_divide_148 : decode cX6_divide 148 = .ok (.aload_n 0, 1) := by decide +kernel
theorem dX6_divide_149 : decode cX6_divide 149 = .ok (.getfield 22, 3) := by decide +kernel
theorem dX6_divide_152 : decode cX6_divide 152 = .ok (.iload 9, 2) := by decide +kernel
theorem dX6_divide_154 : decode cX6_divide 154 = .ok (.iaload, 1) := by decide +kernel
theorem dX6_divide_155 : decode cX6_divide 155 = .ok (.iastore, 1) := by decide +kernel
theorem dX6_divide_156 : decode cX6_divide 156 = .ok (.iinc 9 1, 3) := by decide +kernel
theorem dX6_divide_159 : decode cX6_divide 159 = .ok (.goto (-26), 3) := by decide +kernel
theorem dX6_divide_162 : decode cX6_divide 162 = .ok (.aload_n 0, 1) := by decide +kernel
theorem dX6_divide_163 : decode cX6_divide 163 = .ok (.aload_n 0, 1) := by decide +kernel
theorem dX6_divide_164 : decode cX6_divide 164 = .ok (.getfield 34, 3) := by decide +kernel
theorem dX6_divide_167 : decode cX6_divide 167 = .ok (.putfield 55, 3) := by decide +kernel
theorem dX6_divide_170 : decode cX6_divide 170 = .ok (.aload_n 0, 1) := by decide +kernel
theorem dX6_divide_171 : decode cX6_divide 171 = .ok (.iload 4, 2) := by decide +kernel
theorem dX6_divide_173 : decode cX6_divide 173 = .ok (.invokevirtual 70, 3) := by decide +kernel
theorem dX6_divide_176 : decode cX6_divide 176 = .ok (.aload_n 0, 1) := by decide +kernel
theorem dX6_divide_177 : decode cX6_divide 177 = .ok (.aload_n 0, 1) := by decide +kernel
theorem dX6_divide_178 : decode cX6_divide 178 = .ok (.getfield 22, 3) := by decide +kernel
theorem dX6_divide_181 : decode cX6_divide 181 = .ok (.aload_n 0, 1) := by decide +kernel
theorem dX6_divide_182 : decode cX6_divide 182 = .ok (.getfield 34, 3) := by decide +kernel
theorem dX6_divide_185 : decode cX6_divide 185 = .ok (.aload_n 0, 1) := by decide +kernel
theorem dX6_divide_186 : decode cX6_divide 186 = .ok (.getfield 25, 3) := by decide +kernel
theorem dX6_divide_189 : decode cX6_divide 189 = .ok (.aload_n 0, 1) := by decide +kernel
theorem dX6_divide_190 : decode cX6_divide 190 = .ok (.getfield 55, 3) := by decide +kernel
theorem dX6_divide_193 : decode cX6_divide 193 = .ok (.invokestatic 86, 3) := by decide +kernel
theorem dX6_divide_196 : decode cX6_divide 196 = .ok (.putfield 34, 3) := by decide +kernel
theorem dX6_divide_199 : decode cX6_divide 199 = .ok (.iload 7, 2) := by decide +kernel
theorem dX6_divide_201 : decode cX6_divide 201 = .ok (.istore 8, 2) := by decide +kernel
theorem dX6_divide_203 : decode cX6_divide 203 = .ok (.iconst 0, 1) := by decide +kernel
theorem dX6_divide_204 : decode cX6_divide 204 = .ok (.istore 9, 2) := by decide +kernel
theorem dX6_divide_206 : decode cX6_divide 206 = .ok (.iload 9, 2) := by decide +kernel
theorem dX6_divide_208 : decode cX6_divide 208 = .ok (.aload_n 0, 1) := by decide +kernel
theorem dX6_divide_209 : decode cX6_divide 209 = .ok (.getfield 34, 3) := by decide +kernel
theorem dX6_divide_212 : decode cX6_divide 212 = .ok (.if_icmp .ge 23, 3) := by decide +kernel
theorem dX6_divide_215 : decode cX6_divide 215 = .ok (.aload_n 0, 1) := by decide +kernel
theorem dX6_divide_216 : decode cX6_divide 216 = .ok (.getfield 25, 3) := by decide +kernel
theorem dX6_divide_219 : decode cX6_divide 219 = .ok (.iload 9, 2) := by decide +kernel
theorem dX6_divide_221 : decode cX6_divide 221 = .ok (.aload_n 0, 1) := by decide +kernel
theorem dX6_divide_222 : decode cX6_divide 222 = .ok (.getfield 22, 3) := by decide +kernel
theorem dX6_divide_225 : decode cX6_divide 225 = .ok (.iload 9, 2) := by decide +kernel
theorem dX6_divide_227 : decode cX6_divide 227 = .ok (.iaload, 1) := by decide +kernel
theorem dX6_divide_228 : decode cX6_divide 228 = .ok (.iastore, 1) := by decide +kernel
theorem dX6_divide_229 : decode cX6_divide 229 = .ok (.iinc 9 1, 3) := by decide +kernel
theorem dX6_divide_232 : decode cX6_divide 232 = .ok (.goto (-26), 3) := by decide +kernel
theorem dX6_divide_235 : decode cX6_divide 235 = .ok (.aload_n 0, 1) := by decide +kernel
theorem dX6_divide_236 : decode cX6_divide 236 = .ok (.aload_n 0, 1) := by decide +kernel
theorem dX6_divide_237 : decode cX6_divide 237 = .ok (.getfield 34, 3) := by decide +kernel
theorem dX6_divide_240 : decode cX6_divide 240 = .ok (.putfield 55, 3) := by decide +kernel
theorem dX6_divide_243 : decode cX6_divide 243 = .ok (.aload_n 0, 1) := by decide +kernel
theorem dX6_divide_244 : decode cX6_divide 244 = .ok (.iload_n 2, 1) := by decide +kernel
theorem dX6_divide_245 : decode cX6_divide 245 = .ok (.aload_n 0, 1) := by decide +kernel
theorem dX6_divide_246 : decode cX6_divide 246 = .ok (.getfield 25, 3) := by decide +kernel
theorem dX6_divide_249 : decode cX6_divide 249 = .ok (.aload_n 0, 1) := by decide +kernel
theorem dX6_divide_250 : decode cX6_divide 250 = .ok (.getfield 55, 3) := by decide +kernel
theorem dX6_divide_253 : decode cX6_divide 253 = .ok (.iload 8, 2) := by decide +kernel
theorem dX6_divide_255 : decode cX6_divide 255 = .ok (.invokevirtual 98, 3) := by decide +kernel
theorem dX6_divide_258 : decode cX6_divide 258 = .ok (.istore 9, 2) := by decide +kernel
theorem dX6_divide_260 : decode cX6_divide 260 = .ok (.aload_n 0, 1) := by decide +kernel
theorem dX6_divide_261 : decode cX6_divide 261 = .ok (.iload_n 1, 1) := by decide +kernel
theorem dX6_divide_262 : decode cX6_divide 262 = .ok (.aload_n 0, 1) := by decide +kernel
theorem dX6_divide_263 : decode cX6_divide 263 = .ok (.getfield 28, 3) := by decide +kernel
theorem dX6_divide_266 : decode cX6_divide 266 = .ok (.aload_n 0, 1) := by decide +kernel
theorem dX6_divide_267 : decode cX6_divide 267 = .ok (.getfield 89, 3) := by decide +kernel
theorem dX6_divide_270 : decode cX6_divide 270 = .ok (.iload 6, 2) := by decide +kernel
theorem dX6_divide_272 : decode cX6_divide 272 = .ok (.iload 7, 2) := by decide +kernel
theorem dX6_divide_274 : decode cX6_divide 274 = .ok (.imul, 1) := by decide +kernel
theorem dX6_divide_275 : decode cX6_divide 275 = .ok (.invokevirtual 98, 3) := by decide +kernel
theorem dX6_divide_278 : decode cX6_divide 278 = .ok (.ireturn, 1) := by decide +kernel
set_option maxRecDepth 20000 in
theorem ggX6_gcd_X6_isRegister : GoodIn wsX6_gcd wsX6_isRegister := goodIn_r _ [9] (by decide +kernel) (by decide +kernel)
set_option maxRecDepth 20000 in
theorem gX6_gcd_X6_isRegister : GoodIn wsX6_gcd (va_wsS RX6 77 yX6_isRegister wsX6_isRegister) := goodIn_app (goodIn_of _ (by decide +kernel)) ggX6_gcd_X6_isRegister
set_option maxRecDepth 20000 in
theorem ggX6_gcd_X6_toX : GoodIn wsX6_gcd wsX6_toX := goodIn_r _ [13, 14, 2, 5, 15, 56, 57, 58, 59, 60, 61, 62, 63, 64, 65, 66, 67, 68, 69] (by decide +kernel) (by decide +kernel)
set_option maxRecDepth 20000 in
theorem gX6_gcd_X6_toX : GoodIn wsX6_gcd (wsV RX6 70 RX6 yX6_toX wsX6_toX) := goodIn_app (goodIn_of _ (by decide +kernel)) ggX6_gcd_X6_toX
set_option maxRecDepth 20000 in
theorem ggX6_gcd_X6_toY : GoodIn wsX6_gcd wsX6_toY := goodIn_r _ [19, 14, 3, 4, 15, 56, 57, 58, 59, 60, 61, 62, 63, 64, 65, 66, 67, 68, 69] (by decide +kernel) (by decide +kernel)
set_option maxRecDepth 20000 in
theorem gX6_gcd_X6_toY : GoodIn wsX6_gcd (wsV RX6 92 RX6 yX6_toY wsX6_toY) := goodIn_app (goodIn_of _ (by decide +kernel)) ggX6_gcd_X6_toY
set_option maxRecDepth 20000 in
theorem ggX6_gcd_X6_put : GoodIn wsX6_gcd wsX6_put := goodIn_r _ [23, 14, 24, 15, 25, 26, 27, 8, 28, 29, 30, 31, 32, 33, 34, 35, 36, 37, 2, 5, 10, 11, 12, 13, 38, 39, 40, 41, 42, 43, 56, 57, 58, 59, 60, 61, 62, 63, 64, 65, 66, 67, 68, 69] (by decide +kernel) (by decide +kernel)
set_option maxRecDepth 20000 in
theorem gX6_gcd_X6_put : GoodIn wsX6_gcd (wsV RX6 98 RX6 yX6_put wsX6_put) := goodIn_app (goodIn_of _ (by decide +kernel)) ggX6_gcd_X6_put
set_option maxRecDepth 20000 in
theorem ggX6_gcd_X6_isOdd : GoodIn wsX6_gcd wsX6_isOdd := goodIn_r _ [46] (by decide +kernel) (by decide +kernel)
set_option maxRecDepth 20000 in
theorem gX6_gcd_X6_isOdd : GoodIn wsX6_gcd (va_wsS RX6 109 yX6_isOdd wsX6_isOdd) := goodIn_app (goodIn_of _ (by decide +kernel)) ggX6_gcd_X6_isOdd
set_option maxRecDepth 20000 in
theorem ggX6_gcd_X6_half : GoodIn wsX6_gcd wsX6_half := goodIn_r _ [40, 41, 42, 8, 43] (by decide +kernel) (by decide +kernel)
set_option maxRecDepth 20000 in
theorem gX6_gcd_X6_half : GoodIn wsX6_gcd (va_wsS RX6 74 yX6_half wsX6_half) := goodIn_app (goodIn_of _ (by decide +kernel)) ggX6_gcd_X6_half
set_option maxRecDepth 20000 in
theorem ggX6_gcd_X6_compareRows : GoodIn wsX6_gcd wsX6_compareRows := goodIn_r _ [33] (by decide +kernel) (by decide +kernel)
set_option maxRecDepth 20000 in
theorem gX6_gcd_X6_compareRows : GoodIn wsX6_gcd (va_wsS RX6 58 yX6_compareRows wsX6_compareRows) := goodIn_app (goodIn_of _ (by decide +kernel)) ggX6_gcd_X6_compareRows
set_option maxRecDepth 20000 in
theorem ggX6_gcd_X6_taken : GoodIn wsX6_gcd wsX6_taken := goodIn_r _ [49, 41, 42, 8, 43] (by decide +kernel) (by decide +kernel)
set_option maxRecDepth 20000 in
theorem gX6_gcd_X6_taken : GoodIn wsX6_gcd (va_wsS RX6 86 yX6_taken wsX6_taken) := goodIn_app (goodIn_of _ (by decide +kernel)) ggX6_gcd_X6_taken
set_option maxRecDepth 20000 in
theorem ggX6_gcd_X6_twice : GoodIn wsX6_gcd wsX6_twice := goodIn_r _ [52, 53, 54, 8, 55] (by decide +kernel) (by decide +kernel)
set_option maxRecDepth 20000 in
theorem gX6_gcd_X6_twice : GoodIn wsX6_gcd (va_wsS RX6 38 yX6_twice wsX6_twice) := goodIn_app (goodIn_of _ (by decide +kernel)) ggX6_gcd_X6_twice
theorem dX6_gcd_0 : decode cX6_gcd 0 = .ok (.aload_n 0, 1) := by decide +kernel
theorem dX6_gcd_1 : decode cX6_gcd 1 = .ok (.iconst 0, 1) := by decide +kernel
theorem dX6_gcd_2 : decode cX6_gcd 2 = .ok (.putfield 45, 3) := by decide +kernel
theorem dX6_gcd_5 : decode cX6_gcd 5 = .ok (.iload_n 1, 1) := by decide +kernel
theorem dX6_gcd_6 : decode cX6_gcd 6 = .ok (.invokestatic 77, 3) := by decide +kernel
theorem dX6_gcd_9 : decode cX6_gcd 9 = .ok (.ifCond .eq 17, 3) := by decide +kernel
theorem dX6_gcd_12 : decode cX6_gcd 12 = .ok (.iload_n 2, 1) := by decide +kernel
theorem dX6_gcd_13 : decode cX6_gcd 13 = .ok (.invokestatic 77, 3) := by decide +kernel
theorem dX6_gcd_16 : decode cX6_gcd 16 = .ok (.ifCond .eq 10, 3) := by decide +kernel
theorem dX6_gcd_19 : decode cX6_gcd 19 = .ok (.iload_n 3, 1) := by decide +kernel
theorem dX6_gcd_20 : decode cX6_gcd 20 = .ok (.invokestatic 77, 3) := by decide +kernel
theorem dX6_gcd_23 : decode cX6_gcd 23 = .ok (.ifCond .ne 5, 3) := by decide +kernel
theorem dX6_gcd_26 : decode cX6_gcd 26 = .ok (.iconst (-1), 1) := by decide +kernel
theorem dX6_gcd_27 : decode cX6_gcd 27 = .ok (.ireturn, 1) := by decide +kernel
theorem dX6_gcd_28 : decode cX6_gcd 28 = .ok (.aload_n 0, 1) := by decide +kernel
theorem dX6_gcd_29 : decode cX6_gcd 29 = .ok (.iload_n 2, 1) := by decide +kernel
theorem dX6_gcd_30 : decode cX6_gcd 30 = .ok (.invokevirtual 70, 3) := by decide +kernel
theorem dX6_gcd_33 : decode cX6_gcd 33 = .ok (.aload_n 0, 1) := by decide +kernel
theorem dX6_gcd_34 : decode cX6_gcd 34 = .ok (.iload_n 3, 1) := by decide +kernel
theorem dX6_gcd_35 : decode cX6_gcd 35 = .ok (.invokevirtual 92, 3) := by decide +kernel
theorem dX6_gcd_38 : decode cX6_gcd 38 = .ok (.aload_n 0, 1) := by decide +kernel
theorem dX6_gcd_39 : decode cX6_gcd 39 = .ok (.getfield 34, 3) := by decide +kernel
theorem dX6_gcd_42 : decode cX6_gcd 42 = .ok (.ifCond .eq 10, 3) := by decide +kernel
theorem dX6_gcd_45 : decode cX6_gcd 45 = .ok (.aload_n 0, 1) := by decide +kernel
theorem dX6_gcd_46 : decode cX6_gcd 46 = .ok (.getfield 55, 3) := by decide +kernel
theorem dX6_gcd_49 : decode cX6_gcd 49 = .ok (.ifCond .ne 72, 3) := by decide +kernel
theorem dX6_gcd_52 : decode cX6_gcd 52 = .ok (.aload_n 0, 1) := by decide +kernel
theorem dX6_gcd_53 : decode cX6_gcd 53 = .ok (.getfield 34, 3) := by decide +kernel
theorem dX6_gcd_56 : decode cX6_gcd 56 = .ok (.ifCond .ne 18, 3) := by decide +kernel
theorem dX6_gcd_59 : decode cX6_gcd 59 = .ok (.aload_n 0, 1) := by decide +kernel
theorem dX6_gcd_60 : decode cX6_gcd 60 = .ok (.iload_n 1, 1) := by decide +kernel
theorem dX6_gcd_61 : decode cX6_gcd 61 = .ok (.aload_n 0, 1) := by decide +kernel
theorem dX6_gcd_62 : decode cX6_gcd 62 = .ok (.getfield 25, 3) := by decide +kernel
theorem dX6_gcd_65 : decode cX6_gcd 65 = .ok (.aload_n 0, 1) := by decide +kernel
theorem dX6_gcd_66 : decode cX6_gcd 66 = .ok (.getfield 55, 3) := by decide +kernel
theorem dX6_gcd_69 : decode cX6_gcd 69 = .ok (.iconst 1, 1) := by decide +kernel
theorem dX6_gcd_70 : decode cX6_gcd 70 = .ok (.invokevirtual 98, 3) := by decide +kernel
theorem dX6_gcd_73 : decode cX6_gcd 73 = .ok (.ireturn, 1) := by decide +kernel
theorem dX6_gcd_74 : decode cX6_gcd 74 = .ok (.iconst 0, 1) := by decide +kernel
theorem dX6_gcd_75 : decode cX6_gcd 75 = .ok (.istore 4, 2) := by decide +kernel
theorem dX6_gcd_77 : decode cX6_gcd 77 = .ok (.iload 4, 2) := by decide +kernel
theorem dX6_gcd_79 : decode cX6_gcd 79 = .ok (.aload_n 0, 1) := by decide +kernel
theorem dX6_gcd_80 : decode cX6_gcd 80 = .ok (.getfield 34, 3) := by decide +kernel
theorem dX6_gcd_83 : decode cX6_gcd 83 = .ok (.if_icmp .ge 23, 3) := by decide +kernel
theorem dX6_gcd_86 : decode cX6_gcd 86 = .ok (.aload_n 0, 1) := by decide +kernel
theorem dX6_gcd_87 : decode cX6_gcd 87 = .ok (.getfield 25, 3) := by decide +kernel
theorem dX6_gcd_90 : decode cX6_gcd 90 = .ok (.iload 4, 2) := by decide +kernel
theorem dX6_gcd_92 : decode cX6_gcd 92 = .ok (.aload_n 0, 1) := by decide +kernel
theorem dX6_gcd_93 : decode cX6_gcd 93 = .ok (.getfield 22, 3) := by decide +kernel
theorem dX6_gcd_96 : decode cX6_gcd 96 = .ok (.iload 4, 2) := by decide +kernel
theorem dX6_gcd_98 : decode cX6_gcd 98 = .ok (.iaload, 1) := by decide +kernel
theorem dX6_gcd_99 : decode cX6_gcd 99 = .ok (.iastore, 1) := by decide +kernel
theorem dX6_gcd_100 : decode cX6_gcd 100 = .ok (.iinc 4 1, 3) := by decide +kernel
theorem dX6_gcd_103 : decode cX6_gcd 103 = .ok (.goto (-26), 3) := by decide +kernel
theorem dX6_gcd_106 : decode cX6_gcd 106 = .ok (.aload_n 0, 1) := by decide +kernel
theorem dX6_gcd_107 : decode cX6_gcd 107 = .ok (.iload_n 1, 1) := by decide +kernel
theorem dX6_gcd_108 : decode cX6_gcd 108 = .ok (.aload_n 0, 1) := by decide +kernel
theorem dX6_gcd_109 : decode cX6_gcd 109 = .ok (.getfield 25, 3) := by decide +kernel
theorem dX6_gcd_112 : decode cX6_gcd 112 = .ok (.aload_n 0, 1) := by decide +kernel
theorem dX6_gcd_113 : decode cX6_gcd 113 = .ok (.getfield 34, 3) := by decide +kernel
theorem dX6_gcd_116 : decode cX6_gcd 116 = .ok (.iconst 1, 1) := by decide +kernel
theorem dX6_gcd_117 : decode cX6_gcd 117 = .ok (.invokevirtual 98, 3) := by decide +kernel
theorem dX6_gcd_120 : decode cX6_gcd 120 = .ok (.ireturn, 1) := by decide +kernel
theorem dX6_gcd_121 : decode cX6_gcd 121 = .ok (.iconst 0, 1) := by decide +kernel
theorem dX6_gcd_122 : decode cX6_gcd 122 = .ok (.istore 4, 2) := by decide +kernel
theorem dX6_gcd_124 : decode cX6_gcd 124 = .ok (.aload_n 0, 1) := by decide +kernel
theorem dX6_gcd_125 : decode cX6_gcd 125 = .ok (.getfield 22, 3) := by decide +kernel
theorem dX6_gcd_128 : decode cX6_gcd 128 = .ok (.aload_n 0, 1) := by decide +kernel
theorem dX6_gcd_129 : decode cX6_gcd 129 = .ok (.getfield 34, 3) := by decide +kernel
theorem dX6_gcd_132 : decode cX6_gcd 132 = .ok (.invokestatic 109, 3) := by decide +kernel
theorem dX6_gcd_135 : decode cX6_gcd 135 = .ok (.ifCond .ne 53, 3) := by decide +kernel
theorem dX6_gcd_138 : decode cX6_gcd 138 = .ok (.aload_n 0, 1) := by decide +kernel
theorem dX6_gcd_139 : decode cX6_gcd 139 = .ok (.getfield 25, 3) := by decide +kernel
theorem dX6_gcd_142 : decode cX6_gcd 142 = .ok (.aload_n 0, 1) := by decide +kernel
theorem dX6_gcd_143 : decode cX6_gcd 143 = .ok (.getfield 55, 3) := by decide +kernel
theorem dX6_gcd_146 : decode cX6_gcd 146 = .ok (.invokestatic 109, 3) := by decide +kernel
theorem dX6_gcd_149 : decode cX6_gcd 149 = .ok (.ifCond .ne 39, 3) := by decide +kernel
theorem dX6_gcd_152 : decode cX6_gcd 152 = .ok (.aload_n 0, 1) := by decide +kernel
theorem dX6_gcd_153 : decode cX6_gcd 153 = .ok (.aload_n 0, 1) := by decide +kernel
theorem dX6_gcd_154 : decode cX6_gcd 154 = .ok (.getfield 22, 3) := by decide +kernel
theorem dX6_gcd_157 : decode cX6_gcd 157 = .ok (.aload_n 0, 1) := by decide +kernel
theorem dX6_gcd_158 : decode cX6_gcd 158 = .ok (.getfield 34, 3) := by decide +kernel
theorem dX6_gcd_161 : decode cX6_gcd 161 = .ok (.invokestatic 74, 3) := by decide +kernel
theorem dX6_gcd_164 : decode cX6_gcd 164 = .ok (.putfield 34, 3) := by decide +kernel
theorem dX6_gcd_167 : decode cX6_gcd 167 = .ok (.aload_n 0, 1) := by decide +kernel
theorem dX6_gcd_168 : decode cX6_gcd 168 = .ok (.aload_n 0, 1) := by decide +kernel
theorem dX6_gcd_169 : decode cX6_gcd 169 = .ok (.getfield 25, 3) := by decide +kernel
theorem dX6_gcd_172 : decode cX6_gcd 172 = .ok (.aload_n 0, 1) := by decide +kernel
theorem dX6_gcd_173 : decode cX6_gcd 173 = .ok (.getfield 55, 3) := by decide +kernel
theorem dX6_gcd_176 : decode cX6_gcd 176 = .ok (.invokestatic 74, 3) := by decide +kernel
theorem dX6_gcd_179 : decode cX6_gcd 179 = .ok (.putfield 55, 3) := by decide +kernel
theorem dX6_gcd_182 : decode cX6_gcd 182 = .ok (.iinc 4 1, 3) := by decide +kernel
theorem dX6_gcd_185 : decode cX6_gcd 185 = .ok (.goto (-61), 3) := by decide +kernel
theorem dX6_gcd_188 : decode cX6_gcd 188 = .ok (.aload_n 0, 1) := by decide +kernel
theorem dX6_gcd_189 : decode cX6_gcd 189 = .ok (.getfield 34, 3) := by decide +kernel
theorem dX6_gcd_192 : decode cX6_gcd 192 = .ok (.ifCond .le 141, 3) := by decide +kernel
theorem dX6_gcd_195 : decode cX6_gcd 195 = .ok (.aload_n 0, 1) := by decide +kernel
theorem dX6_gcd_196 : decode cX6_gcd 196 = .ok (.getfield 22, 3) := by decide +kernel
theorem dX6_gcd_199 : decode cX6_gcd 199 = .ok (.aload_n 0, 1) := by decide +kernel
theorem dX6_gcd_200 : decode cX6_gcd 200 = .ok (.getfield 34, 3) := by decide +kernel
theorem dX6_gcd_203 : decode cX6_gcd 203 = .ok (.invokestatic 109, 3) := by decide +kernel
theorem dX6_gcd_206 : decode cX6_gcd 206 = .ok (.ifCond .ne 21, 3) := by decide +kernel
theorem dX6_gcd_209 : decode cX6_gcd 209 = .ok (.aload_n 0, 1) := by decide +kernel
theorem dX6_gcd_210 : decode cX6_gcd 210 = .ok (.aload_n 0, 1) := by decide +kernel
theorem dX6_gcd_211 : decode cX6_gcd 211 = .ok (.getfield 22, 3) := by decide +kernel
theorem dX6_gcd_214 : decode cX6_gcd 214 = .ok (.aload_n 0, 1) := by decide +kernel
theorem dX6_gcd_215 : decode cX6_gcd 215 = .ok (.getfield 34, 3) := by decide +kernel
theorem dX6_gcd_218 : decode cX6_gcd 218 = .ok (.invokestatic 74, 3) := by decide +kernel
theorem dX6_gcd_221 : decode cX6_gcd 221 = .ok (.putfield 34, 3) := by decide +kernel
theorem dX6_gcd_224 : decode cX6_gcd 224 = .ok (.goto (-29), 3) := by decide +kernel
theorem dX6_gcd_227 : decode cX6_gcd 227 = .ok (.aload_n 0, 1) := by decide +kernel
theorem dX6_gcd_228 : decode cX6_gcd 228 = .ok (.getfield 25, 3) := by decide +kernel
theorem dX6_gcd_231 : decode cX6_gcd 231 = .ok (.aload_n 0, 1) := by decide +kernel
theorem dX6_gcd_232 : decode cX6_gcd 232 = .ok (.getfield 55, 3) := by decide +kernel
theorem dX6_gcd_235 : decode cX6_gcd 235 = .ok (.invokestatic 109, 3) := by decide +kernel
theorem dX6_gcd_238 : decode cX6_gcd 238 = .ok (.ifCond .ne 21, 3) := by decide +kernel
theorem dX6_gcd_241 : decode cX6_gcd 241 = .ok (.aload_n 0, 1) := by decide +kernel
theorem dX6_gcd_242 : decode cX6_gcd 242 = .ok (.aload_n 0, 1) := by decide +kernel
theorem dX6_gcd_243 : decode cX6_gcd 243 = .ok (.getfield 25, 3) := by decide +kernel
theorem dX6_gcd_246 : decode cX6_gcd 246 = .ok (.aload_n 0, 1) := by decide +kernel
theorem dX6_gcd_247 : decode cX6_gcd 247 = .ok (.getfield 55, 3) := by decide +kernel
theorem dX6_gcd_250 : decode cX6_gcd 250 = .ok (.invokestatic 74, 3) := by decide +kernel
theorem dX6_gcd_253 : decode cX6_gcd 253 = .ok (.putfield 55, 3) := by decide +kernel
theorem dX6_gcd_256 : decode cX6_gcd 256 = .ok (.goto (-29), 3) := by decide +kernel
theorem dX6_gcd_259 : decode cX6_gcd 259 = .ok (.aload_n 0, 1) := by decide +kernel
theorem dX6_gcd_260 : decode cX6_gcd 260 = .ok (.getfield 22, 3) := by decide +kernel
theorem dX6_gcd_263 : decode cX6_gcd 263 = .ok (.aload_n 0, 1) := by decide +kernel
theorem dX6_gcd_264 : decode cX6_gcd 264 = .ok (.getfield 34, 3) := by decide +kernel
theorem dX6_gcd_267 : decode cX6_gcd 267 = .ok (.aload_n 0, 1) := by decide +kernel
theorem dX6_gcd_268 : decode cX6_gcd 268 = .ok (.getfield 25, 3) := by decide +kernel
theorem dX6_gcd_271 : decode cX6_gcd 271 = .ok (.aload_n 0, 1) := by decide +kernel
theorem dX6_gcd_272 : decode cX6_gcd 272 = .ok (.getfield 55, 3) := by decide +kernel
theorem dX6_gcd_275 : decode cX6_gcd 275 = .ok (.invokestatic 58, 3) := by decide +kernel
theorem dX6_gcd_278 : decode cX6_gcd 278 = .ok (.ifCond .lt 29, 3) := by decide +kernel
theorem dX6_gcd_281 : decode cX6_gcd 281 = .ok (.aload_n 0, 1) := by decide +kernel
theorem dX6_gcd_282 : decode cX6_gcd 282 = .ok (.aload_n 0, 1) := by decide +kernel
theorem dX6_gcd_283 : decode cX6_gcd 283 = .ok (.getfield 22, 3) := by decide +kernel
theorem dX6_gcd_286 : decode cX6_gcd 286 = .ok (.aload_n 0, 1) := by decide +kernel
theorem dX6_gcd_287 : decode cX6_gcd 287 = .ok (.getfield 34, 3) := by decide +kernel
theorem dX6_gcd_290 : decode cX6_gcd 290 = .ok (.aload_n 0, 1) := by decide +kernel
theorem dX6_gcd_291 : decode cX6_gcd 291 = .ok (.getfield 25, 3) := by decide +kernel
theorem dX6_gcd_294 : decode cX6_gcd 294 = .ok (.aload_n 0, 1) := by decide +kernel
theorem dX6_gcd_295 : decode cX6_gcd 295 = .ok (.getfield 55, 3) := by decide +kernel
theorem dX6_gcd_298 : decode cX6_gcd 298 = .ok (.invokestatic 86, 3) := by decide +kernel
theorem dX6_gcd_301 : decode cX6_gcd 301 = .ok (.putfield 34, 3) := by decide +kernel
theorem dX6_gcd_304 : decode cX6_gcd 304 = .ok (.goto (-116), 3) := by decide +kernel
theorem dX6_gcd_307 : decode cX6_gcd 307 = .ok (.aload_n 0, 1) := by decide +kernel
theorem dX6_gcd_308 : decode cX6_gcd 308 = .ok (.aload_n 0, 1) := by decide +kernel
theorem dX6_gcd_309 : decode cX6_gcd 309 = .ok (.getfield 25, 3) := by decide +kernel
theorem dX6_gcd_312 : decode cX6_gcd 312 = .ok (.aload_n 0, 1) := by decide +kernel
theorem dX6_gcd_313 : decode cX6_gcd 313 = .ok (.getfield 55, 3) := by decide +kernel
theorem dX6_gcd_316 : decode cX6_gcd 316 = .ok (.aload_n 0, 1) := by decide +kernel
theorem dX6_gcd_317 : decode cX6_gcd 317 = .ok (.getfield 22, 3) := by decide +kernel
theorem dX6_gcd_320 : decode cX6_gcd 320 = .ok (.aload_n 0, 1) := by decide +kernel
theorem dX6_gcd_321 : decode cX6_gcd 321 = .ok (.getfield 34, 3) := by decide +kernel
theorem dX6_gcd_324 : decode cX6_gcd 324 = .ok (.invokestatic 86, 3) := by decide +kernel
theorem dX6_gcd_327 : decode cX6_gcd 327 = .ok (.putfield 55, 3) := by decide +kernel
theorem dX6_gcd_330 : decode cX6_gcd 330 = .ok (.goto (-142), 3) := by decide +kernel
theorem dX6_gcd_333 : decode cX6_gcd 333 = .ok (.iconst 0, 1) := by decide +kernel
theorem dX6_gcd_334 : decode cX6_gcd 334 = .ok (.istore 5, 2) := by decide +kernel
theorem dX6_gcd_336 : decode cX6_gcd 336 = .ok (.iload 5, 2) := by decide +kernel
theorem dX6_gcd_338 : decode cX6_gcd 338 = .ok (.iload 4, 2) := by decide +kernel
theorem dX6_gcd_340 : decode cX6_gcd 340 = .ok (.if_icmp .ge 24, 3) := by decide +kernel
theorem dX6_gcd_343 : decode cX6_gcd 343 = .ok (.aload_n 0, 1) := by decide +kernel
theorem dX6_gcd_344 : decode cX6_gcd 344 = .ok (.aload_n 0, 1) := by decide +kernel
theorem dX6_gcd_345 : decode cX6_gcd 345 = .ok (.getfield 25, 3) := by decide +kernel
theorem dX6_gcd_348 : decode cX6_gcd 348 = .ok (.aload_n 0, 1) := by decide +kernel
theorem dX6_gcd_349 : decode cX6_gcd 349 = .ok (.getfield 55, 3) := by decide +kernel
theorem dX6_gcd_352 : decode cX6_gcd 352 = .ok (.invokestatic 38, 3) := by decide +kernel
theorem dX6_gcd_355 : decode cX6_gcd 355 = .ok (.putfield 55, 3) := by decide +kernel
theorem dX6_gcd_358 : decode cX6_gcd 358 = .ok (.iinc 5 1, 3) := by decide +kernel
theorem dX6_gcd_361 : decode cX6_gcd 361 = .ok (.goto (-25), 3) := by decide +kernel
theorem dX6_gcd_364 : decode cX6_gcd 364 = .ok (.aload_n 0, 1) := by decide +kernel
theorem dX6_gcd_365 : decode cX6_gcd 365 = .ok (.iload_n 1, 1) := by decide +kernel
theorem dX6_gcd_366 : decode cX6_gcd 366 = .ok (.aload_n 0, 1) := by decide +kernel
theorem dX6_gcd_367 : decode cX6_gcd 367 = .ok (.getfield 25, 3) := by decide +kernel
theorem dX6_gcd_370 : decode cX6_gcd 370 = .ok (.aload_n 0, 1) := by decide +kernel
theorem dX6_gcd_371 : decode cX6_gcd 371 = .ok (.getfield 55, 3) := by decide +kernel
theorem dX6_gcd_374 : decode cX6_gcd 374 = .ok (.iconst 1, 1) := by decide +kernel
theorem dX6_gcd_375 : decode cX6_gcd 375 = .ok (.invokevirtual 98, 3) := by decide +kernel
theorem dX6_gcd_378 : decode cX6_gcd 378 = .ok (.ireturn, 1) := by decide +kernel
set_option maxRecDepth 20000 in
theorem ggX6_root_X6_isRegister : GoodIn wsX6_root wsX6_isRegister := goodIn_r _ [12] (by decide +kernel) (by decide +kernel)
set_option maxRecDepth 20000 in
theorem gX6_root_X6_isRegister : GoodIn wsX6_root (va_wsS RX6 77 yX6_isRegister wsX6_isRegister) := goodIn_app (goodIn_of _ (by decide +kernel)) ggX6_root_X6_isRegister
set_option maxRecDepth 20000 in
theorem ggX6_root_X6_toX : GoodIn wsX6_root wsX6_toX := goodIn_r _ [16, 17, 6, 5, 18, 55, 56, 57, 58, 59, 60, 61, 62, 63, 64, 65, 66, 67, 68] (by decide +kernel) (by decide +kernel)
set_option maxRecDepth 20000 in
theorem gX6_root_X6_toX : GoodIn wsX6_root (wsV RX6 70 RX6 yX6_toX wsX6_toX) := goodIn_app (goodIn_of _ (by decide +kernel)) ggX6_root_X6_toX
set_option maxRecDepth 20000 in
theorem ggX6_root_X6_compareRows : GoodIn wsX6_root wsX6_compareRows := goodIn_r _ [21] (by decide +kernel) (by decide +kernel)
set_option maxRecDepth 20000 in
theorem gX6_root_X6_compareRows : GoodIn wsX6_root (va_wsS RX6 58 yX6_compareRows wsX6_compareRows) := goodIn_app (goodIn_of _ (by decide +kernel)) ggX6_root_X6_compareRows
set_option maxRecDepth 20000 in
theorem ggX6_root_X6_scaled : GoodIn wsX6_root wsX6_scaled := goodIn_r _ [24] (by decide +kernel) (by decide +kernel)
set_option maxRecDepth 20000 in
theorem gX6_root_X6_scaled : GoodIn wsX6_root (va_wsS RX6 48 yX6_scaled wsX6_scaled) := goodIn_app (goodIn_of _ (by decide +kernel)) ggX6_root_X6_scaled
set_option maxRecDepth 20000 in
theorem ggX6_root_X6_isOne : GoodIn wsX6_root wsX6_isOne := goodIn_r _ [28, 4, 3, 55, 56, 57, 58, 59, 60, 61, 62, 63, 64, 65, 66, 67, 68] (by decide +kernel) (by decide +kernel)
set_option maxRecDepth 20000 in
theorem gX6_root_X6_isOne : GoodIn wsX6_root (wsV RX6 112 RX6 yX6_isOne wsX6_isOne) := goodIn_app (goodIn_of _ (by decide +kernel)) ggX6_root_X6_isOne
set_option maxRecDepth 20000 in
theorem ggX6_root_X6_half : GoodIn wsX6_root wsX6_half := goodIn_r _ [31, 32, 33, 11, 34] (by decide +kernel) (by decide +kernel)
set_option maxRecDepth 20000 in
theorem gX6_root_X6_half : GoodIn wsX6_root (va_wsS RX6 74 yX6_half wsX6_half) := goodIn_app (goodIn_of _ (by decide +kernel)) ggX6_root_X6_half
set_option maxRecDepth 20000 in
theorem ggX6_root_X6_added : GoodIn wsX6_root wsX6_added := goodIn_r _ [37] (by decide +kernel) (by decide +kernel)
set_option maxRecDepth 20000 in
theorem gX6_root_X6_added : GoodIn wsX6_root (va_wsS RX6 83 yX6_added wsX6_added) := goodIn_app (goodIn_of _ (by decide +kernel)) ggX6_root_X6_added
set_option maxRecDepth 20000 in
theorem ggX6_root_X6_taken : GoodIn wsX6_root wsX6_taken := goodIn_r _ [40, 32, 33, 11, 34] (by decide +kernel) (by decide +kernel)
set_option maxRecDepth 20000 in
theorem gX6_root_X6_taken : GoodIn wsX6_root (va_wsS RX6 86 yX6_taken wsX6_taken) := goodIn_app (goodIn_of _ (by decide +kernel)) ggX6_root_X6_taken
set_option maxRecDepth 20000 in
theorem ggX6_root_X6_put : GoodIn wsX6_root wsX6_put := goodIn_r _ [44, 17, 2, 18, 45, 46, 47, 11, 48, 49, 50, 19, 20, 21, 51, 52, 53, 54, 6, 5, 13, 14, 15, 16, 29, 30, 31, 32, 33, 34, 55, 56, 57, 58, 59, 60, 61, 62, 63, 64, 65, 66, 67, 68] (by decide +kernel) (by decide +kernel)
set_option maxRecDepth 20000 in
theorem gX6_root_X6_put : GoodIn wsX6_root (wsV RX6 98 RX6 yX6_put wsX6_put) := goodIn_app (goodIn_of _ (by decide +kernel)) ggX6_root_X6_put
theorem dX6_root_0 : decode cX6_root 0 = .ok (.aload_n 0, 1) := by decide +kernel
theorem dX6_root_1 : decode cX6_root 1 = .ok (.iconst 0, 1) := by decide +kernel
theorem dX6_root_2 : decode cX6_root 2 = .ok (.putfield 45, 3) := by decide +kernel
theorem dX6_root_5 : decode cX6_root 5 = .ok (.iload_n 1, 1) := by decide +kernel
theorem dX6_root_6 : decode cX6_root 6 = .ok (.invokestatic 77, 3) := by decide +kernel
theorem dX6_root_9 : decode cX6_root 9 = .ok (.ifCond .eq 10, 3) := by decide +kernel
theorem dX6_root_12 : decode cX6_root 12 = .ok (.iload_n 2, 1) := by decide +kernel
theorem dX6_root_13 : decode cX6_root 13 = .ok (.invokestatic 77, 3) := by decide +kernel
theorem dX6_root_16 : decode cX6_root 16 = .ok (.ifCond .ne 5, 3) := by decide +kernel
theorem dX6_root_19 : decode cX6_root 19 = .ok (.iconst (-1), 1) := by decide +kernel
theorem dX6_root_20 : decode cX6_root 20 = .ok (.ireturn, 1) := by decide +kernel
theorem dX6_root_21 : decode cX6_root 21 = .ok (.aload_n 0, 1) := by decide +kernel
theorem dX6_root_22 : decode cX6_root 22 = .ok (.getfield 16, 3) := by decide +kernel
theorem dX6_root_25 : decode cX6_root 25 = .ok (.iload_n 2, 1) := by decide +kernel
theorem dX6_root_26 : decode cX6_root 26 = .ok (.iaload, 1) := by decide +kernel
theorem dX6_root_27 : decode cX6_root 27 = .ok (.ifCond .ge 10, 3) := by decide +kernel
theorem dX6_root_30 : decode cX6_root 30 = .ok (.aload_n 0, 1) := by decide +kernel
theorem dX6_root_31 : decode cX6_root 31 = .ok (.iconst 1, 1) := by decide +kernel
theorem dX6_root_32 : decode cX6_root 32 = .ok (.putfield 45, 3) := by decide +kernel
theorem dX6_root_35 : decode cX6_root 35 = .ok (.iconst 0, 1) := by decide +kernel
theorem dX6_root_36 : decode cX6_root 36 = .ok (.ireturn, 1) := by decide +kernel
theorem dX6_root_37 : decode cX6_root 37 = .ok (.aload_n 0, 1) := by decide +kernel
theorem dX6_root_38 : decode cX6_root 38 = .ok (.iload_n 2, 1) := by decide +kernel
theorem dX6_root_39 : decode cX6_root 39 = .ok (.invokevirtual 70, 3) := by decide +kernel
theorem dX6_root_42 : decode cX6_root 42 = .ok (.aload_n 0, 1) := by decide +kernel
theorem dX6_root_43 : decode cX6_root 43 = .ok (.getfield 25, 3) := by decide +kernel
theorem dX6_root_46 : decode cX6_root 46 = .ok (.iconst 0, 1) := by decide +kernel
theorem dX6_root_47 : decode cX6_root 47 = .ok (.iconst 1, 1) := by decide +kernel
theorem dX6_root_48 : decode cX6_root 48 = .ok (.iastore, 1) := by decide +kernel
theorem dX6_root_49 : decode cX6_root 49 = .ok (.aload_n 0, 1) := by decide +kernel
theorem dX6_root_50 : decode cX6_root 50 = .ok (.iconst 1, 1) := by decide +kernel
theorem dX6_root_51 : decode cX6_root 51 = .ok (.putfield 55, 3) := by decide +kernel
theorem dX6_root_54 : decode cX6_root 54 = .ok (.aload_n 0, 1) := by decide +kernel
theorem dX6_root_55 : decode cX6_root 55 = .ok (.getfield 25, 3) := by decide +kernel
theorem dX6_root_58 : decode cX6_root 58 = .ok (.aload_n 0, 1) := by decide +kernel
theorem dX6_root_59 : decode cX6_root 59 = .ok (.getfield 55, 3) := by decide +kernel
theorem dX6_root_62 : decode cX6_root 62 = .ok (.aload_n 0, 1) := by decide +kernel
theorem dX6_root_63 : decode cX6_root 63 = .ok (.getfield 22, 3) := by decide +kernel
theorem dX6_root_66 : decode cX6_root 66 = .ok (.aload_n 0, 1) := by decide +kernel
theorem dX6_root_67 : decode cX6_root 67 = .ok (.getfield 34, 3) := by decide +kernel
theorem dX6_root_70 : decode cX6_root 70 = .ok (.invokestatic 58, 3) := by decide +kernel
theorem dX6_root_73 : decode cX6_root 73 = .ok (.ifCond .gt 23, 3) := by decide +kernel
theorem dX6_root_76 : decode cX6_root 76 = .ok (.aload_n 0, 1) := by decide +kernel
theorem dX6_root_77 : decode cX6_root 77 = .ok (.aload_n 0, 1) := by decide +kernel
theorem dX6_root_78 : decode cX6_root 78 = .ok (.getfield 25, 3) := by decide +kernel
theorem dX6_root_81 : decode cX6_root 81 = .ok (.aload_n 0, 1) := by decide +kernel
theorem dX6_root_82 : decode cX6_root 82 = .ok (.getfield 55, 3) := by decide +kernel
theorem dX6_root_85 : decode cX6_root 85 = .ok (.iconst 4, 1) := by decide +kernel
theorem dX6_root_86 : decode cX6_root 86 = .ok (.iconst 0, 1) := by decide +kernel
theorem dX6_root_87 : decode cX6_root 87 = .ok (.invokestatic 48, 3) := by decide +kernel
theorem dX6_root_90 : decode cX6_root 90 = .ok (.putfield 55, 3) := by decide +kernel
theorem dX6_root_93 : decode cX6_root 93 = .ok (.goto (-39), 3) := by decide +kernel
theorem dX6_root_96 : decode cX6_root 96 = .ok (.aload_n 0, 1) := by decide +kernel
theorem dX6_root_97 : decode cX6_root 97 = .ok (.iconst 0, 1) := by decide +kernel
theorem dX6_root_98 : decode cX6_root 98 = .ok (.putfield 89, 3) := by decide +kernel
theorem dX6_root_101 : decode cX6_root 101 = .ok (.aload_n 0, 1) := by decide +kernel
theorem dX6_root_102 : decode cX6_root 102 = .ok (.invokevirtual 112, 3) := by decide +kernel
theorem dX6_root_105 : decode cX6_root 105 = .ok (.ifCond .eq 206, 3) := by decide +kernel
theorem dX6_root_108 : decode cX6_root 108 = .ok (.aload_n 0, 1) := by decide +kernel
theorem dX6_root_109 : decode cX6_root 109 = .ok (.aload_n 0, 1) := by decide +kernel
theorem dX6_root_110 : decode cX6_root 110 = .ok (.getfield 25, 3) := by decide +kernel
theorem dX6_root_113 : decode cX6_root 113 = .ok (.aload_n 0, 1) := by decide +kernel
theorem dX6_root_114 : decode cX6_root 114 = .ok (.getfield 55, 3) := by decide +kernel
theorem dX6_root_117 : decode cX6_root 117 = .ok (.invokestatic 74, 3) := by decide +kernel
theorem dX6_root_120 : decode cX6_root 120 = .ok (.putfield 55, 3) := by decide +kernel
theorem dX6_root_123 : decode cX6_root 123 = .ok (.aload_n 0, 1) := by decide +kernel
theorem dX6_root_124 : decode cX6_root 124 = .ok (.aload_n 0, 1) := by decide +kernel
theorem dX6_root_125 : decode cX6_root 125 = .ok (.getfield 25, 3) := by decide +kernel
theorem dX6_root_128 : decode cX6_root 128 = .ok (.aload_n 0, 1) := by decide +kernel
theorem dX6_root_129 : decode cX6_root 129 = .ok (.getfield 55, 3) := by decide +kernel
theorem dX6_root_132 : decode cX6_root 132 = .ok (.invokestatic 74, 3) := by decide +kernel
theorem dX6_root_135 : decode cX6_root 135 = .ok (.putfield 55, 3) := by decide +kernel
theorem dX6_root_138 : decode cX6_root 138 = .ok (.aload_n 0, 1) := by decide +kernel
theorem dX6_root_139 : decode cX6_root 139 = .ok (.aload_n 0, 1) := by decide +kernel
theorem dX6_root_140 : decode cX6_root 140 = .ok (.getfield 28, 3) := by decide +kernel
theorem dX6_root_143 : decode cX6_root 143 = .ok (.aload_n 0, 1) := by decide +kernel
theorem dX6_root_144 : decode cX6_root 144 = .ok (.getfield 89, 3) := by decide +kernel
theorem dX6_root_147 : decode cX6_root 147 = .ok (.aload_n 0, 1) := by decide +kernel
theorem dX6_root_148 : decode cX6_root 148 = .ok (.getfield 25, 3) := by decide +kernel
theorem dX6_root_151 : decode cX6_root 151 = .ok (.aload_n 0, 1) := by decide +kernel
theorem dX6_root_152 : decode cX6_root 152 = .ok (.getfield 55, 3) := by decide +kernel
theorem dX6_root_155 : decode cX6_root 155 = .ok (.invokestatic 83, 3) := by decide +kernel
theorem dX6_root_158 : decode cX6_root 158 = .ok (.putfield 89, 3) := by decide +kernel
theorem dX6_root_161 : decode cX6_root 161 = .ok (.aload_n 0, 1) := by decide +kernel
theorem dX6_root_162 : decode cX6_root 162 = .ok (.getfield 28, 3) := by decide +kernel
theorem dX6_root_165 : decode cX6_root 165 = .ok (.aload_n 0, 1) := by decide +kernel
theorem dX6_root_166 : decode cX6_root 166 = .ok (.getfield 89, 3) := by decide +kernel
theorem dX6_root_169 : decode cX6_root 169 = .ok (.aload_n 0, 1) := by decide +kernel
theorem dX6_root_170 : decode cX6_root 170 = .ok (.getfield 22, 3) := by decide +kernel
theorem dX6_root_173 : decode cX6_root 173 = .ok (.aload_n 0, 1) := by decide +kernel
theorem dX6_root_174 : decode cX6_root 174 = .ok (.getfield 34, 3) := by decide +kernel
theorem dX6_root_177 : decode cX6_root 177 = .ok (.invokestatic 58, 3) := by decide +kernel
theorem dX6_root_180 : decode cX6_root 180 = .ok (.ifCond .gt 90, 3) := by decide +kernel
theorem dX6_root_183 : decode cX6_root 183 = .ok (.aload_n 0, 1) := by decide +kernel
theorem dX6_root_184 : decode cX6_root 184 = .ok (.aload_n 0, 1) := by decide +kernel
theorem dX6_root_185 : decode cX6_root 185 = .ok (.getfield 22, 3) := by decide +kernel
theorem dX6_root_188 : decode cX6_root 188 = .ok (.aload_n 0, 1) := by decide +kernel
theorem dX6_root_189 : decode cX6_root 189 = .ok (.getfield 34, 3) := by decide +kernel
theorem dX6_root_192 : decode cX6_root 192 = .ok (.aload_n 0, 1) := by decide +kernel
theorem dX6_root_193 : decode cX6_root 193 = .ok (.getfield 28, 3) := by decide +kernel
theorem dX6_root_196 : decode cX6_root 196 = .ok (.aload_n 0, 1) := by decide +kernel
theorem dX6_root_197 : decode cX6_root 197 = .ok (.getfield 89, 3) := by decide +kernel
theorem dX6_root_200 : decode cX6_root 200 = .ok (.invokestatic 86, 3) := by decide +kernel
theorem dX6_root_203 : decode cX6_root 203 = .ok (.putfield 34, 3) := by decide +kernel
theorem dX6_root_206 : decode cX6_root 206 = .ok (.aload_n 0, 1) := by decide +kernel
theorem dX6_root_207 : decode cX6_root 207 = .ok (.aload_n 0, 1) := by decide +kernel
theorem dX6_root_208 : decode cX6_root 208 = .ok (.getfield 28, 3) := by decide +kernel
theorem dX6_root_211 : decode cX6_root 211 = .ok (.aload_n 0, 1) := by decide +kernel
theorem dX6_root_212 : decode cX6_root 212 = .ok (.getfield 89, 3) := by decide +kernel
theorem dX6_root_215 : decode cX6_root 215 = .ok (.aload_n 0, 1) := by decide +kernel
theorem dX6_root_216 : decode cX6_root 216 = .ok (.getfield 25, 3) := by decide +kernel
theorem dX6_root_219 : decode cX6_root 219 = .ok (.aload_n 0, 1) := by decide +kernel
theorem dX6_root_220 : decode cX6_root 220 = .ok (.getfield 55, 3) := by decide +kernel
theorem dX6_root_223 : decode cX6_root 223 = .ok (.invokestatic 86, 3) := by decide +kernel
theorem dX6_root_226 : decode cX6_root 226 = .ok (.putfield 89, 3) := by decide +kernel
theorem dX6_root_229 : decode cX6_root 229 = .ok (.aload_n 0, 1) := by decide +kernel
theorem dX6_root_230 : decode cX6_root 230 = .ok (.aload_n 0, 1) := by decide +kernel
theorem dX6_root_231 : decode cX6_root 231 = .ok (.getfield 28, 3) := by decide +kernel
theorem dX6_root_234 : decode cX6_root 234 = .ok (.aload_n 0, 1) := by decide +kernel
theorem dX6_root_235 : decode cX6_root 235 = .ok (.getfield 89, 3) := by decide +kernel
theorem dX6_root_238 : decode cX6_root 238 = .ok (.invokestatic 74, 3) := by decide +kernel
theorem dX6_root_241 : decode cX6_root 241 = .ok (.putfield 89, 3) := by decide +kernel
theorem dX6_root_244 : decode cX6_root 244 = .ok (.aload_n 0, 1) := by decide +kernel
theorem dX6_root_245 : decode cX6_root 245 = .ok (.aload_n 0, 1) := by decide +kernel
theorem dX6_root_246 : decode cX6_root 246 = .ok (.getfield 28, 3) := by decide +kernel
theorem dX6_root_249 : decode cX6_root 249 = .ok (.aload_n 0, 1) := by decide +kernel
theorem dX6_root_250 : decode cX6_root 250 = .ok (.getfield 89, 3) := by decide +kernel
theorem dX6_root_253 : decode cX6_root 253 = .ok (.aload_n 0, 1) := by decide +kernel
theorem dX6_root_254 : decode cX6_root 254 = .ok (.getfield 25, 3) := by decide +kernel
theorem dX6_root_257 : decode cX6_root 257 = .ok (.aload_n 0, 1) := by decide +kernel
theorem dX6_root_258 : decode cX6_root 258 = .ok (.getfield 55, 3) := by decide +kernel
theorem dX6_root_261 : decode cX6_root 261 = .ok (.invokestatic 83, 3) := by decide +kernel
theorem dX6_root_264 : decode cX6_root 264 = .ok (.putfield 89, 3) := by decide +kernel
theorem dX6_root_267 : decode cX6_root 267 = .ok (.goto (-166), 3) := by decide +kernel
theorem dX6_root_270 : decode cX6_root 270 = .ok (.aload_n 0, 1) := by decide +kernel
theorem dX6_root_271 : decode cX6_root 271 = .ok (.aload_n 0, 1) := by decide +kernel
theorem dX6_root_272 : decode cX6_root 272 = .ok (.getfield 28, 3) := by decide +kernel
theorem dX6_root_275 : decode cX6_root 275 = .ok (.aload_n 0, 1) := by decide +kernel
theorem dX6_root_276 : decode cX6_root 276 = .ok (.getfield 89, 3) := by decide +kernel
theorem dX6_root_279 : decode cX6_root 279 = .ok (.aload_n 0, 1) := by decide +kernel
theorem dX6_root_280 : decode cX6_root 280 = .ok (.getfield 25, 3) := by decide +kernel
theorem dX6_root_283 : decode cX6_root 283 = .ok (.aload_n 0, 1) := by decide +kernel
theorem dX6_root_284 : decode cX6_root 284 = .ok (.getfield 55, 3) := by decide +kernel
theorem dX6_root_287 : decode cX6_root 287 = .ok (.invokestatic 86, 3) := by decide +kernel
theorem dX6_root_290 : decode cX6_root 290 = .ok (.putfield 89, 3) := by decide +kernel
theorem dX6_root_293 : decode cX6_root 293 = .ok (.aload_n 0, 1) := by decide +kernel
theorem dX6_root_294 : decode cX6_root 294 = .ok (.aload_n 0, 1) := by decide +kernel
theorem dX6_root_295 : decode cX6_root 295 = .ok (.getfield 28, 3) := by decide +kernel
theorem dX6_root_298 : decode cX6_root 298 = .ok (.aload_n 0, 1) := by decide +kernel
theorem dX6_root_299 : decode cX6_root 299 = .ok (.getfield 89, 3) := by decide +kernel
theorem dX6_root_302 : decode cX6_root 302 = .ok (.invokestatic 74, 3) := by decide +kernel
theorem dX6_root_305 : decode cX6_root 305 = .ok (.putfield 89, 3) := by decide +kernel
theorem dX6_root_308 : decode cX6_root 308 = .ok (.goto (-207), 3) := by decide +kernel
theorem dX6_root_311 : decode cX6_root 311 = .ok (.aload_n 0, 1) := by decide +kernel
theorem dX6_root_312 : decode cX6_root 312 = .ok (.iload_n 1, 1) := by decide +kernel
theorem dX6_root_313 : decode cX6_root 313 = .ok (.aload_n 0, 1) := by decide +kernel
theorem dX6_root_314 : decode cX6_root 314 = .ok (.getfield 28, 3) := by decide +kernel
theorem dX6_root_317 : decode cX6_root 317 = .ok (.aload_n 0, 1) := by decide +kernel
theorem dX6_root_318 : decode cX6_root 318 = .ok (.getfield 89, 3) := by decide +kernel
theorem dX6_root_321 : decode cX6_root 321 = .ok (.iconst 1, 1) := by decide +kernel
theorem dX6_root_322 : decode cX6_root 322 = .ok (.invokevirtual 98, 3) := by decide +kernel
theorem dX6_root_325 : decode cX6_root 325 = .ok (.ireturn, 1) := by decide +kernel
theorem dX6_isOne_0 : decode cX6_isOne 0 = .ok (.aload_n 0, 1) := by decide +kernel
theorem dX6_isOne_1 : decode cX6_isOne 1 = .ok (.getfield 55, 3) := by decide +kernel
theorem dX6_isOne_4 : decode cX6_isOne 4 = .ok (.iconst 1, 1) := by decide +kernel
theorem dX6_isOne_5 : decode cX6_isOne 5 = .ok (.if_icmp .gt 21, 3) := by decide +kernel
theorem dX6_isOne_8 : decode cX6_isOne 8 = .ok (.aload_n 0, 1) := by decide +kernel
theorem dX6_isOne_9 : decode cX6_isOne 9 = .ok (.getfield 55, 3) := by decide +kernel
theorem dX6_isOne_12 : decode cX6_isOne 12 = .ok (.iconst 1, 1) := by decide +kernel
theorem dX6_isOne_13 : decode cX6_isOne 13 = .ok (.if_icmp .ne 17, 3) := by decide +kernel
theorem dX6_isOne_16 : decode cX6_isOne 16 = .ok (.aload_n 0, 1) := by decide +kernel
theorem dX6_isOne_17 : decode cX6_isOne 17 = .ok (.getfield 25, 3) := by decide +kernel
theorem dX6_isOne_20 : decode cX6_isOne 20 = .ok (.iconst 0, 1) := by decide +kernel
theorem dX6_isOne_21 : decode cX6_isOne 21 = .ok (.iaload, 1) := by decide +kernel
theorem dX6_isOne_22 : decode cX6_isOne 22 = .ok (.iconst 1, 1) := by decide +kernel
theorem dX6_isOne_23 : decode cX6_isOne 23 = .ok (.if_icmp .le 7, 3) := by decide +kernel
theorem dX6_isOne_26 : decode cX6_isOne 26 = .ok (.iconst 1, 1) := by decide +kernel
theorem dX6_isOne_27 : decode cX6_isOne 27 = .ok (.goto 4, 3) := by decide +kernel
theorem dX6_isOne_30 : decode cX6_isOne 30 = .ok (.iconst 0, 1) := by decide +kernel
theorem dX6_isOne_31 : decode cX6_isOne 31 = .ok (.ireturn, 1) := by decide +kernel
set_option maxRecDepth 20000 in
theorem ggX6_shift_X6_isRegister : GoodIn wsX6_shift wsX6_isRegister := goodIn_r _ [9] (by decide +kernel) (by decide +kernel)
set_option maxRecDepth 20000 in
theorem gX6_shift_X6_isRegister : GoodIn wsX6_shift (va_wsS RX6 77 yX6_isRegister wsX6_isRegister) := goodIn_app (goodIn_of _ (by decide +kernel)) ggX6_shift_X6_isRegister
set_option maxRecDepth 20000 in
theorem ggX6_shift_X6_toX : GoodIn wsX6_shift wsX6_toX := goodIn_r _ [13, 14, 3, 2, 15, 45, 46, 47, 48, 49, 50, 51, 52, 53, 54, 55, 56, 57, 58] (by decide +kernel) (by decide +kernel)
set_option maxRecDepth 20000 in
theorem gX6_shift_X6_toX : GoodIn wsX6_shift (wsV RX6 70 RX6 yX6_toX wsX6_toX) := goodIn_app (goodIn_of _ (by decide +kernel)) ggX6_shift_X6_toX
set_option maxRecDepth 20000 in
theorem ggX6_shift_X6_twice : GoodIn wsX6_shift wsX6_twice := goodIn_r _ [18, 19, 20, 8, 21] (by decide +kernel) (by decide +kernel)
set_option maxRecDepth 20000 in
theorem gX6_shift_X6_twice : GoodIn wsX6_shift (va_wsS RX6 38 yX6_twice wsX6_twice) := goodIn_app (goodIn_of _ (by decide +kernel)) ggX6_shift_X6_twice
set_option maxRecDepth 20000 in
theorem ggX6_shift_X6_isWithin : GoodIn wsX6_shift wsX6_isWithin := goodIn_r _ [25, 26, 27, 28, 29, 8, 30, 45, 46, 47, 48, 49, 50, 51, 52, 53, 54, 55, 56, 57, 58] (by decide +kernel) (by decide +kernel)
set_option maxRecDepth 20000 in
theorem gX6_shift_X6_isWithin : GoodIn wsX6_shift (wsV RX6 62 RX6 yX6_isWithin wsX6_isWithin) := goodIn_app (goodIn_of _ (by decide +kernel)) ggX6_shift_X6_isWithin
set_option maxRecDepth 20000 in
theorem ggX6_shift_X6_half : GoodIn wsX6_shift wsX6_half := goodIn_r _ [33, 34, 35, 8, 36] (by decide +kernel) (by decide +kernel)
set_option maxRecDepth 20000 in
theorem gX6_shift_X6_half : GoodIn wsX6_shift (va_wsS RX6 74 yX6_half wsX6_half) := goodIn_app (goodIn_of _ (by decide +kernel)) ggX6_shift_X6_half
set_option maxRecDepth 20000 in
theorem ggX6_shift_X6_put : GoodIn wsX6_shift wsX6_put := goodIn_r _ [40, 14, 5, 15, 22, 23, 24, 8, 25, 26, 27, 28, 29, 30, 41, 42, 43, 44, 3, 2, 10, 11, 12, 13, 31, 32, 33, 34, 35, 36, 45, 46, 47, 48, 49, 50, 51, 52, 53, 54, 55, 56, 57, 58] (by decide +kernel) (by decide +kernel)
set_option maxRecDepth 20000 in
theorem gX6_shift_X6_put : GoodIn wsX6_shift (wsV RX6 98 RX6 yX6_put wsX6_put) := goodIn_app (goodIn_of _ (by decide +kernel)) ggX6_shift_X6_put
theorem dX6_shift_0 : decode cX6_shift 0 = .ok (.aload_n 0, 1) := by decide +kernel
theorem dX6_shift_1 : decode cX6_shift 1 = .ok (.iconst 0, 1) := by decide +kernel
theorem dX6_shift_2 : decode cX6_shift 2 = .ok (.putfield 45, 3) := by decide +kernel
theorem dX6_shift_5 : decode cX6_shift 5 = .ok (.iload_n 1, 1) := by decide +kernel
theorem dX6_shift_6 : decode cX6_shift 6 = .ok (.invokestatic 77, 3) := by decide +kernel
theorem dX6_shift_9 : decode cX6_shift 9 = .ok (.ifCond .eq 24, 3) := by decide +kernel
theorem dX6_shift_12 : decode cX6_shift 12 = .ok (.iload_n 2, 1) := by decide +kernel
theorem dX6_shift_13 : decode cX6_shift 13 = .ok (.invokestatic 77, 3) := by decide +kernel
theorem dX6_shift_16 : decode cX6_shift 16 = .ok (.ifCond .eq 17, 3) := by decide +kernel
theorem dX6_shift_19 : decode cX6_shift 19 = .ok (.iload_n 3, 1) := by decide +kernel
theorem dX6_shift_20 : decode cX6_shift 20 = .ok (.sipush (-4096), 3) := by decide +kernel
theorem dX6_shift_23 : decode cX6_shift 23 = .ok (.if_icmp .lt 10, 3) := by decide +kernel
theorem dX6_shift_26 : decode cX6_shift 26 = .ok (.iload_n 3, 1) := by decide +kernel
theorem dX6_shift_27 : decode cX6_shift 27 = .ok (.sipush 4096, 3) := by decide +kernel
theorem dX6_shift_30 : decode cX6_shift 30 = .ok (.if_icmp .le 5, 3) := by decide +kernel
theorem dX6_shift_33 : decode cX6_shift 33 = .ok (.iconst (-1), 1) := by decide +kernel
theorem dX6_shift_34 : decode cX6_shift 34 = .ok (.ireturn, 1) := by decide +kernel
theorem dX6_shift_35 : decode cX6_shift 35 = .ok (.aload_n 0, 1) := by decide +kernel
theorem dX6_shift_36 : decode cX6_shift 36 = .ok (.iload_n 2, 1) := by decide +kernel
theorem dX6_shift_37 : decode cX6_shift 37 = .ok (.invokevirtual 70, 3) := by decide +kernel
theorem dX6_shift_40 : decode cX6_shift 40 = .ok (.iconst 0, 1) := by decide +kernel
theorem dX6_shift_41 : decode cX6_shift 41 = .ok (.istore 4, 2) := by decide +kernel
theorem dX6_shift_43 : decode cX6_shift 43 = .ok (.iload 4, 2) := by decide +kernel
theorem dX6_shift_45 : decode cX6_shift 45 = .ok (.iload_n 3, 1) := by decide +kernel
theorem dX6_shift_46 : decode cX6_shift 46 = .ok (.if_icmp .ge 41, 3) := by decide +kernel
theorem dX6_shift_49 : decode cX6_shift 49 = .ok (.aload_n 0, 1) := by decide +kernel
theorem dX6_shift_50 : decode cX6_shift 50 = .ok (.aload_n 0, 1) := by decide +kernel
theorem dX6_shift_51 : decode cX6_shift 51 = .ok (.getfield 22, 3) := by decide +kernel
theorem dX6_shift_54 : decode cX6_shift 54 = .ok (.aload_n 0, 1) := by decide +kernel
theorem dX6_shift_55 : decode cX6_shift 55 = .ok (.getfield 34, 3) := by decide +kernel
theorem dX6_shift_58 : decode cX6_shift 58 = .ok (.invokestatic 38, 3) := by decide +kernel
theorem dX6_shift_61 : decode cX6_shift 61 = .ok (.putfield 34, 3) := by decide +kernel
theorem dX6_shift_64 : decode cX6_shift 64 = .ok (.aload_n 0, 1) := by decide +kernel
theorem dX6_shift_65 : decode cX6_shift 65 = .ok (.aload_n 0, 1) := by decide +kernel
theorem dX6_shift_66 : decode cX6_shift 66 = .ok (.getfield 22, 3) := by decide +kernel
theorem dX6_shift_69 : decode cX6_shift 69 = .ok (.aload_n 0, 1) := by decide +kernel
theorem dX6_shift_70 : decode cX6_shift 70 = .ok (.getfield 34, 3) := by decide +kernel
theorem dX6_shift_73 : decode cX6_shift 73 = .ok (.invokevirtual 62, 3) := by decide +kernel
theorem dX6_shift_76 : decode cX6_shift 76 = .ok (.ifCond .ne 5, 3) := by decide +kernel
theorem dX6_shift_79 : decode cX6_shift 79 = .ok (.iconst (-1), 1) := by decide +kernel
theorem dX6_shift_80 : decode cX6_shift 80 = .ok (.ireturn, 1) := by decide +kernel
theorem dX6_shift_81 : decode cX6_shift 81 = .ok (.iinc 4 1, 3) := by decide +kernel
theorem dX6_shift_84 : decode cX6_shift 84 = .ok (.goto (-41), 3) := by decide +kernel
theorem dX6_shift_87 : decode cX6_shift 87 = .ok (.iconst 0, 1) := by decide +kernel
theorem dX6_shift_88 : decode cX6_shift 88 = .ok (.istore 4, 2) := by decide +kernel
theorem dX6_shift_90 : decode cX6_shift 90 = .ok (.iload 4, 2) := by decide +kernel
theorem dX6_shift_92 : decode cX6_shift 92 = .ok (.iload_n 3, 1) := by decide +kernel
theorem dX6_shift_93 : decode cX6_shift 93 = .ok (.ineg, 1) := by decide +kernel
theorem dX6_shift_94 : decode cX6_shift 94 = .ok (.if_icmp .ge 24, 3) := by decide +kernel
theorem dX6_shift_97 : decode cX6_shift 97 = .ok (.aload_n 0, 1) := by decide +kernel
theorem dX6_shift_98 : decode cX6_shift 98 = .ok (.aload_n 0, 1) := by decide +kernel
theorem dX6_shift_99 : decode cX6_shift 99 = .ok (.getfield 22, 3) := by decide +kernel
theorem dX6_shift_102 : decode cX6_shift 102 = .ok (.aload_n 0, 1) := by decide +kernel
theorem dX6_shift_103 : decode cX6_shift 103 = .ok (.getfield 34, 3) := by decide +kernel
theorem dX6_shift_106 : decode cX6_shift 106 = .ok (.invokestatic 74, 3) := by decide +kernel
theorem dX6_shift_109 : decode cX6_shift 109 = .ok (.putfield 34, 3) := by decide +kernel
theorem dX6_shift_112 : decode cX6_shift 112 = .ok (.iinc 4 1, 3) := by decide +kernel
theorem dX6_shift_115 : decode cX6_shift 115 = .ok (.goto (-25), 3) := by decide +kernel
theorem dX6_shift_118 : decode cX6_shift 118 = .ok (.iconst 0, 1) := by decide +kernel
theorem dX6_shift_119 : decode cX6_shift 119 = .ok (.istore 4, 2) := by decide +kernel
theorem dX6_shift_121 : decode cX6_shift 121 = .ok (.iload 4, 2) := by decide +kernel
theorem dX6_shift_123 : decode cX6_shift 123 = .ok (.aload_n 0, 1) := by decide +kernel
theorem dX6_shift_124 : decode cX6_shift 124 = .ok (.getfield 34, 3) := by decide +kernel
theorem dX6_shift_127 : decode cX6_shift 127 = .ok (.if_icmp .ge 23, 3) := by decide +kernel
theorem dX6_shift_130 : decode cX6_shift 130 = .ok (.aload_n 0, 1) := by decide +kernel
theorem dX6_shift_131 : decode cX6_shift 131 = .ok (.getfield 25, 3) := by decide +kernel
theorem dX6_shift_134 : decode cX6_shift 134 = .ok (.iload 4, 2) := by decide +kernel
theorem dX6_shift_136 : decode cX6_shift 136 = .ok (.aload_n 0, 1) := by decide +kernel
theorem dX6_shift_137 : decode cX6_shift 137 = .ok (.getfield 22, 3) := by decide +kernel
theorem dX6_shift_140 : decode cX6_shift 140 = .ok (.iload 4, 2) := by decide +kernel
theorem dX6_shift_142 : decode cX6_shift 142 = .ok (.iaload, 1) := by decide +kernel
theorem dX6_shift_143 : decode cX6_shift 143 = .ok (.iastore, 1) := by decide +kernel
theorem dX6_shift_144 : decode cX6_shift 144 = .ok (.iinc 4 1, 3) := by decide +kernel
theorem dX6_shift_147 : decode cX6_shift 147 = .ok (.goto (-26), 3) := by decide +kernel
theorem dX6_shift_150 : decode cX6_shift 150 = .ok (.aload_n 0, 1) := by decide +kernel
theorem dX6_shift_151 : decode cX6_shift 151 = .ok (.iload_n 1, 1) := by decide +kernel
theorem dX6_shift_152 : decode cX6_shift 152 = .ok (.aload_n 0, 1) := by decide +kernel
theorem dX6_shift_153 : decode cX6_shift 153 = .ok (.getfield 25, 3) := by decide +kernel
theorem dX6_shift_156 : decode cX6_shift 156 = .ok (.aload_n 0, 1) := by decide +kernel
theorem dX6_shift_157 : decode cX6_shift 157 = .ok (.getfield 34, 3) := by decide +kernel
theorem dX6_shift_160 : decode cX6_shift 160 = .ok (.aload_n 0, 1) := by decide +kernel
theorem dX6_shift_161 : decode cX6_shift 161 = .ok (.getfield 16, 3) := by decide +kernel
theorem dX6_shift_164 : decode cX6_shift 164 = .ok (.iload_n 2, 1) := by decide +kernel
theorem dX6_shift_165 : decode cX6_shift 165 = .ok (.iaload, 1) := by decide +kernel
theorem dX6_shift_166 : decode cX6_shift 166 = .ok (.invokevirtual 98, 3) := by decide +kernel
theorem dX6_shift_169 : decode cX6_shift 169 = .ok (.ireturn, 1) := by decide +kernel
set_option maxRecDepth 20000 in
theorem ggX6_power_X6_isRegister : GoodIn wsX6_power wsX6_isRegister := goodIn_r _ [10] (by decide +kernel) (by decide +kernel)
set_option maxRecDepth 20000 in
theorem gX6_power_X6_isRegister : GoodIn wsX6_power (va_wsS RX6 77 yX6_isRegister wsX6_isRegister) := goodIn_app (goodIn_of _ (by decide +kernel)) ggX6_power_X6_isRegister
set_option maxRecDepth 20000 in
theorem ggX6_power_X6_toY : GoodIn wsX6_power wsX6_toY := goodIn_r _ [14, 15, 16, 17, 18, 50, 51, 52, 53, 54, 55, 56, 57, 58, 59, 60, 61, 62, 63] (by decide +kernel) (by decide +kernel)
set_option maxRecDepth 20000 in
theorem gX6_power_X6_toY : GoodIn wsX6_power (wsV RX6 92 RX6 yX6_toY wsX6_toY) := goodIn_app (goodIn_of _ (by decide +kernel)) ggX6_power_X6_toY
set_option maxRecDepth 20000 in
theorem ggX6_power_X6_multiply : GoodIn wsX6_power wsX6_multiply := goodIn_r _ [22, 4, 16, 2, 5, 17, 3, 23, 24, 9, 25, 50, 51, 52, 53, 54, 55, 56, 57, 58, 59, 60, 61, 62, 63] (by decide +kernel) (by decide +kernel)
set_option maxRecDepth 20000 in
theorem gX6_power_X6_multiply : GoodIn wsX6_power (wsV RX6 95 RX6 yX6_multiply wsX6_multiply) := goodIn_app (goodIn_of _ (by decide +kernel)) ggX6_power_X6_multiply
set_option maxRecDepth 20000 in
theorem ggX6_power_X6_isWithin : GoodIn wsX6_power wsX6_isWithin := goodIn_r _ [29, 30, 31, 32, 33, 9, 34, 50, 51, 52, 53, 54, 55, 56, 57, 58, 59, 60, 61, 62, 63] (by decide +kernel) (by decide +kernel)
set_option maxRecDepth 20000 in
theorem gX6_power_X6_isWithin : GoodIn wsX6_power (wsV RX6 62 RX6 yX6_isWithin wsX6_isWithin) := goodIn_app (goodIn_of _ (by decide +kernel)) ggX6_power_X6_isWithin
set_option maxRecDepth 20000 in
theorem ggX6_power_X6_put : GoodIn wsX6_power wsX6_put := goodIn_r _ [38, 15, 6, 18, 26, 27, 28, 9, 29, 30, 31, 32, 33, 34, 39, 40, 41, 42, 4, 5, 43, 44, 45, 46, 47, 48, 49, 23, 24, 25, 50, 51, 52, 53, 54, 55, 56, 57, 58, 59, 60, 61, 62, 63] (by decide +kernel) (by decide +kernel)
set_option maxRecDepth 20000 in
theorem gX6_power_X6_put : GoodIn wsX6_power (wsV RX6 98 RX6 yX6_put wsX6_put) := goodIn_app (goodIn_of _ (by decide +kernel)) ggX6_power_X6_put
theorem dX6_power_0 : decode cX6_power 0 = .ok (.aload_n 0, 1) := by decide +kernel
theorem dX6_power_1 : decode cX6_power 1 = .ok (.iconst 0, 1) := by decide +kernel
theorem dX6_power_2 : decode cX6_power 2 = .ok (.putfield 45, 3) := by decide +kernel
theorem dX6_power_5 : decode cX6_power 5 = .ok (.iload_n 1, 1) := by decide +kernel
theorem dX6_power_6 : decode cX6_power 6 = .ok (.invokestatic 77, 3) := by decide +kernel
theorem dX6_power_9 : decode cX6_power 9 = .ok (.ifCond .eq 21, 3) := by decide +kernel
theorem dX6_power_12 : decode cX6_power 12 = .ok (.iload_n 2, 1) := by decide +kernel
theorem dX6_power_13 : decode cX6_power 13 = .ok (.invokestatic 77, 3) := by decide +kernel
theorem dX6_power_16 : decode cX6_power 16 = .ok (.ifCond .eq 14, 3) := by decide +kernel
theorem dX6_power_19 : decode cX6_power 19 = .ok (.iload_n 3, 1) := by decide +kernel
theorem dX6_power_20 : decode cX6_power 20 = .ok (.ifCond .lt 10, 3) := by decide +kernel
theorem dX6_power_23 : decode cX6_power 23 = .ok (.iload_n 3, 1) := by decide +kernel
theorem dX6_power_24 : decode cX6_power 24 = .ok (.sipush 4096, 3) := by decide +kernel
theorem dX6_power_27 : decode cX6_power 27 = .ok (.if_icmp .le 5, 3) := by decide +kernel
theorem dX6_power_30 : decode cX6_power 30 = .ok (.iconst (-1), 1) := by decide +kernel
theorem dX6_power_31 : decode cX6_power 31 = .ok (.ireturn, 1) := by decide +kernel
theorem dX6_power_32 : decode cX6_power 32 = .ok (.aload_n 0, 1) := by decide +kernel
theorem dX6_power_33 : decode cX6_power 33 = .ok (.iload_n 2, 1) := by decide +kernel
theorem dX6_power_34 : decode cX6_power 34 = .ok (.invokevirtual 92, 3) := by decide +kernel
theorem dX6_power_37 : decode cX6_power 37 = .ok (.aload_n 0, 1) := by decide +kernel
theorem dX6_power_38 : decode cX6_power 38 = .ok (.getfield 28, 3) := by decide +kernel
theorem dX6_power_41 : decode cX6_power 41 = .ok (.iconst 0, 1) := by decide +kernel
theorem dX6_power_42 : decode cX6_power 42 = .ok (.iconst 1, 1) := by decide +kernel
theorem dX6_power_43 : decode cX6_power 43 = .ok (.iastore, 1) := by decide +kernel
theorem dX6_power_44 : decode cX6_power 44 = .ok (.aload_n 0, 1) := by decide +kernel
theorem dX6_power_45 : decode cX6_power 45 = .ok (.iconst 1, 1) := by decide +kernel
theorem dX6_power_46 : decode cX6_power 46 = .ok (.putfield 89, 3) := by decide +kernel
theorem dX6_power_49 : decode cX6_power 49 = .ok (.iconst 1, 1) := by decide +kernel
theorem dX6_power_50 : decode cX6_power 50 = .ok (.istore 4, 2) := by decide +kernel
theorem dX6_power_52 : decode cX6_power 52 = .ok (.iconst 0, 1) := by decide +kernel
theorem dX6_power_53 : decode cX6_power 53 = .ok (.istore 5, 2) := by decide +kernel
theorem dX6_power_55 : decode cX6_power 55 = .ok (.iload 5, 2) := by decide +kernel
theorem dX6_power_57 : decode cX6_power 57 = .ok (.iload_n 3, 1) := by decide +kernel
theorem dX6_power_58 : decode cX6_power 58 = .ok (.if_icmp .ge 81, 3) := by decide +kernel
theorem dX6_power_61 : decode cX6_power 61 = .ok (.aload_n 0, 1) := by decide +kernel
theorem dX6_power_62 : decode cX6_power 62 = .ok (.aload_n 0, 1) := by decide +kernel
theorem dX6_power_63 : decode cX6_power 63 = .ok (.getfield 89, 3) := by decide +kernel
theorem dX6_power_66 : decode cX6_power 66 = .ok (.putfield 34, 3) := by decide +kernel
theorem dX6_power_69 : decode cX6_power 69 = .ok (.iconst 0, 1) := by decide +kernel
theorem dX6_power_70 : decode cX6_power 70 = .ok (.istore 6, 2) := by decide +kernel
theorem dX6_power_72 : decode cX6_power 72 = .ok (.iload 6, 2) := by decide +kernel
theorem dX6_power_74 : decode cX6_power 74 = .ok (.aload_n 0, 1) := by decide +kernel
theorem dX6_power_75 : decode cX6_power 75 = .ok (.getfield 89, 3) := by decide +kernel
theorem dX6_power_78 : decode cX6_power 78 = .ok (.if_icmp .ge 23, 3) := by decide +kernel
theorem dX6_power_81 : decode cX6_power 81 = .ok (.aload_n 0, 1) := by decide +kernel
theorem dX6_power_82 : decode cX6_power 82 = .ok (.getfield 22, 3) := by decide +kernel
theorem dX6_power_85 : decode cX6_power 85 = .ok (.iload 6, 2) := by decide +kernel
theorem dX6_power_87 : decode cX6_power 87 = .ok (.aload_n 0, 1) := by decide +kernel
theorem dX6_power_88 : decode cX6_power 88 = .ok (.getfield 28, 3) := by decide +kernel
theorem dX6_power_91 : decode cX6_power 91 = .ok (.iload 6, 2) := by decide +kernel
theorem dX6_power_93 : decode cX6_power 93 = .ok (.iaload, 1) := by decide +kernel
theorem dX6_power_94 : decode cX6_power 94 = .ok (.iastore, 1) := by decide +kernel
theorem dX6_power_95 : decode cX6_power 95 = .ok (.iinc 6 1, 3) := by decide +kernel
theorem dX6_power_98 : decode cX6_power 98 = .ok (.goto (-26), 3) := by decide +kernel
theorem dX6_power_101 : decode cX6_power 101 = .ok (.aload_n 0, 1) := by decide +kernel
theorem dX6_power_102 : decode cX6_power 102 = .ok (.invokevirtual 95, 3) := by decide +kernel
theorem dX6_power_105 : decode cX6_power 105 = .ok (.iload 4, 2) := by decide +kernel
theorem dX6_power_107 : decode cX6_power 107 = .ok (.aload_n 0, 1) := by decide +kernel
theorem dX6_power_108 : decode cX6_power 108 = .ok (.getfield 16, 3) := by decide +kernel
theorem dX6_power_111 : decode cX6_power 111 = .ok (.iload_n 2, 1) := by decide +kernel
theorem dX6_power_112 : decode cX6_power 112 = .ok (.iaload, 1) := by decide +kernel
theorem dX6_power_113 : decode cX6_power 113 = .ok (.imul, 1) := by decide +kernel
theorem dX6_power_114 : decode cX6_power 114 = .ok (.istore 4, 2) := by decide +kernel
theorem dX6_power_116 : decode cX6_power 116 = .ok (.aload_n 0, 1) := by decide +kernel
theorem dX6_power_117 : decode cX6_power 117 = .ok (.aload_n 0, 1) := by decide +kernel
theorem dX6_power_118 : decode cX6_power 118 = .ok (.getfield 28, 3) := by decide +kernel
theorem dX6_power_121 : decode cX6_power 121 = .ok (.aload_n 0, 1) := by decide +kernel
theorem dX6_power_122 : decode cX6_power 122 = .ok (.getfield 89, 3) := by decide +kernel
theorem dX6_power_125 : decode cX6_power 125 = .ok (.invokevirtual 62, 3) := by decide +kernel
theorem dX6_power_128 : decode cX6_power 128 = .ok (.ifCond .ne 5, 3) := by decide +kernel
theorem dX6_power_131 : decode cX6_power 131 = .ok (.iconst (-1), 1) := by decide +kernel
theorem dX6_power_132 : decode cX6_power 132 = .ok (.ireturn, 1) := by decide +kernel
theorem dX6_power_133 : decode cX6_power 133 = .ok (.iinc 5 1, 3) := by decide +kernel
theorem dX6_power_136 : decode cX6_power 136 = .ok (.goto (-81), 3) := by decide +kernel
theorem dX6_power_139 : decode cX6_power 139 = .ok (.aload_n 0, 1) := by decide +kernel
theorem dX6_power_140 : decode cX6_power 140 = .ok (.iload_n 1, 1) := by decide +kernel
theorem dX6_power_141 : decode cX6_power 141 = .ok (.aload_n 0, 1) := by decide +kernel
theorem dX6_power_142 : decode cX6_power 142 = .ok (.getfield 28, 3) := by decide +kernel
theorem dX6_power_145 : decode cX6_power 145 = .ok (.aload_n 0, 1) := by decide +kernel
theorem dX6_power_146 : decode cX6_power 146 = .ok (.getfield 89, 3) := by decide +kernel
theorem dX6_power_149 : decode cX6_power 149 = .ok (.iload 4, 2) := by decide +kernel
theorem dX6_power_151 : decode cX6_power 151 = .ok (.invokevirtual 98, 3) := by decide +kernel
theorem dX6_power_154 : decode cX6_power 154 = .ok (.ireturn, 1) := by decide +kernel
set_option maxRecDepth 20000 in
theorem ggX6_compare_X6_isRegister : GoodIn wsX6_compare wsX6_isRegister := goodIn_r _ [10] (by decide +kernel) (by decide +kernel)
set_option maxRecDepth 20000 in
theorem gX6_compare_X6_isRegister : GoodIn wsX6_compare (va_wsS RX6 77 yX6_isRegister wsX6_isRegister) := goodIn_app (goodIn_of _ (by decide +kernel)) ggX6_compare_X6_isRegister
set_option maxRecDepth 20000 in
theorem ggX6_compare_X6_toX : GoodIn wsX6_compare wsX6_toX := goodIn_r _ [14, 15, 4, 3, 16, 24, 25, 26, 27, 28, 29, 30, 31, 32, 33, 34, 35, 36, 37] (by decide +kernel) (by decide +kernel)
set_option maxRecDepth 20000 in
theorem gX6_compare_X6_toX : GoodIn wsX6_compare (wsV RX6 70 RX6 yX6_toX wsX6_toX) := goodIn_app (goodIn_of _ (by decide +kernel)) ggX6_compare_X6_toX
set_option maxRecDepth 20000 in
theorem ggX6_compare_X6_toY : GoodIn wsX6_compare wsX6_toY := goodIn_r _ [20, 15, 6, 5, 16, 24, 25, 26, 27, 28, 29, 30, 31, 32, 33, 34, 35, 36, 37] (by decide +kernel) (by decide +kernel)
set_option maxRecDepth 20000 in
theorem gX6_compare_X6_toY : GoodIn wsX6_compare (wsV RX6 92 RX6 yX6_toY wsX6_toY) := goodIn_app (goodIn_of _ (by decide +kernel)) ggX6_compare_X6_toY
set_option maxRecDepth 20000 in
theorem ggX6_compare_X6_compareRows : GoodIn wsX6_compare wsX6_compareRows := goodIn_r _ [23] (by decide +kernel) (by decide +kernel)
set_option maxRecDepth 20000 in
theorem gX6_compare_X6_compareRows : GoodIn wsX6_compare (va_wsS RX6 58 yX6_compareRows wsX6_compareRows) := goodIn_app (goodIn_of _ (by decide +kernel)) ggX6_compare_X6_compareRows
theorem dX6_compare_0 : decode cX6_compare 0 = .ok (.aload_n 0, 1) := by decide +kernel
theorem dX6_compare_1 : decode cX6_compare 1 = .ok (.iconst 0, 1) := by decide +kernel
theorem dX6_compare_2 : decode cX6_compare 2 = .ok (.putfield 45, 3) := by decide +kernel
theorem dX6_compare_5 : decode cX6_compare 5 = .ok (.iload_n 1, 1) := by decide +kernel
theorem dX6_compare_6 : decode cX6_compare 6 = .ok (.invokestatic 77, 3) := by decide +kernel
theorem dX6_compare_9 : decode cX6_compare 9 = .ok (.ifCond .eq 10, 3) := by decide +kernel
theorem dX6_compare_12 : decode cX6_compare 12 = .ok (.iload_n 2, 1) := by decide +kernel
theorem dX6_compare_13 : decode cX6_compare 13 = .ok (.invokestatic 77, 3) := by decide +kernel
theorem dX6_compare_16 : decode cX6_compare 16 = .ok (.ifCond .ne 5, 3) := by decide +kernel
theorem dX6_compare_19 : decode cX6_compare 19 = .ok (.iconst 2, 1) := by decide +kernel
theorem dX6_compare_20 : decode cX6_compare 20 = .ok (.ireturn, 1) := by decide +kernel
theorem dX6_compare_21 : decode cX6_compare 21 = .ok (.aload_n 0, 1) := by decide +kernel
theorem dX6_compare_22 : decode cX6_compare 22 = .ok (.getfield 16, 3) := by decide +kernel
theorem dX6_compare_25 : decode cX6_compare 25 = .ok (.iload_n 1, 1) := by decide +kernel
theorem dX6_compare_26 : decode cX6_compare 26 = .ok (.iaload, 1) := by decide +kernel
theorem dX6_compare_27 : decode cX6_compare 27 = .ok (.aload_n 0, 1) := by decide +kernel
theorem dX6_compare_28 : decode cX6_compare 28 = .ok (.getfield 16, 3) := by decide +kernel
theorem dX6_compare_31 : decode cX6_compare 31 = .ok (.iload_n 2, 1) := by decide +kernel
theorem dX6_compare_32 : decode cX6_compare 32 = .ok (.iaload, 1) := by decide +kernel
theorem dX6_compare_33 : decode cX6_compare 33 = .ok (.if_icmp .eq 24, 3) := by decide +kernel
theorem dX6_compare_36 : decode cX6_compare 36 = .ok (.aload_n 0, 1) := by decide +kernel
theorem dX6_compare_37 : decode cX6_compare 37 = .ok (.getfield 16, 3) := by decide +kernel
theorem dX6_compare_40 : decode cX6_compare 40 = .ok (.iload_n 1, 1) := by decide +kernel
theorem dX6_compare_41 : decode cX6_compare 41 = .ok (.iaload, 1) := by decide +kernel
theorem dX6_compare_42 : decode cX6_compare 42 = .ok (.aload_n 0, 1) := by decide +kernel
theorem dX6_compare_43 : decode cX6_compare 43 = .ok (.getfield 16, 3) := by decide +kernel
theorem dX6_compare_46 : decode cX6_compare 46 = .ok (.iload_n 2, 1) := by decide +kernel
theorem dX6_compare_47 : decode cX6_compare 47 = .ok (.iaload, 1) := by decide +kernel
theorem dX6_compare_48 : decode cX6_compare 48 = .ok (.if_icmp .ge 7, 3) := by decide +kernel
theorem dX6_compare_51 : decode cX6_compare 51 = .ok (.iconst (-1), 1) := by decide +kernel
theorem dX6_compare_52 : decode cX6_compare 52 = .ok (.goto 4, 3) := by decide +kernel
theorem dX6_compare_55 : decode cX6_compare 55 = .ok (.iconst 1, 1) := by decide +kernel
theorem dX6_compare_56 : decode cX6_compare 56 = .ok (.ireturn, 1) := by decide +kernel
theorem dX6_compare_57 : decode cX6_compare 57 = .ok (.aload_n 0, 1) := by decide +kernel
theorem dX6_compare_58 : decode cX6_compare 58 = .ok (.iload_n 1, 1) := by decide +kernel
theorem dX6_compare_59 : decode cX6_compare 59 = .ok (.invokevirtual 70, 3) := by decide +kernel
theorem dX6_compare_62 : decode cX6_compare 62 = .ok (.aload_n 0, 1) := by decide +kernel
theorem dX6_compare_63 : decode cX6_compare 63 = .ok (.iload_n 2, 1) := by decide +kernel
theorem dX6_compare_64 : decode cX6_compare 64 = .ok (.invokevirtual 92, 3) := by decide +kernel
theorem dX6_compare_67 : decode cX6_compare 67 = .ok (.aload_n 0, 1) := by decide +kernel
theorem dX6_compare_68 : decode cX6_compare 68 = .ok (.getfield 22, 3) := by decide +kernel
theorem dX6_compare_71 : decode cX6_compare 71 = .ok (.aload_n 0, 1) := by decide +kernel
theorem dX6_compare_72 : decode cX6_compare 72 = .ok (.getfield 34, 3) := by decide +kernel
theorem dX6_compare_75 : decode cX6_compare 75 = .ok (.aload_n 0, 1) := by decide +kernel
theorem dX6_compare_76 : decode cX6_compare 76 = .ok (.getfield 25, 3) := by decide +kernel
theorem dX6_compare_79 : decode cX6_compare 79 = .ok (.aload_n 0, 1) := by decide +kernel
theorem dX6_compare_80 : decode cX6_compare 80 = .ok (.getfield 55, 3) := by decide +kernel
theorem dX6_compare_83 : decode cX6_compare 83 = .ok (.invokestatic 58, 3) := by decide +kernel
theorem dX6_compare_86 : decode cX6_compare 86 = .ok (.istore_n 3, 1) := by decide +kernel
theorem dX6_compare_87 : decode cX6_compare 87 = .ok (.aload_n 0, 1) := by decide +kernel
theorem dX6_compare_88 : decode cX6_compare 88 = .ok (.getfield 16, 3) := by decide +kernel
theorem dX6_compare_91 : decode cX6_compare 91 = .ok (.iload_n 1, 1) := by decide +kernel
theorem dX6_compare_92 : decode cX6_compare 92 = .ok (.iaload, 1) := by decide +kernel
theorem dX6_compare_93 : decode cX6_compare 93 = .ok (.ifCond .ge 8, 3) := by decide +kernel
theorem dX6_compare_96 : decode cX6_compare 96 = .ok (.iload_n 3, 1) := by decide +kernel
theorem dX6_compare_97 : decode cX6_compare 97 = .ok (.ineg, 1) := by decide +kernel
theorem dX6_compare_98 : decode cX6_compare 98 = .ok (.goto 4, 3) := by decide +kernel
theorem dX6_compare_101 : decode cX6_compare 101 = .ok (.iload_n 3, 1) := by decide +kernel
theorem dX6_compare_102 : decode cX6_compare 102 = .ok (.ireturn, 1) := by decide +kernel
set_option maxRecDepth 20000 in
theorem ggX6_sign_X6_isRegister : GoodIn wsX6_sign wsX6_isRegister := goodIn_r _ [6] (by decide +kernel) (by decide +kernel)
set_option maxRecDepth 20000 in
theorem gX6_sign_X6_isRegister : GoodIn wsX6_sign (va_wsS RX6 77 yX6_isRegister wsX6_isRegister) := goodIn_app (goodIn_of _ (by decide +kernel)) ggX6_sign_X6_isRegister
theorem dX6_sign_0 : decode cX6_sign 0 = .ok (.aload_n 0, 1) := by decide +kernel
theorem dX6_sign_1 : decode cX6_sign 1 = .ok (.iconst 0, 1) := by decide +kernel
theorem dX6_sign_2 : decode cX6_sign 2 = .ok (.putfield 45, 3) := by decide +kernel
theorem dX6_sign_5 : decode cX6_sign 5 = .ok (.iload_n 1, 1) := by decide +kernel
theorem dX6_sign_6 : decode cX6_sign 6 = .ok (.invokestatic 77, 3) := by decide +kernel
theorem dX6_sign_9 : decode cX6_sign 9 = .ok (.ifCond .eq 12, 3) := by decide +kernel
theorem dX6_sign_12 : decode cX6_sign 12 = .ok (.aload_n 0, 1) := by decide +kernel
theorem dX6_sign_13 : decode cX6_sign 13 = .ok (.getfield 16, 3) := by decide +kernel
theorem dX6_sign_16 : decode cX6_sign 16 = .ok (.iload_n 1, 1) := by decide +kernel
theorem dX6_sign_17 : decode cX6_sign 17 = .ok (.iaload, 1) := by decide +kernel
theorem dX6_sign_18 : decode cX6_sign 18 = .ok (.goto 4, 3) := by decide +kernel
theorem dX6_sign_21 : decode cX6_sign 21 = .ok (.iconst 2, 1) := by decide +kernel
theorem dX6_sign_22 : decode cX6_sign 22 = .ok (.ireturn, 1) := by decide +kernel
set_option maxRecDepth 20000 in
theorem ggX6_bits_X6_isRegister : GoodIn wsX6_bits wsX6_isRegister := goodIn_r _ [5] (by decide +kernel) (by decide +kernel)
set_option maxRecDepth 20000 in
theorem gX6_bits_X6_isRegister : GoodIn wsX6_bits (va_wsS RX6 77 yX6_isRegister wsX6_isRegister) := goodIn_app (goodIn_of _ (by decide +kernel)) ggX6_bits_X6_isRegister
set_option maxRecDepth 20000 in
theorem ggX6_bits_X6_bitsOf : GoodIn wsX6_bits wsX6_bitsOf := goodIn_r _ [9, 10, 11, 12, 13, 14, 4, 15, 16, 17, 18, 19, 20, 21, 22, 23, 24, 25, 26, 27, 28, 29, 30, 31, 32, 33, 34, 35, 36, 37] (by decide +kernel) (by decide +kernel)
set_option maxRecDepth 20000 in
theorem gX6_bits_X6_bitsOf : GoodIn wsX6_bits (wsV RX6 66 RX6 yX6_bitsOf wsX6_bitsOf) := goodIn_app (goodIn_of _ (by decide +kernel)) ggX6_bits_X6_bitsOf
theorem dX6_bits_0 : decode cX6_bits 0 = .ok (.aload_n 0, 1) := by decide +kernel
theorem dX6_bits_1 : decode cX6_bits 1 = .ok (.iconst 0, 1) := by decide +kernel
theorem dX6_bits_2 : decode cX6_bits 2 = .ok (.putfield 45, 3) := by decide +kernel
theorem dX6_bits_5 : decode cX6_bits 5 = .ok (.iload_n 1, 1) := by decide +kernel
theorem dX6_bits_6 : decode cX6_bits 6 = .ok (.invokestatic 77, 3) := by decide +kernel
theorem dX6_bits_9 : decode cX6_bits 9 = .ok (.ifCond .eq 11, 3) := by decide +kernel
theorem dX6_bits_12 : decode cX6_bits 12 = .ok (.aload_n 0, 1) := by decide +kernel
theorem dX6_bits_13 : decode cX6_bits 13 = .ok (.iload_n 1, 1) := by decide +kernel
theorem dX6_bits_14 : decode cX6_bits 14 = .ok (.invokevirtual 66, 3) := by decide +kernel
theorem dX6_bits_17 : decode cX6_bits 17 = .ok (.goto 4, 3) := by decide +kernel
theorem dX6_bits_20 : decode cX6_bits 20 = .ok (.iconst (-1), 1) := by decide +kernel
theorem dX6_bits_21 : decode cX6_bits 21 = .ok (.ireturn, 1) := by decide +kernel
set_option maxRecDepth 20000 in
theorem ggX6_part_X6_isRegister : GoodIn wsX6_part wsX6_isRegister := goodIn_r _ [7] (by decide +kernel) (by decide +kernel)
set_option maxRecDepth 20000 in
theorem gX6_part_X6_isRegister : GoodIn wsX6_part (va_wsS RX6 77 yX6_isRegister wsX6_isRegister) := goodIn_app (goodIn_of _ (by decide +kernel)) ggX6_part_X6_isRegister
set_option maxRecDepth 20000 in
theorem ggX6_part_X6_toX : GoodIn wsX6_part wsX6_toX := goodIn_r _ [11, 12, 2, 3, 13, 23, 24, 25, 26, 27, 28, 29, 30, 31, 32, 33, 34, 35, 36] (by decide +kernel) (by decide +kernel)
set_option maxRecDepth 20000 in
theorem gX6_part_X6_toX : GoodIn wsX6_part (wsV RX6 70 RX6 yX6_toX wsX6_toX) := goodIn_app (goodIn_of _ (by decide +kernel)) ggX6_part_X6_toX
set_option maxRecDepth 20000 in
theorem ggX6_part_X6_half : GoodIn wsX6_part wsX6_half := goodIn_r _ [16, 17, 18, 6, 19] (by decide +kernel) (by decide +kernel)
set_option maxRecDepth 20000 in
theorem gX6_part_X6_half : GoodIn wsX6_part (va_wsS RX6 74 yX6_half wsX6_half) := goodIn_app (goodIn_of _ (by decide +kernel)) ggX6_part_X6_half
set_option maxRecDepth 20000 in
theorem ggX6_part_X6_isOdd : GoodIn wsX6_part wsX6_isOdd := goodIn_r _ [22] (by decide +kernel) (by decide +kernel)
set_option maxRecDepth 20000 in
theorem gX6_part_X6_isOdd : GoodIn wsX6_part (va_wsS RX6 109 yX6_isOdd wsX6_isOdd) := goodIn_app (goodIn_of _ (by decide +kernel)) ggX6_part_X6_isOdd
theorem dX6_part_0 : decode cX6_part 0 = .ok (.aload_n 0, 1) := by decide +kernel
theorem dX6_part_1 : decode cX6_part 1 = .ok (.iconst 0, 1) := by decide +kernel
theorem dX6_part_2 : decode cX6_part 2 = .ok (.putfield 45, 3) := by decide +kernel
theorem dX6_part_5 : decode cX6_part 5 = .ok (.iload_n 1, 1) := by decide +kernel
theorem dX6_part_6 : decode cX6_part 6 = .ok (.invokestatic 77, 3) := by decide +kernel
theorem dX6_part_9 : decode cX6_part 9 = .ok (.ifCond .eq 7, 3) := by decide +kernel
theorem dX6_part_12 : decode cX6_part 12 = .ok (.iload_n 2, 1) := by decide +kernel
theorem dX6_part_13 : decode cX6_part 13 = .ok (.ifCond .ge 5, 3) := by decide +kernel
theorem dX6_part_16 : decode cX6_part 16 = .ok (.iconst (-1), 1) := by decide +kernel
theorem dX6_part_17 : decode cX6_part 17 = .ok (.ireturn, 1) := by decide +kernel
theorem dX6_part_18 : decode cX6_part 18 = .ok (.aload_n 0, 1) := by decide +kernel
theorem dX6_part_19 : decode cX6_part 19 = .ok (.iload_n 1, 1) := by decide +kernel
theorem dX6_part_20 : decode cX6_part 20 = .ok (.invokevirtual 70, 3) := by decide +kernel
theorem dX6_part_23 : decode cX6_part 23 = .ok (.iconst 0, 1) := by decide +kernel
theorem dX6_part_24 : decode cX6_part 24 = .ok (.istore_n 3, 1) := by decide +kernel
theorem dX6_part_25 : decode cX6_part 25 = .ok (.iload_n 3, 1) := by decide +kernel
theorem dX6_part_26 : decode cX6_part 26 = .ok (.iload_n 2, 1) := by decide +kernel
theorem dX6_part_27 : decode cX6_part 27 = .ok (.if_icmp .ge 31, 3) := by decide +kernel
theorem dX6_part_30 : decode cX6_part 30 = .ok (.aload_n 0, 1) := by decide +kernel
theorem dX6_part_31 : decode cX6_part 31 = .ok (.getfield 34, 3) := by decide +kernel
theorem dX6_part_34 : decode cX6_part 34 = .ok (.ifCond .le 24, 3) := by decide +kernel
theorem dX6_part_37 : decode cX6_part 37 = .ok (.aload_n 0, 1) := by decide +kernel
theorem dX6_part_38 : decode cX6_part 38 = .ok (.aload_n 0, 1) := by decide +kernel
theorem dX6_part_39 : decode cX6_part 39 = .ok (.getfield 22, 3) := by decide +kernel
theorem dX6_part_42 : decode cX6_part 42 = .ok (.aload_n 0, 1) := by decide +kernel
theorem dX6_part_43 : decode cX6_part 43 = .ok (.getfield 34, 3) := by decide +kernel
theorem dX6_part_46 : decode cX6_part 46 = .ok (.invokestatic 74, 3) := by decide +kernel
theorem dX6_part_49 : decode cX6_part 49 = .ok (.putfield 34, 3) := by decide +kernel
theorem dX6_part_52 : decode cX6_part 52 = .ok (.iinc 3 1, 3) := by decide +kernel
theorem dX6_part_55 : decode cX6_part 55 = .ok (.goto (-30), 3) := by decide +kernel
theorem dX6_part_58 : decode cX6_part 58 = .ok (.iconst 0, 1) := by decide +kernel
theorem dX6_part_59 : decode cX6_part 59 = .ok (.istore_n 3, 1) := by decide +kernel
theorem dX6_part_60 : decode cX6_part 60 = .ok (.iconst 0, 1) := by decide +kernel
theorem dX6_part_61 : decode cX6_part 61 = .ok (.istore 4, 2) := by decide +kernel
theorem dX6_part_63 : decode cX6_part 63 = .ok (.iload 4, 2) := by decide +kernel
theorem dX6_part_65 : decode cX6_part 65 = .ok (.bipush 30, 2) := by decide +kernel
theorem dX6_part_67 : decode cX6_part 67 = .ok (.if_icmp .ge 45, 3) := by decide +kernel
theorem dX6_part_70 : decode cX6_part 70 = .ok (.aload_n 0, 1) := by decide +kernel
theorem dX6_part_71 : decode cX6_part 71 = .ok (.getfield 22, 3) := by decide +kernel
theorem dX6_part_74 : decode cX6_part 74 = .ok (.aload_n 0, 1) := by decide +kernel
theorem dX6_part_75 : decode cX6_part 75 = .ok (.getfield 34, 3) := by decide +kernel
theorem dX6_part_78 : decode cX6_part 78 = .ok (.invokestatic 109, 3) := by decide +kernel
theorem dX6_part_81 : decode cX6_part 81 = .ok (.ifCond .eq 10, 3) := by decide +kernel
theorem dX6_part_84 : decode cX6_part 84 = .ok (.iload_n 3, 1) := by decide +kernel
theorem dX6_part_85 : decode cX6_part 85 = .ok (.iconst 1, 1) := by decide +kernel
theorem dX6_part_86 : decode cX6_part 86 = .ok (.iload 4, 2) := by decide +kernel
theorem dX6_part_88 : decode cX6_part 88 = .ok (.ishl, 1) := by decide +kernel
theorem dX6_part_89 : decode cX6_part 89 = .ok (.ior, 1) := by decide +kernel
theorem dX6_part_90 : decode cX6_part 90 = .ok (.istore_n 3, 1) := by decide +kernel
theorem dX6_part_91 : decode cX6_part 91 = .ok (.aload_n 0, 1) := by decide +kernel
theorem dX6_part_92 : decode cX6_part 92 = .ok (.aload_n 0, 1) := by decide +kernel
theorem dX6_part_93 : decode cX6_part 93 = .ok (.getfield 22, 3) := by decide +kernel
theorem dX6_part_96 : decode cX6_part 96 = .ok (.aload_n 0, 1) := by decide +kernel
theorem dX6_part_97 : decode cX6_part 97 = .ok (.getfield 34, 3) := by decide +kernel
theorem dX6_part_100 : decode cX6_part 100 = .ok (.invokestatic 74, 3) := by decide +kernel
theorem dX6_part_103 : decode cX6_part 103 = .ok (.putfield 34, 3) := by decide +kernel
theorem dX6_part_106 : decode cX6_part 106 = .ok (.iinc 4 1, 3) := by decide +kernel
theorem dX6_part_109 : decode cX6_part 109 = .ok (.goto (-46), 3) := by decide +kernel
theorem dX6_part_112 : decode cX6_part 112 = .ok (.iload_n 3, 1) := by decide +kernel
theorem dX6_part_113 : decode cX6_part 113 = .ok (.ireturn, 1) := by decide +kernel
set_option maxRecDepth 20000 in
theorem ggX6_anyBelow_X6_toX : GoodIn wsX6_anyBelow wsX6_toX := goodIn_r _ [7, 8, 1, 2, 9, 19, 20, 21, 22, 23, 24, 25, 26, 27, 28, 29, 30, 31, 32] (by decide +kernel) (by decide +kernel)
set_option maxRecDepth 20000 in
theorem gX6_anyBelow_X6_toX : GoodIn wsX6_anyBelow (wsV RX6 70 RX6 yX6_toX wsX6_toX) := goodIn_app (goodIn_of _ (by decide +kernel)) ggX6_anyBelow_X6_toX
set_option maxRecDepth 20000 in
theorem ggX6_anyBelow_X6_isOdd : GoodIn wsX6_anyBelow wsX6_isOdd := goodIn_r _ [12] (by decide +kernel) (by decide +kernel)
set_option maxRecDepth 20000 in
theorem gX6_anyBelow_X6_isOdd : GoodIn wsX6_anyBelow (va_wsS RX6 109 yX6_isOdd wsX6_isOdd) := goodIn_app (goodIn_of _ (by decide +kernel)) ggX6_anyBelow_X6_isOdd
set_option maxRecDepth 20000 in
theorem ggX6_anyBelow_X6_half : GoodIn wsX6_anyBelow wsX6_half := goodIn_r _ [15, 16, 17, 6, 18] (by decide +kernel) (by decide +kernel)
set_option maxRecDepth 20000 in
theorem gX6_anyBelow_X6_half : GoodIn wsX6_anyBelow (va_wsS RX6 74 yX6_half wsX6_half) := goodIn_app (goodIn_of _ (by decide +kernel)) ggX6_anyBelow_X6_half
theorem dX6_anyBelow_0 : decode cX6_anyBelow 0 = .ok (.aload_n 0, 1) := by decide +kernel
theorem dX6_anyBelow_1 : decode cX6_anyBelow 1 = .ok (.iload_n 1, 1) := by decide +kernel
theorem dX6_anyBelow_2 : decode cX6_anyBelow 2 = .ok (.invokevirtual 70, 3) := by decide +kernel
theorem dX6_anyBelow_5 : decode cX6_anyBelow 5 = .ok (.iconst 0, 1) := by decide +kernel
theorem dX6_anyBelow_6 : decode cX6_anyBelow 6 = .ok (.istore_n 3, 1) := by decide +kernel
theorem dX6_anyBelow_7 : decode cX6_anyBelow 7 = .ok (.iload_n 3, 1) := by decide +kernel
theorem dX6_anyBelow_8 : decode cX6_anyBelow 8 = .ok (.iload_n 2, 1) := by decide +kernel
theorem dX6_anyBelow_9 : decode cX6_anyBelow 9 = .ok (.if_icmp .ge 47, 3) := by decide +kernel
theorem dX6_anyBelow_12 : decode cX6_anyBelow 12 = .ok (.aload_n 0, 1) := by decide +kernel
theorem dX6_anyBelow_13 : decode cX6_anyBelow 13 = .ok (.getfield 34, 3) := by decide +kernel
theorem dX6_anyBelow_16 : decode cX6_anyBelow 16 = .ok (.ifCond .le 40, 3) := by decide +kernel
theorem dX6_anyBelow_19 : decode cX6_anyBelow 19 = .ok (.aload_n 0, 1) := by decide +kernel
theorem dX6_anyBelow_20 : decode cX6_anyBelow 20 = .ok (.getfield 22, 3) := by decide +kernel
theorem dX6_anyBelow_23 : decode cX6_anyBelow 23 = .ok (.aload_n 0, 1) := by decide +kernel
theorem dX6_anyBelow_24 : decode cX6_anyBelow 24 = .ok (.getfield 34, 3) := by decide +kernel
theorem dX6_anyBelow_27 : decode cX6_anyBelow 27 = .ok (.invokestatic 109, 3) := by decide +kernel
theorem dX6_anyBelow_30 : decode cX6_anyBelow 30 = .ok (.ifCond .eq 5, 3) := by decide +kernel
theorem dX6_anyBelow_33 : decode cX6_anyBelow 33 = .ok (.iconst 1, 1) := by decide +kernel
theorem dX6_anyBelow_34 : decode cX6_anyBelow 34 = .ok (.ireturn, 1) := by decide +kernel
theorem dX6_anyBelow_35 : decode cX6_anyBelow 35 = .ok (.aload_n 0, 1) := by decide +kernel
theorem dX6_anyBelow_36 : decode cX6_anyBelow 36 = .ok (.aload_n 0, 1) := by decide +kernel
theorem dX6_anyBelow_37 : decode cX6_anyBelow 37 = .ok (.getfield 22, 3) := by decide +kernel
theorem dX6_anyBelow_40 : decode cX6_anyBelow 40 = .ok (.aload_n 0, 1) := by decide +kernel
theorem dX6_anyBelow_41 : decode cX6_anyBelow 41 = .ok (.getfield 34, 3) := by decide +kernel
theorem dX6_anyBelow_44 : decode cX6_anyBelow 44 = .ok (.invokestatic 74, 3) := by decide +kernel
theorem dX6_anyBelow_47 : decode cX6_anyBelow 47 = .ok (.putfield 34, 3) := by decide +kernel
theorem dX6_anyBelow_50 : decode cX6_anyBelow 50 = .ok (.iinc 3 1, 3) := by decide +kernel
theorem dX6_anyBelow_53 : decode cX6_anyBelow 53 = .ok (.goto (-46), 3) := by decide +kernel
theorem dX6_anyBelow_56 : decode cX6_anyBelow 56 = .ok (.iconst 0, 1) := by decide +kernel
theorem dX6_anyBelow_57 : decode cX6_anyBelow 57 = .ok (.ireturn, 1) := by decide +kernel
set_option maxRecDepth 20000 in
theorem ggX6_hasBelow_X6_isRegister : GoodIn wsX6_hasBelow wsX6_isRegister := goodIn_r _ [5] (by decide +kernel) (by decide +kernel)
set_option maxRecDepth 20000 in
theorem gX6_hasBelow_X6_isRegister : GoodIn wsX6_hasBelow (va_wsS RX6 77 yX6_isRegister wsX6_isRegister) := goodIn_app (goodIn_of _ (by decide +kernel)) ggX6_hasBelow_X6_isRegister
set_option maxRecDepth 20000 in
theorem ggX6_hasBelow_X6_anyBelow : GoodIn wsX6_hasBelow wsX6_anyBelow := goodIn_r _ [9, 10, 11, 12, 13, 14, 4, 15, 16, 17, 18, 19, 20, 21, 22, 23, 24, 25, 26, 27, 28, 29, 30, 31, 32, 33, 34, 35, 36, 37, 38, 39, 40] (by decide +kernel) (by decide +kernel)
set_option maxRecDepth 20000 in
theorem gX6_hasBelow_X6_anyBelow : GoodIn wsX6_hasBelow (wsV RX6 116 RX6 yX6_anyBelow wsX6_anyBelow) := goodIn_app (goodIn_of _ (by decide +kernel)) ggX6_hasBelow_X6_anyBelow
theorem dX6_hasBelow_0 : decode cX6_hasBelow 0 = .ok (.aload_n 0, 1) := by decide +kernel
theorem dX6_hasBelow_1 : decode cX6_hasBelow 1 = .ok (.iconst 0, 1) := by decide +kernel
theorem dX6_hasBelow_2 : decode cX6_hasBelow 2 = .ok (.putfield 45, 3) := by decide +kernel
theorem dX6_hasBelow_5 : decode cX6_hasBelow 5 = .ok (.iload_n 1, 1) := by decide +kernel
theorem dX6_hasBelow_6 : decode cX6_hasBelow 6 = .ok (.invokestatic 77, 3) := by decide +kernel
theorem dX6_hasBelow_9 : decode cX6_hasBelow 9 = .ok (.ifCond .eq 16, 3) := by decide +kernel
theorem dX6_hasBelow_12 : decode cX6_hasBelow 12 = .ok (.aload_n 0, 1) := by decide +kernel
theorem dX6_hasBelow_13 : decode cX6_hasBelow 13 = .ok (.iload_n 1, 1) := by decide +kernel
theorem dX6_hasBelow_14 : decode cX6_hasBelow 14 = .ok (.iload_n 2, 1) := by decide +kernel
theorem dX6_hasBelow_15 : decode cX6_hasBelow 15 = .ok (.invokevirtual 116, 3) := by decide +kernel
theorem dX6_hasBelow_18 : decode cX6_hasBelow 18 = .ok (.ifCond .eq 7, 3) := by decide +kernel
theorem dX6_hasBelow_21 : decode cX6_hasBelow 21 = .ok (.iconst 1, 1) := by decide +kernel
theorem dX6_hasBelow_22 : decode cX6_hasBelow 22 = .ok (.goto 4, 3) := by decide +kernel
theorem dX6_hasBelow_25 : decode cX6_hasBelow 25 = .ok (.iconst 0, 1) := by decide +kernel
theorem dX6_hasBelow_26 : decode cX6_hasBelow 26 = .ok (.ireturn, 1) := by decide +kernel
set_option maxRecDepth 20000 in
theorem ggX6_isLong_X6_bitsOf : GoodIn wsX6_isLong wsX6_bitsOf := goodIn_r _ [6, 7, 8, 9, 10, 11, 5, 12, 13, 14, 15, 16, 17, 18, 19, 20, 28, 29, 30, 31, 32, 33, 34, 35, 36, 37, 38, 39, 40, 41] (by decide +kernel) (by decide +kernel)
set_option maxRecDepth 20000 in
theorem gX6_isLong_X6_bitsOf : GoodIn wsX6_isLong (wsV RX6 66 RX6 yX6_bitsOf wsX6_bitsOf) := goodIn_app (goodIn_of _ (by decide +kernel)) ggX6_isLong_X6_bitsOf
set_option maxRecDepth 20000 in
theorem ggX6_isLong_X6_anyBelow : GoodIn wsX6_isLong wsX6_anyBelow := goodIn_r _ [24, 7, 8, 9, 10, 11, 5, 12, 13, 14, 25, 26, 27, 15, 16, 17, 18, 19, 20, 28, 29, 30, 31, 32, 33, 34, 35, 36, 37, 38, 39, 40, 41] (by decide +kernel) (by decide +kernel)
set_option maxRecDepth 20000 in
theorem gX6_isLong_X6_anyBelow : GoodIn wsX6_isLong (wsV RX6 116 RX6 yX6_anyBelow wsX6_anyBelow) := goodIn_app (goodIn_of _ (by decide +kernel)) ggX6_isLong_X6_anyBelow
theorem dX6_isLong_0 : decode cX6_isLong 0 = .ok (.aload_n 0, 1) := by decide +kernel
theorem dX6_isLong_1 : decode cX6_isLong 1 = .ok (.iload_n 1, 1) := by decide +kernel
theorem dX6_isLong_2 : decode cX6_isLong 2 = .ok (.invokevirtual 66, 3) := by decide +kernel
theorem dX6_isLong_5 : decode cX6_isLong 5 = .ok (.istore_n 2, 1) := by decide +kernel
theorem dX6_isLong_6 : decode cX6_isLong 6 = .ok (.iload_n 2, 1) := by decide +kernel
theorem dX6_isLong_7 : decode cX6_isLong 7 = .ok (.bipush 64, 2) := by decide +kernel
theorem dX6_isLong_9 : decode cX6_isLong 9 = .ok (.if_icmp .lt 28, 3) := by decide +kernel
theorem dX6_isLong_12 : decode cX6_isLong 12 = .ok (.iload_n 2, 1) := by decide +kernel
theorem dX6_isLong_13 : decode cX6_isLong 13 = .ok (.bipush 64, 2) := by decide +kernel
theorem dX6_isLong_15 : decode cX6_isLong 15 = .ok (.if_icmp .ne 26, 3) := by decide +kernel
theorem dX6_isLong_18 : decode cX6_isLong 18 = .ok (.aload_n 0, 1) := by decide +kernel
theorem dX6_isLong_19 : decode cX6_isLong 19 = .ok (.getfield 16, 3) := by decide +kernel
theorem dX6_isLong_22 : decode cX6_isLong 22 = .ok (.iload_n 1, 1) := by decide +kernel
theorem dX6_isLong_23 : decode cX6_isLong 23 = .ok (.iaload, 1) := by decide +kernel
theorem dX6_isLong_24 : decode cX6_isLong 24 = .ok (.ifCond .ge 17, 3) := by decide +kernel
theorem dX6_isLong_27 : decode cX6_isLong 27 = .ok (.aload_n 0, 1) := by decide +kernel
theorem dX6_isLong_28 : decode cX6_isLong 28 = .ok (.iload_n 1, 1) := by decide +kernel
theorem dX6_isLong_29 : decode cX6_isLong 29 = .ok (.bipush 63, 2) := by decide +kernel
theorem dX6_isLong_31 : decode cX6_isLong 31 = .ok (.invokevirtual 116, 3) := by decide +kernel
theorem dX6_isLong_34 : decode cX6_isLong 34 = .ok (.ifCond .ne 7, 3) := by decide +kernel
theorem dX6_isLong_37 : decode cX6_isLong 37 = .ok (.iconst 1, 1) := by decide +kernel
theorem dX6_isLong_38 : decode cX6_isLong 38 = .ok (.goto 4, 3) := by decide +kernel
theorem dX6_isLong_41 : decode cX6_isLong 41 = .ok (.iconst 0, 1) := by decide +kernel
theorem dX6_isLong_42 : decode cX6_isLong 42 = .ok (.ireturn, 1) := by decide +kernel
set_option maxRecDepth 20000 in
theorem ggX6_low_X6_isRegister : GoodIn wsX6_low wsX6_isRegister := goodIn_r _ [9] (by decide +kernel) (by decide +kernel)
set_option maxRecDepth 20000 in
theorem gX6_low_X6_isRegister : GoodIn wsX6_low (va_wsS RX6 77 yX6_isRegister wsX6_isRegister) := goodIn_app (goodIn_of _ (by decide +kernel)) ggX6_low_X6_isRegister
set_option maxRecDepth 20000 in
theorem ggX6_low_X6_isLong : GoodIn wsX6_low wsX6_isLong := goodIn_r _ [13, 4, 14, 15, 16, 8, 17, 18, 19, 20, 21, 22, 23, 2, 5, 24, 25, 26, 27, 28, 29, 30, 31, 32, 33, 34, 35, 36, 37, 38, 39, 40, 41, 42, 43, 44, 45, 46, 47, 48, 49, 50] (by decide +kernel) (by decide +kernel)
set_option maxRecDepth 20000 in
theorem gX6_low_X6_isLong : GoodIn wsX6_low (wsV RX6 120 RX6 yX6_isLong wsX6_isLong) := goodIn_app (goodIn_of _ (by decide +kernel)) ggX6_low_X6_isLong
theorem dX6_low_0 : decode cX6_low 0 = .ok (.aload_n 0, 1) := by decide +kernel
theorem dX6_low_1 : decode cX6_low 1 = .ok (.iconst 0, 1) := by decide +kernel
theorem dX6_low_2 : decode cX6_low 2 = .ok (.putfield 45, 3) := by decide +kernel
theorem dX6_low_5 : decode cX6_low 5 = .ok (.iload_n 1, 1) := by decide +kernel
theorem dX6_low_6 : decode cX6_low 6 = .ok (.invokestatic 77, 3) := by decide +kernel
theorem dX6_low_9 : decode cX6_low 9 = .ok (.ifCond .eq 11, 3) := by decide +kernel
theorem dX6_low_12 : decode cX6_low 12 = .ok (.aload_n 0, 1) := by decide +kernel
theorem dX6_low_13 : decode cX6_low 13 = .ok (.iload_n 1, 1) := by decide +kernel
theorem dX6_low_14 : decode cX6_low 14 = .ok (.invokevirtual 120, 3) := by decide +kernel
theorem dX6_low_17 : decode cX6_low 17 = .ok (.ifCond .ne 5, 3) := by decide +kernel
theorem dX6_low_20 : decode cX6_low 20 = .ok (.lconst 0, 1) := by decide +kernel
theorem dX6_low_21 : decode cX6_low 21 = .ok (.lreturn, 1) := by decide +kernel
theorem dX6_low_22 : decode cX6_low 22 = .ok (.lconst 0, 1) := by decide +kernel
theorem dX6_low_23 : decode cX6_low 23 = .ok (.lstore_n 2, 1) := by decide +kernel
theorem dX6_low_24 : decode cX6_low 24 = .ok (.aload_n 0, 1) := by decide +kernel
theorem dX6_low_25 : decode cX6_low 25 = .ok (.getfield 13, 3) := by decide +kernel
theorem dX6_low_28 : decode cX6_low 28 = .ok (.iload_n 1, 1) := by decide +kernel
theorem dX6_low_29 : decode cX6_low 29 = .ok (.iaload, 1) := by decide +kernel
theorem dX6_low_30 : decode cX6_low 30 = .ok (.iconst 1, 1) := by decide +kernel
theorem dX6_low_31 : decode cX6_low 31 = .ok (.isub, 1) := by decide +kernel
theorem dX6_low_32 : decode cX6_low 32 = .ok (.istore 4, 2) := by decide +kernel
theorem dX6_low_34 : decode cX6_low 34 = .ok (.iload 4, 2) := by decide +kernel
theorem dX6_low_36 : decode cX6_low 36 = .ok (.ifCond .lt 37, 3) := by decide +kernel
theorem dX6_low_39 : decode cX6_low 39 = .ok (.lload_n 2, 1) := by decide +kernel
theorem dX6_low_40 : decode cX6_low 40 = .ok (.ldc2_w 81, 3) := by decide +kernel
theorem dX6_low_43 : decode cX6_low 43 = .ok (.lmul, 1) := by decide +kernel
theorem dX6_low_44 : decode cX6_low 44 = .ok (.aload_n 0, 1) := by decide +kernel
theorem dX6_low_45 : decode cX6_low 45 = .ok (.getfield 16, 3) := by decide +kernel
theorem dX6_low_48 : decode cX6_low 48 = .ok (.iload_n 1, 1) := by decide +kernel
theorem dX6_low_49 : decode cX6_low 49 = .ok (.iaload, 1) := by decide +kernel
theorem dX6_low_50 : decode cX6_low 50 = .ok (.aload_n 0, 1) := by decide +kernel
theorem dX6_low_51 : decode cX6_low 51 = .ok (.getfield 7, 3) := by decide +kernel
theorem dX6_low_54 : decode cX6_low 54 = .ok (.sipush 320, 3) := by decide +kernel
theorem dX6_low_57 : decode cX6_low 57 = .ok (.iload_n 1, 1) := by decide +kernel
theorem dX6_low_58 : decode cX6_low 58 = .ok (.imul, 1) := by decide +kernel
theorem dX6_low_59 : decode cX6_low 59 = .ok (.iload 4, 2) := by decide +kernel
theorem dX6_low_61 : decode cX6_low 61 = .ok (.iadd, 1) := by decide +kernel
theorem dX6_low_62 : decode cX6_low 62 = .ok (.iaload, 1) := by decide +kernel
theorem dX6_low_63 : decode cX6_low 63 = .ok (.imul, 1) := by decide +kernel
theorem dX6_low_64 : decode cX6_low 64 = .ok (.i2l, 1) := by decide +kernel
theorem dX6_low_65 : decode cX6_low 65 = .ok (.ladd, 1) := by decide +kernel
theorem dX6_low_66 : decode cX6_low 66 = .ok (.lstore_n 2, 1) := by decide +kernel
theorem dX6_low_67 : decode cX6_low 67 = .ok (.iinc 4 (-1), 3) := by decide +kernel
theorem dX6_low_70 : decode cX6_low 70 = .ok (.goto (-36), 3) := by decide +kernel
theorem dX6_low_73 : decode cX6_low 73 = .ok (.lload_n 2, 1) := by decide +kernel
theorem dX6_low_74 : decode cX6_low 74 = .ok (.lreturn, 1) := by decide +kernel
set_option maxRecDepth 20000 in
theorem ggX6_fits_X6_isRegister : GoodIn wsX6_fits wsX6_isRegister := goodIn_r _ [5] (by decide +kernel) (by decide +kernel)
set_option maxRecDepth 20000 in
theorem gX6_fits_X6_isRegister : GoodIn wsX6_fits (va_wsS RX6 77 yX6_isRegister wsX6_isRegister) := goodIn_app (goodIn_of _ (by decide +kernel)) ggX6_fits_X6_isRegister
set_option maxRecDepth 20000 in
theorem ggX6_fits_X6_isLong : GoodIn wsX6_fits wsX6_isLong := goodIn_r _ [9, 10, 11, 12, 13, 4, 14, 15, 16, 17, 18, 19, 20, 21, 22, 23, 24, 25, 26, 27, 28, 29, 30, 31, 32, 33, 34, 35, 36, 37, 38, 39, 40, 41, 42, 43, 44, 45, 46, 47, 48, 49] (by decide +kernel) (by decide +kernel)
set_option maxRecDepth 20000 in
theorem gX6_fits_X6_isLong : GoodIn wsX6_fits (wsV RX6 120 RX6 yX6_isLong wsX6_isLong) := goodIn_app (goodIn_of _ (by decide +kernel)) ggX6_fits_X6_isLong
theorem dX6_fits_0 : decode cX6_fits 0 = .ok (.aload_n 0, 1) := by decide +kernel
theorem dX6_fits_1 : decode cX6_fits 1 = .ok (.iconst 0, 1) := by decide +kernel
theorem dX6_fits_2 : decode cX6_fits 2 = .ok (.putfield 45, 3) := by decide +kernel
theorem dX6_fits_5 : decode cX6_fits 5 = .ok (.iload_n 1, 1) := by decide +kernel
theorem dX6_fits_6 : decode cX6_fits 6 = .ok (.invokestatic 77, 3) := by decide +kernel
theorem dX6_fits_9 : decode cX6_fits 9 = .ok (.ifCond .eq 15, 3) := by decide +kernel
theorem dX6_fits_12 : decode cX6_fits 12 = .ok (.aload_n 0, 1) := by decide +kernel
theorem dX6_fits_13 : decode cX6_fits 13 = .ok (.iload_n 1, 1) := by decide +kernel
theorem dX6_fits_14 : decode cX6_fits 14 = .ok (.invokevirtual 120, 3) := by decide +kernel
theorem dX6_fits_17 : decode cX6_fits 17 = .ok (.ifCond .eq 7, 3) := by decide +kernel
theorem dX6_fits_20 : decode cX6_fits 20 = .ok (.iconst 1, 1) := by decide +kernel
theorem dX6_fits_21 : decode cX6_fits 21 = .ok (.goto 4, 3) := by decide +kernel
theorem dX6_fits_24 : decode cX6_fits 24 = .ok (.iconst 0, 1) := by decide +kernel
theorem dX6_fits_25 : decode cX6_fits 25 = .ok (.ireturn, 1) := by decide +kernel
set_option maxRecDepth 20000 in
theorem ggX6_write_X6_isRegister : GoodIn wsX6_write wsX6_isRegister := goodIn_r _ [10] (by decide +kernel) (by decide +kernel)
set_option maxRecDepth 20000 in
theorem gX6_write_X6_isRegister : GoodIn wsX6_write (va_wsS RX6 77 yX6_isRegister wsX6_isRegister) := goodIn_app (goodIn_of _ (by decide +kernel)) ggX6_write_X6_isRegister
set_option maxRecDepth 20000 in
theorem ggX6_write_X6_toX : GoodIn wsX6_write wsX6_toX := goodIn_r _ [14, 15, 2, 3, 16, 20, 21, 22, 23, 24, 25, 26, 27, 28, 29, 30, 31, 32, 33] (by decide +kernel) (by decide +kernel)
set_option maxRecDepth 20000 in
theorem gX6_write_X6_toX : GoodIn wsX6_write (wsV RX6 70 RX6 yX6_toX wsX6_toX) := goodIn_app (goodIn_of _ (by decide +kernel)) ggX6_write_X6_toX
set_option maxRecDepth 20000 in
theorem ggX6_write_X6_shortened : GoodIn wsX6_write wsX6_shortened := goodIn_r _ [19] (by decide +kernel) (by decide +kernel)
set_option maxRecDepth 20000 in
theorem gX6_write_X6_shortened : GoodIn wsX6_write (va_wsS RX6 52 yX6_shortened wsX6_shortened) := goodIn_app (goodIn_of _ (by decide +kernel)) ggX6_write_X6_shortened
theorem dX6_write_0 : decode cX6_write 0 = .ok (.aload_n 0, 1) := by decide +kernel
theorem dX6_write_1 : decode cX6_write 1 = .ok (.iconst 0, 1) := by decide +kernel
theorem dX6_write_2 : decode cX6_write 2 = .ok (.putfield 45, 3) := by decide +kernel
theorem dX6_write_5 : decode cX6_write 5 = .ok (.iload_n 1, 1) := by decide +kernel
theorem dX6_write_6 : decode cX6_write 6 = .ok (.invokestatic 77, 3) := by decide +kernel
theorem dX6_write_9 : decode cX6_write 9 = .ok (.ifCond .eq 14, 3) := by decide +kernel
theorem dX6_write_12 : decode cX6_write 12 = .ok (.iload_n 2, 1) := by decide +kernel
theorem dX6_write_13 : decode cX6_write 13 = .ok (.iconst 2, 1) := by decide +kernel
theorem dX6_write_14 : decode cX6_write 14 = .ok (.if_icmp .lt 9, 3) := by decide +kernel
theorem dX6_write_17 : decode cX6_write 17 = .ok (.iload_n 2, 1) := by decide +kernel
theorem dX6_write_18 : decode cX6_write 18 = .ok (.bipush 16, 2) := by decide +kernel
theorem dX6_write_20 : decode cX6_write 20 = .ok (.if_icmp .le 5, 3) := by decide +kernel
theorem dX6_write_23 : decode cX6_write 23 = .ok (.iconst (-1), 1) := by decide +kernel
theorem dX6_write_24 : decode cX6_write 24 = .ok (.ireturn, 1) := by decide +kernel
theorem dX6_write_25 : decode cX6_write 25 = .ok (.aload_n 0, 1) := by decide +kernel
theorem dX6_write_26 : decode cX6_write 26 = .ok (.iload_n 1, 1) := by decide +kernel
theorem dX6_write_27 : decode cX6_write 27 = .ok (.invokevirtual 70, 3) := by decide +kernel
theorem dX6_write_30 : decode cX6_write 30 = .ok (.iconst 0, 1) := by decide +kernel
theorem dX6_write_31 : decode cX6_write 31 = .ok (.istore_n 3, 1) := by decide +kernel
theorem dX6_write_32 : decode cX6_write 32 = .ok (.aload_n 0, 1) := by decide +kernel
theorem dX6_write_33 : decode cX6_write 33 = .ok (.getfield 34, 3) := by decide +kernel
theorem dX6_write_36 : decode cX6_write 36 = .ok (.ifCond .gt 7, 3) := by decide +kernel
theorem dX6_write_39 : decode cX6_write 39 = .ok (.iload_n 3, 1) := by decide +kernel
theorem dX6_write_40 : decode cX6_write 40 = .ok (.ifCond .ne 105, 3) := by decide +kernel
theorem dX6_write_43 : decode cX6_write 43 = .ok (.iconst 0, 1) := by decide +kernel
theorem dX6_write_44 : decode cX6_write 44 = .ok (.istore 4, 2) := by decide +kernel
theorem dX6_write_46 : decode cX6_write 46 = .ok (.aload_n 0, 1) := by decide +kernel
theorem dX6_write_47 : decode cX6_write 47 = .ok (.getfield 34, 3) := by decide +kernel
theorem dX6_write_50 : decode cX6_write 50 = .ok (.iconst 1, 1) := by decide +kernel
theorem dX6_write_51 : decode cX6_write 51 = .ok (.isub, 1) := by decide +kernel
theorem dX6_write_52 : decode cX6_write 52 = .ok (.istore 5, 2) := by decide +kernel
theorem dX6_write_54 : decode cX6_write 54 = .ok (.iload 5, 2) := by decide +kernel
theorem dX6_write_56 : decode cX6_write 56 = .ok (.ifCond .lt 42, 3) := by decide +kernel
theorem dX6_write_59 : decode cX6_write 59 = .ok (.iload 4, 2) := by decide +kernel
theorem dX6_write_61 : decode cX6_write 61 = .ok (.sipush 10000, 3) := by decide +kernel
theorem dX6_write_64 : decode cX6_write 64 = .ok (.imul, 1) := by decide +kernel
theorem dX6_write_65 : decode cX6_write 65 = .ok (.aload_n 0, 1) := by decide +kernel
theorem dX6_write_66 : decode cX6_write 66 = .ok (.getfield 22, 3) := by decide +kernel
theorem dX6_write_69 : decode cX6_write 69 = .ok (.iload 5, 2) := by decide +kernel
theorem dX6_write_71 : decode cX6_write 71 = .ok (.iaload, 1) := by decide +kernel
theorem dX6_write_72 : decode cX6_write 72 = .ok (.iadd, 1) := by decide +kernel
theorem dX6_write_73 : decode cX6_write 73 = .ok (.istore 6, 2) := by decide +kernel
theorem dX6_write_75 : decode cX6_write 75 = .ok (.aload_n 0, 1) := by decide +kernel
theorem dX6_write_76 : decode cX6_write 76 = .ok (.getfield 22, 3) := by decide +kernel
theorem dX6_write_79 : decode cX6_write 79 = .ok (.iload 5, 2) := by decide +kernel
theorem dX6_write_81 : decode cX6_write 81 = .ok (.iload 6, 2) := by decide +kernel
theorem dX6_write_83 : decode cX6_write 83 = .ok (.iload_n 2, 1) := by decide +kernel
theorem dX6_write_84 : decode cX6_write 84 = .ok (.idiv, 1) := by decide +kernel
theorem dX6_write_85 : decode cX6_write 85 = .ok (.iastore, 1) := by decide +kernel
theorem dX6_write_86 : decode cX6_write 86 = .ok (.iload 6, 2) := by decide +kernel
theorem dX6_write_88 : decode cX6_write 88 = .ok (.iload_n 2, 1) := by decide +kernel
theorem dX6_write_89 : decode cX6_write 89 = .ok (.irem, 1) := by decide +kernel
theorem dX6_write_90 : decode cX6_write 90 = .ok (.istore 4, 2) := by decide +kernel
theorem dX6_write_92 : decode cX6_write 92 = .ok (.iinc 5 (-1), 3) := by decide +kernel
theorem dX6_write_95 : decode cX6_write 95 = .ok (.goto (-41), 3) := by decide +kernel
theorem dX6_write_98 : decode cX6_write 98 = .ok (.aload_n 0, 1) := by decide +kernel
theorem dX6_write_99 : decode cX6_write 99 = .ok (.aload_n 0, 1) := by decide +kernel
theorem dX6_write_100 : decode cX6_write 100 = .ok (.getfield 22, 3) := by decide +kernel
theorem dX6_write_103 : decode cX6_write 103 = .ok (.aload_n 0, 1) := by decide +kernel
theorem dX6_write_104 : decode cX6_write 104 = .ok (.getfield 34, 3) := by decide +kernel
theorem dX6_write_107 : decode cX6_write 107 = .ok (.invokestatic 52, 3) := by decide +kernel
theorem dX6_write_110 : decode cX6_write 110 = .ok (.putfield 34, 3) := by decide +kernel
theorem dX6_write_113 : decode cX6_write 113 = .ok (.aload_n 0, 1) := by decide +kernel
theorem dX6_write_114 : decode cX6_write 114 = .ok (.getfield 31, 3) := by decide +kernel
theorem dX6_write_117 : decode cX6_write 117 = .ok (.iload_n 3, 1) := by decide +kernel
theorem dX6_write_118 : decode cX6_write 118 = .ok (.iload 4, 2) := by decide +kernel
theorem dX6_write_120 : decode cX6_write 120 = .ok (.bipush 10, 2) := by decide +kernel
theorem dX6_write_122 : decode cX6_write 122 = .ok (.if_icmp .ge 11, 3) := by decide +kernel
theorem dX6_write_125 : decode cX6_write 125 = .ok (.bipush 48, 2) := by decide +kernel
theorem dX6_write_127 : decode cX6_write 127 = .ok (.iload 4, 2) := by decide +kernel
theorem dX6_write_129 : decode cX6_write 129 = .ok (.iadd, 1) := by decide +kernel
theorem dX6_write_130 : decode cX6_write 130 = .ok (.goto 8, 3) := by decide +kernel
theorem dX6_write_133 : decode cX6_write 133 = .ok (.bipush 87, 2) := by decide +kernel
theorem dX6_write_135 : decode cX6_write 135 = .ok (.iload 4, 2) := by decide +kernel
theorem dX6_write_137 : decode cX6_write 137 = .ok (.iadd, 1) := by decide +kernel
theorem dX6_write_138 : decode cX6_write 138 = .ok (.iastore, 1) := by decide +kernel
theorem dX6_write_139 : decode cX6_write 139 = .ok (.iinc 3 1, 3) := by decide +kernel
theorem dX6_write_142 : decode cX6_write 142 = .ok (.goto (-110), 3) := by decide +kernel
theorem dX6_write_145 : decode cX6_write 145 = .ok (.aload_n 0, 1) := by decide +kernel
theorem dX6_write_146 : decode cX6_write 146 = .ok (.getfield 16, 3) := by decide +kernel
theorem dX6_write_149 : decode cX6_write 149 = .ok (.iload_n 1, 1) := by decide +kernel
theorem dX6_write_150 : decode cX6_write 150 = .ok (.iaload, 1) := by decide +kernel
theorem dX6_write_151 : decode cX6_write 151 = .ok (.ifCond .ge 14, 3) := by decide +kernel
theorem dX6_write_154 : decode cX6_write 154 = .ok (.aload_n 0, 1) := by decide +kernel
theorem dX6_write_155 : decode cX6_write 155 = .ok (.getfield 31, 3) := by decide +kernel
theorem dX6_write_158 : decode cX6_write 158 = .ok (.iload_n 3, 1) := by decide +kernel
theorem dX6_write_159 : decode cX6_write 159 = .ok (.bipush 45, 2) := by decide +kernel
theorem dX6_write_161 : decode cX6_write 161 = .ok (.iastore, 1) := by decide +kernel
theorem dX6_write_162 : decode cX6_write 162 = .ok (.iinc 3 1, 3) := by decide +kernel
theorem dX6_write_165 : decode cX6_write 165 = .ok (.iconst 0, 1) := by decide +kernel
theorem dX6_write_166 : decode cX6_write 166 = .ok (.istore 4, 2) := by decide +kernel
theorem dX6_write_168 : decode cX6_write 168 = .ok (.iload 4, 2) := by decide +kernel
theorem dX6_write_170 : decode cX6_write 170 = .ok (.iload_n 3, 1) := by decide +kernel
theorem dX6_write_171 : decode cX6_write 171 = .ok (.iconst 2, 1) := by decide +kernel
theorem dX6_write_172 : decode cX6_write 172 = .ok (.idiv, 1) := by decide +kernel
theorem dX6_write_173 : decode cX6_write 173 = .ok (.if_icmp .ge 49, 3) := by decide +kernel
theorem dX6_write_176 : decode cX6_write 176 = .ok (.aload_n 0, 1) := by decide +kernel
theorem dX6_write_177 : decode cX6_write 177 = .ok (.getfield 31, 3) := by decide +kernel
theorem dX6_write_180 : decode cX6_write 180 = .ok (.iload 4, 2) := by decide +kernel
theorem dX6_write_182 : decode cX6_write 182 = .ok (.iaload, 1) := by decide +kernel
theorem dX6_write_183 : decode cX6_write 183 = .ok (.istore 5, 2) := by decide +kernel
theorem dX6_write_185 : decode cX6_write 185 = .ok (.aload_n 0, 1) := by decide +kernel
theorem dX6_write_186 : decode cX6_write 186 = .ok (.getfield 31, 3) := by decide +kernel
theorem dX6_write_189 : decode cX6_write 189 = .ok (.iload 4, 2) := by decide +kernel
theorem dX6_write_191 : decode cX6_write 191 = .ok (.aload_n 0, 1) := by decide +kernel
theorem dX6_write_192 : decode cX6_write 192 = .ok (.getfield 31, 3) := by decide +kernel
theorem dX6_write_195 : decode cX6_write 195 = .ok (.iload_n 3, 1) := by decide +kernel
theorem dX6_write_196 : decode cX6_write 196 = .ok (.iconst 1, 1) := by decide +kernel
theorem dX6_write_197 : decode cX6_write 197 = .ok (.isub, 1) := by decide +kernel
theorem dX6_write_198 : decode cX6_write 198 = .ok (.iload 4, 2) := by decide +kernel
theorem dX6_write_200 : decode cX6_write 200 = .ok (.isub, 1) := by decide +kernel
theorem dX6_write_201 : decode cX6_write 201 = .ok (.iaload, 1) := by decide +kernel
theorem dX6_write_202 : decode cX6_write 202 = .ok (.iastore, 1) := by decide +kernel
theorem dX6_write_203 : decode cX6_write 203 = .ok (.aload_n 0, 1) := by decide +kernel
theorem dX6_write_204 : decode cX6_write 204 = .ok (.getfield 31, 3) := by decide +kernel
theorem dX6_write_207 : decode cX6_write 207 = .ok (.iload_n 3, 1) := by decide +kernel
theorem dX6_write_208 : decode cX6_write 208 = .ok (.iconst 1, 1) := by decide +kernel
theorem dX6_write_209 : decode cX6_write 209 = .ok (.isub, 1) := by decide +kernel
theorem dX6_write_210 : decode cX6_write 210 = .ok (.iload 4, 2) := by decide +kernel
theorem dX6_write_212 : decode cX6_write 212 = .ok (.isub, 1) := by decide +kernel
theorem dX6_write_213 : decode cX6_write 213 = .ok (.iload 5, 2) := by decide +kernel
theorem dX6_write_215 : decode cX6_write 215 = .ok (.iastore, 1) := by decide +kernel
theorem dX6_write_216 : decode cX6_write 216 = .ok (.iinc 4 1, 3) := by decide +kernel
theorem dX6_write_219 : decode cX6_write 219 = .ok (.goto (-51), 3) := by decide +kernel
theorem dX6_write_222 : decode cX6_write 222 = .ok (.aload_n 0, 1) := by decide +kernel
theorem dX6_write_223 : decode cX6_write 223 = .ok (.iload_n 3, 1) := by decide +kernel
theorem dX6_write_224 : decode cX6_write 224 = .ok (.putfield 123, 3) := by decide +kernel
theorem dX6_write_227 : decode cX6_write 227 = .ok (.iload_n 3, 1) := by decide +kernel
theorem dX6_write_228 : decode cX6_write 228 = .ok (.ireturn, 1) := by decide +kernel
theorem dX6_type_0 : decode cX6_type 0 = .ok (.aload_n 0, 1) := by decide +kernel
theorem dX6_type_1 : decode cX6_type 1 = .ok (.iconst 0, 1) := by decide +kernel
theorem dX6_type_2 : decode cX6_type 2 = .ok (.putfield 45, 3) := by decide +kernel
theorem dX6_type_5 : decode cX6_type 5 = .ok (.iload_n 1, 1) := by decide +kernel
theorem dX6_type_6 : decode cX6_type 6 = .ok (.ifCond .lt 19, 3) := by decide +kernel
theorem dX6_type_9 : decode cX6_type 9 = .ok (.iload_n 1, 1) := by decide +kernel
theorem dX6_type_10 : decode cX6_type 10 = .ok (.bipush 127, 2) := by decide +kernel
theorem dX6_type_12 : decode cX6_type 12 = .ok (.if_icmp .gt 13, 3) := by decide +kernel
theorem dX6_type_15 : decode cX6_type 15 = .ok (.aload_n 0, 1) := by decide +kernel
theorem dX6_type_16 : decode cX6_type 16 = .ok (.getfield 123, 3) := by decide +kernel
theorem dX6_type_19 : decode cX6_type 19 = .ok (.sipush 1300, 3) := by decide +kernel
theorem dX6_type_22 : decode cX6_type 22 = .ok (.if_icmp .lt 5, 3) := by decide +kernel
theorem dX6_type_25 : decode cX6_type 25 = .ok (.iconst (-1), 1) := by decide +kernel
theorem dX6_type_26 : decode cX6_type 26 = .ok (.ireturn, 1) := by decide +kernel
theorem dX6_type_27 : decode cX6_type 27 = .ok (.aload_n 0, 1) := by decide +kernel
theorem dX6_type_28 : decode cX6_type 28 = .ok (.getfield 31, 3) := by decide +kernel
theorem dX6_type_31 : decode cX6_type 31 = .ok (.aload_n 0, 1) := by decide +kernel
theorem dX6_type_32 : decode cX6_type 32 = .ok (.getfield 123, 3) := by decide +kernel
theorem dX6_type_35 : decode cX6_type 35 = .ok (.iload_n 1, 1) := by decide +kernel
theorem dX6_type_36 : decode cX6_type 36 = .ok (.iastore, 1) := by decide +kernel
theorem dX6_type_37 : decode cX6_type 37 = .ok (.aload_n 0, 1) := by decide +kernel
theorem dX6_type_38 : decode cX6_type 38 = .ok (.dup, 1) := by decide +kernel
theorem dX6_type_39 : decode cX6_type 39 = .ok (.getfield 123, 3) := by decide +kernel
theorem dX6_type_42 : decode cX6_type 42 = .ok (.iconst 1, 1) := by decide +kernel
theorem dX6_type_43 : decode cX6_type 43 = .ok (.iadd, 1) := by decide +kernel
theorem dX6_type_44 : decode cX6_type 44 = .ok (.putfield 123, 3) := by decide +kernel
theorem dX6_type_47 : decode cX6_type 47 = .ok (.aload_n 0, 1) := by decide +kernel
theorem dX6_type_48 : decode cX6_type 48 = .ok (.getfield 123, 3) := by decide +kernel
theorem dX6_type_51 : decode cX6_type 51 = .ok (.ireturn, 1) := by decide +kernel
theorem dX6_clear_0 : decode cX6_clear 0 = .ok (.aload_n 0, 1) := by decide +kernel
theorem dX6_clear_1 : decode cX6_clear 1 = .ok (.iconst 0, 1) := by decide +kernel
theorem dX6_clear_2 : decode cX6_clear 2 = .ok (.putfield 45, 3) := by decide +kernel
theorem dX6_clear_5 : decode cX6_clear 5 = .ok (.aload_n 0, 1) := by decide +kernel
theorem dX6_clear_6 : decode cX6_clear 6 = .ok (.iconst 0, 1) := by decide +kernel
theorem dX6_clear_7 : decode cX6_clear 7 = .ok (.putfield 123, 3) := by decide +kernel
theorem dX6_clear_10 : decode cX6_clear 10 = .ok (.return_, 1) := by decide +kernel
theorem dX6_character_0 : decode cX6_character 0 = .ok (.aload_n 0, 1) := by decide +kernel
theorem dX6_character_1 : decode cX6_character 1 = .ok (.iconst 0, 1) := by decide +kernel
theorem dX6_character_2 : decode cX6_character 2 = .ok (.putfield 45, 3) := by decide +kernel
theorem dX6_character_5 : decode cX6_character 5 = .ok (.iload_n 1, 1) := by decide +kernel
theorem dX6_character_6 : decode cX6_character 6 = .ok (.ifCond .lt 11, 3) := by decide +kernel
theorem dX6_character_9 : decode cX6_character 9 = .ok (.iload_n 1, 1) := by decide +kernel
theorem dX6_character_10 : decode cX6_character 10 = .ok (.aload_n 0, 1) := by decide +kernel
theorem dX6_character_11 : decode cX6_character 11 = .ok (.getfield 123, 3) := by decide +kernel
theorem dX6_character_14 : decode cX6_character 14 = .ok (.if_icmp .lt 7, 3) := by decide +kernel
theorem dX6_character_17 : decode cX6_character 17 = .ok (.iconst (-1), 1) := by decide +kernel
theorem dX6_character_18 : decode cX6_character 18 = .ok (.goto 9, 3) := by decide +kernel
theorem dX6_character_21 : decode cX6_character 21 = .ok (.aload_n 0, 1) := by decide +kernel
theorem dX6_character_22 : decode cX6_character 22 = .ok (.getfield 31, 3) := by decide +kernel
theorem dX6_character_25 : decode cX6_character 25 = .ok (.iload_n 1, 1) := by decide +kernel
theorem dX6_character_26 : decode cX6_character 26 = .ok (.iaload, 1) := by decide +kernel
theorem dX6_character_27 : decode cX6_character 27 = .ok (.ireturn, 1) := by decide +kernel
theorem dX6_digit_0 : decode cX6_digit 0 = .ok (.iload_n 0, 1) := by decide +kernel
theorem dX6_digit_1 : decode cX6_digit 1 = .ok (.bipush 48, 2) := by decide +kernel
theorem dX6_digit_3 : decode cX6_digit 3 = .ok (.if_icmp .lt 16, 3) := by decide +kernel
theorem dX6_digit_6 : decode cX6_digit 6 = .ok (.iload_n 0, 1) := by decide +kernel
theorem dX6_digit_7 : decode cX6_digit 7 = .ok (.bipush 57, 2) := by decide +kernel
theorem dX6_digit_9 : decode cX6_digit 9 = .ok (.if_icmp .gt 10, 3) := by decide +kernel
theorem dX6_digit_12 : decode cX6_digit 12 = .ok (.iload_n 0, 1) := by decide +kernel
theorem dX6_digit_13 : decode cX6_digit 13 = .ok (.bipush 48, 2) := by decide +kernel
theorem dX6_digit_15 : decode cX6_digit 15 = .ok (.isub, 1) := by decide +kernel
theorem dX6_digit_16 : decode cX6_digit 16 = .ok (.goto 43, 3) := by decide +kernel
theorem dX6_digit_19 : decode cX6_digit 19 = .ok (.iload_n 0, 1) := by decide +kernel
theorem dX6_digit_20 : decode cX6_digit 20 = .ok (.bipush 97, 2) := by decide +kernel
theorem dX6_digit_22 : decode cX6_digit 22 = .ok (.if_icmp .lt 16, 3) := by decide +kernel
theorem dX6_digit_25 : decode cX6_digit 25 = .ok (.iload_n 0, 1) := by decide +kernel
theorem dX6_digit_26 : decode cX6_digit 26 = .ok (.bipush 102, 2) := by decide +kernel
theorem dX6_digit_28 : decode cX6_digit 28 = .ok (.if_icmp .gt 10, 3) := by decide +kernel
theorem dX6_digit_31 : decode cX6_digit 31 = .ok (.iload_n 0, 1) := by decide +kernel
theorem dX6_digit_32 : decode cX6_digit 32 = .ok (.bipush 87, 2) := by decide +kernel
theorem dX6_digit_34 : decode cX6_digit 34 = .ok (.isub, 1) := by decide +kernel
theorem dX6_digit_35 : decode cX6_digit 35 = .ok (.goto 24, 3) := by decide +kernel
theorem dX6_digit_38 : decode cX6_digit 38 = .ok (.iload_n 0, 1) := by decide +kernel
theorem dX6_digit_39 : decode cX6_digit 39 = .ok (.bipush 65, 2) := by decide +kernel
theorem dX6_digit_41 : decode cX6_digit 41 = .ok (.if_icmp .lt 16, 3) := by decide +kernel
theorem dX6_digit_44 : decode cX6_digit 44 = .ok (.iload_n 0, 1) := by decide +kernel
theorem dX6_digit_45 : decode cX6_digit 45 = .ok (.bipush 70, 2) := by decide +kernel
theorem dX6_digit_47 : decode cX6_digit 47 = .ok (.if_icmp .gt 10, 3) := by decide +kernel
theorem dX6_digit_50 : decode cX6_digit 50 = .ok (.iload_n 0, 1) := by decide +kernel
theorem dX6_digit_51 : decode cX6_digit 51 = .ok (.bipush 55, 2) := by decide +kernel
theorem dX6_digit_53 : decode cX6_digit 53 = .ok (.isub, 1) := by decide +kernel
theorem dX6_digit_54 : decode cX6_digit 54 = .ok (.goto 5, 3) := by decide +kernel
theorem dX6_digit_57 : decode cX6_digit 57 = .ok (.bipush 16, 2) := by decide +kernel
theorem dX6_digit_59 : decode cX6_digit 59 = .ok (.istore_n 2, 1) := by decide +kernel
theorem dX6_digit_60 : decode cX6_digit 60 = .ok (.iload_n 2, 1) := by decide +kernel
theorem dX6_digit_61 : decode cX6_digit 61 = .ok (.iload_n 1, 1) := by decide +kernel
theorem dX6_digit_62 : decode cX6_digit 62 = .ok (.if_icmp .ge 7, 3) := by decide +kernel
theorem dX6_digit_65 : decode cX6_digit 65 = .ok (.iload_n 2, 1) := by decide +kernel
theorem dX6_digit_66 : decode cX6_digit 66 = .ok (.goto 4, 3) := by decide +kernel
theorem dX6_digit_69 : decode cX6_digit 69 = .ok (.iconst (-1), 1) := by decide +kernel
theorem dX6_digit_70 : decode cX6_digit 70 = .ok (.ireturn, 1) := by decide +kernel
set_option maxRecDepth 20000 in
theorem ggX6_read_X6_isRegister : GoodIn wsX6_read wsX6_isRegister := goodIn_r _ [9] (by decide +kernel) (by decide +kernel)
set_option maxRecDepth 20000 in
theorem gX6_read_X6_isRegister : GoodIn wsX6_read (va_wsS RX6 77 yX6_isRegister wsX6_isRegister) := goodIn_app (goodIn_of _ (by decide +kernel)) ggX6_read_X6_isRegister
set_option maxRecDepth 20000 in
theorem ggX6_read_X6_digit : GoodIn wsX6_read wsX6_digit := goodIn_r _ [12] (by decide +kernel) (by decide +kernel)
set_option maxRecDepth 20000 in
theorem gX6_read_X6_digit : GoodIn wsX6_read (va_wsS RX6 126 yX6_digit wsX6_digit) := goodIn_app (goodIn_of _ (by decide +kernel)) ggX6_read_X6_digit
set_option maxRecDepth 20000 in
theorem ggX6_read_X6_scaled : GoodIn wsX6_read wsX6_scaled := goodIn_r _ [15] (by decide +kernel) (by decide +kernel)
set_option maxRecDepth 20000 in
theorem gX6_read_X6_scaled : GoodIn wsX6_read (va_wsS RX6 48 yX6_scaled wsX6_scaled) := goodIn_app (goodIn_of _ (by decide +kernel)) ggX6_read_X6_scaled
set_option maxRecDepth 20000 in
theorem ggX6_read_X6_isWithin : GoodIn wsX6_read wsX6_isWithin := goodIn_r _ [19, 20, 21, 22, 23, 8, 24, 48, 49, 50, 51, 52, 53, 54, 55, 56, 57, 58, 59, 60, 61] (by decide +kernel) (by decide +kernel)
set_option maxRecDepth 20000 in
theorem gX6_read_X6_isWithin : GoodIn wsX6_read (wsV RX6 62 RX6 yX6_isWithin wsX6_isWithin) := goodIn_app (goodIn_of _ (by decide +kernel)) ggX6_read_X6_isWithin
set_option maxRecDepth 20000 in
theorem ggX6_read_X6_put : GoodIn wsX6_read wsX6_put := goodIn_r _ [28, 29, 30, 31, 16, 17, 18, 8, 19, 20, 21, 22, 23, 24, 32, 33, 34, 35, 36, 37, 38, 39, 40, 41, 42, 43, 44, 45, 46, 47, 48, 49, 50, 51, 52, 53, 54, 55, 56, 57, 58, 59, 60, 61] (by decide +kernel) (by decide +kernel)
set_option maxRecDepth 20000 in
theorem gX6_read_X6_put : GoodIn wsX6_read (wsV RX6 98 RX6 yX6_put wsX6_put) := goodIn_app (goodIn_of _ (by decide +kernel)) ggX6_read_X6_put
theorem dX6_read_0 : decode cX6_read 0 = .ok (.aload_n 0, 1) := by decide +kernel
theorem dX6_read_1 : decode cX6_read 1 = .ok (.iconst 0, 1) := by decide +kernel
theorem dX6_read_2 : decode cX6_read 2 = .ok (.putfield 45, 3) := by decide +kernel
theorem dX6_read_5 : decode cX6_read 5 = .ok (.iload_n 1, 1) := by decide +kernel
end
section
theorem dX6_read_6 : decode cX6_read 6 = .ok (.invokestatic 77, 3) := by decide +kernel
theorem dX6_read_9 : decode cX6_read 9 = .ok (.ifCond .eq 14, 3) := by decide +kernel
theorem dX6_read_12 : decode cX6_read 12 = .ok (.iload_n 2, 1) := by decide +kernel
theorem dX6_read_13 : decode cX6_read 13 = .ok (.iconst 2, 1) := by decide +kernel
theorem dX6_read_14 : decode cX6_read 14 = .ok (.if_icmp .lt 9, 3) := by decide +kernel
theorem dX6_read_17 : decode cX6_read 17 = .ok (.iload_n 2, 1) := by decide +kernel
theorem dX6_read_18 : decode cX6_read 18 = .ok (.bipush 16, 2) := by decide +kernel
theorem dX6_read_20 : decode cX6_read 20 = .ok (.if_icmp .le 5, 3) := by decide +kernel
theorem dX6_read_23 : decode cX6_read 23 = .ok (.iconst (-1), 1) := by decide +kernel
theorem dX6_read_24 : decode cX6_read 24 = .ok (.ireturn, 1) := by decide +kernel
theorem dX6_read_25 : decode cX6_read 25 = .ok (.aload_n 0, 1) := by decide +kernel
theorem dX6_read_26 : decode cX6_read 26 = .ok (.getfield 123, 3) := by decide +kernel
theorem dX6_read_29 : decode cX6_read 29 = .ok (.ifCond .le 18, 3) := by decide +kernel
theorem dX6_read_32 : decode cX6_read 32 = .ok (.aload_n 0, 1) := by decide +kernel
theorem dX6_read_33 : decode cX6_read 33 = .ok (.getfield 31, 3) := by decide +kernel
theorem dX6_read_36 : decode cX6_read 36 = .ok (.iconst 0, 1) := by decide +kernel
theorem dX6_read_37 : decode cX6_read 37 = .ok (.iaload, 1) := by decide +kernel
theorem dX6_read_38 : decode cX6_read 38 = .ok (.bipush 45, 2) := by decide +kernel
theorem dX6_read_40 : decode cX6_read 40 = .ok (.if_icmp .ne 7, 3) := by decide +kernel
theorem dX6_read_43 : decode cX6_read 43 = .ok (.iconst 1, 1) := by decide +kernel
theorem dX6_read_44 : decode cX6_read 44 = .ok (.goto 4, 3) := by decide +kernel
theorem dX6_read_47 : decode cX6_read 47 = .ok (.iconst 0, 1) := by decide +kernel
theorem dX6_read_48 : decode cX6_read 48 = .ok (.istore_n 3, 1) := by decide +kernel
theorem dX6_read_49 : decode cX6_read 49 = .ok (.iload_n 3, 1) := by decide +kernel
theorem dX6_read_50 : decode cX6_read 50 = .ok (.ifCond .eq 7, 3) := by decide +kernel
theorem dX6_read_53 : decode cX6_read 53 = .ok (.iconst 1, 1) := by decide +kernel
theorem dX6_read_54 : decode cX6_read 54 = .ok (.goto 4, 3) := by decide +kernel
theorem dX6_read_57 : decode cX6_read 57 = .ok (.iconst 0, 1) := by decide +kernel
theorem dX6_read_58 : decode cX6_read 58 = .ok (.istore 4, 2) := by decide +kernel
theorem dX6_read_60 : decode cX6_read 60 = .ok (.aload_n 0, 1) := by decide +kernel
theorem dX6_read_61 : decode cX6_read 61 = .ok (.getfield 123, 3) := by decide +kernel
theorem dX6_read_64 : decode cX6_read 64 = .ok (.iload 4, 2) := by decide +kernel
theorem dX6_read_66 : decode cX6_read 66 = .ok (.if_icmp .ne 5, 3) := by decide +kernel
theorem dX6_read_69 : decode cX6_read 69 = .ok (.iconst (-1), 1) := by decide +kernel
theorem dX6_read_70 : decode cX6_read 70 = .ok (.ireturn, 1) := by decide +kernel
theorem dX6_read_71 : decode cX6_read 71 = .ok (.aload_n 0, 1) := by decide +kernel
theorem dX6_read_72 : decode cX6_read 72 = .ok (.iconst 0, 1) := by decide +kernel
theorem dX6_read_73 : decode cX6_read 73 = .ok (.putfield 55, 3) := by decide +kernel
theorem dX6_read_76 : decode cX6_read 76 = .ok (.iload 4, 2) := by decide +kernel
theorem dX6_read_78 : decode cX6_read 78 = .ok (.istore 5, 2) := by decide +kernel
theorem dX6_read_80 : decode cX6_read 80 = .ok (.iload 5, 2) := by decide +kernel
theorem dX6_read_82 : decode cX6_read 82 = .ok (.aload_n 0, 1) := by decide +kernel
theorem dX6_read_83 : decode cX6_read 83 = .ok (.getfield 123, 3) := by decide +kernel
theorem dX6_read_86 : decode cX6_read 86 = .ok (.if_icmp .ge 64, 3) := by decide +kernel
theorem dX6_read_89 : decode cX6_read 89 = .ok (.aload_n 0, 1) := by decide +kernel
theorem dX6_read_90 : decode cX6_read 90 = .ok (.getfield 31, 3) := by decide +kernel
theorem dX6_read_93 : decode cX6_read 93 = .ok (.iload 5, 2) := by decide +kernel
theorem dX6_read_95 : decode cX6_read 95 = .ok (.iaload, 1) := by decide +kernel
theorem dX6_read_96 : decode cX6_read 96 = .ok (.iload_n 2, 1) := by decide +kernel
theorem dX6_read_97 : decode cX6_read 97 = .ok (.invokestatic 126, 3) := by decide +kernel
theorem dX6_read_100 : decode cX6_read 100 = .ok (.istore 6, 2) := by decide +kernel
theorem dX6_read_102 : decode cX6_read 102 = .ok (.iload 6, 2) := by decide +kernel
theorem dX6_read_104 : decode cX6_read 104 = .ok (.ifCond .ge 5, 3) := by decide +kernel
theorem dX6_read_107 : decode cX6_read 107 = .ok (.iconst (-1), 1) := by decide +kernel
theorem dX6_read_108 : decode cX6_read 108 = .ok (.ireturn, 1) := by decide +kernel
theorem dX6_read_109 : decode cX6_read 109 = .ok (.aload_n 0, 1) := by decide +kernel
theorem dX6_read_110 : decode cX6_read 110 = .ok (.aload_n 0, 1) := by decide +kernel
theorem dX6_read_111 : decode cX6_read 111 = .ok (.getfield 25, 3) := by decide +kernel
theorem dX6_read_114 : decode cX6_read 114 = .ok (.aload_n 0, 1) := by decide +kernel
theorem dX6_read_115 : decode cX6_read 115 = .ok (.getfield 55, 3) := by decide +kernel
theorem dX6_read_118 : decode cX6_read 118 = .ok (.iload_n 2, 1) := by decide +kernel
theorem dX6_read_119 : decode cX6_read 119 = .ok (.iload 6, 2) := by decide +kernel
theorem dX6_read_121 : decode cX6_read 121 = .ok (.invokestatic 48, 3) := by decide +kernel
theorem dX6_read_124 : decode cX6_read 124 = .ok (.putfield 55, 3) := by decide +kernel
theorem dX6_read_127 : decode cX6_read 127 = .ok (.aload_n 0, 1) := by decide +kernel
theorem dX6_read_128 : decode cX6_read 128 = .ok (.aload_n 0, 1) := by decide +kernel
theorem dX6_read_129 : decode cX6_read 129 = .ok (.getfield 25, 3) := by decide +kernel
theorem dX6_read_132 : decode cX6_read 132 = .ok (.aload_n 0, 1) := by decide +kernel
theorem dX6_read_133 : decode cX6_read 133 = .ok (.getfield 55, 3) := by decide +kernel
theorem dX6_read_136 : decode cX6_read 136 = .ok (.invokevirtual 62, 3) := by decide +kernel
theorem dX6_read_139 : decode cX6_read 139 = .ok (.ifCond .ne 5, 3) := by decide +kernel
theorem dX6_read_142 : decode cX6_read 142 = .ok (.iconst (-1), 1) := by decide +kernel
theorem dX6_read_143 : decode cX6_read 143 = .ok (.ireturn, 1) := by decide +kernel
theorem dX6_read_144 : decode cX6_read 144 = .ok (.iinc 5 1, 3) := by decide +kernel
theorem dX6_read_147 : decode cX6_read 147 = .ok (.goto (-67), 3) := by decide +kernel
theorem dX6_read_150 : decode cX6_read 150 = .ok (.aload_n 0, 1) := by decide +kernel
theorem dX6_read_151 : decode cX6_read 151 = .ok (.iload_n 1, 1) := by decide +kernel
theorem dX6_read_152 : decode cX6_read 152 = .ok (.aload_n 0, 1) := by decide +kernel
theorem dX6_read_153 : decode cX6_read 153 = .ok (.getfield 25, 3) := by decide +kernel
theorem dX6_read_156 : decode cX6_read 156 = .ok (.aload_n 0, 1) := by decide +kernel
theorem dX6_read_157 : decode cX6_read 157 = .ok (.getfield 55, 3) := by decide +kernel
theorem dX6_read_160 : decode cX6_read 160 = .ok (.iload_n 3, 1) := by decide +kernel
theorem dX6_read_161 : decode cX6_read 161 = .ok (.ifCond .eq 7, 3) := by decide +kernel
theorem dX6_read_164 : decode cX6_read 164 = .ok (.iconst (-1), 1) := by decide +kernel
theorem dX6_read_165 : decode cX6_read 165 = .ok (.goto 4, 3) := by decide +kernel
theorem dX6_read_168 : decode cX6_read 168 = .ok (.iconst 1, 1) := by decide +kernel
theorem dX6_read_169 : decode cX6_read 169 = .ok (.invokevirtual 98, 3) := by decide +kernel
theorem dX6_read_172 : decode cX6_read 172 = .ok (.ireturn, 1) := by decide +kernel
theorem dJ6_numberOfLeadingZeros_0f7a4_0 : decode cJ6_numberOfLeadingZeros_0f7a4 0 = .ok (.iload_n 0, 1) := by decide +kernel
theorem dJ6_numberOfLeadingZeros_0f7a4_1 : decode cJ6_numberOfLeadingZeros_0f7a4 1 = .ok (.ifCond .gt 14, 3) := by decide +kernel
theorem dJ6_numberOfLeadingZeros_0f7a4_4 : decode cJ6_numberOfLeadingZeros_0f7a4 4 = .ok (.iload_n 0, 1) := by decide +kernel
theorem dJ6_numberOfLeadingZeros_0f7a4_5 : decode cJ6_numberOfLeadingZeros_0f7a4 5 = .ok (.ifCond .ne 8, 3) := by decide +kernel
theorem dJ6_numberOfLeadingZeros_0f7a4_8 : decode cJ6_numberOfLeadingZeros_0f7a4 8 = .ok (.bipush 32, 2) := by decide +kernel
theorem dJ6_numberOfLeadingZeros_0f7a4_10 : decode cJ6_numberOfLeadingZeros_0f7a4 10 = .ok (.goto 4, 3) := by decide +kernel
theorem dJ6_numberOfLeadingZeros_0f7a4_13 : decode cJ6_numberOfLeadingZeros_0f7a4 13 = .ok (.iconst 0, 1) := by decide +kernel
theorem dJ6_numberOfLeadingZeros_0f7a4_14 : decode cJ6_numberOfLeadingZeros_0f7a4 14 = .ok (.ireturn, 1) := by decide +kernel
theorem dJ6_numberOfLeadingZeros_0f7a4_15 : decode cJ6_numberOfLeadingZeros_0f7a4 15 = .ok (.bipush 31, 2) := by decide +kernel
theorem dJ6_numberOfLeadingZeros_0f7a4_17 : decode cJ6_numberOfLeadingZeros_0f7a4 17 = .ok (.istore_n 1, 1) := by decide +kernel
theorem dJ6_numberOfLeadingZeros_0f7a4_18 : decode cJ6_numberOfLeadingZeros_0f7a4 18 = .ok (.iload_n 0, 1) := by decide +kernel
theorem dJ6_numberOfLeadingZeros_0f7a4_19 : decode cJ6_numberOfLeadingZeros_0f7a4 19 = .ok (.ldc_w 264, 3) := by decide +kernel
theorem dJ6_numberOfLeadingZeros_0f7a4_22 : decode cJ6_numberOfLeadingZeros_0f7a4 22 = .ok (.if_icmp .lt 11, 3) := by decide +kernel
theorem dJ6_numberOfLeadingZeros_0f7a4_25 : decode cJ6_numberOfLeadingZeros_0f7a4 25 = .ok (.iinc 1 (-16), 3) := by decide +kernel
theorem dJ6_numberOfLeadingZeros_0f7a4_28 : decode cJ6_numberOfLeadingZeros_0f7a4 28 = .ok (.iload_n 0, 1) := by decide +kernel
theorem dJ6_numberOfLeadingZeros_0f7a4_29 : decode cJ6_numberOfLeadingZeros_0f7a4 29 = .ok (.bipush 16, 2) := by decide +kernel
theorem dJ6_numberOfLeadingZeros_0f7a4_31 : decode cJ6_numberOfLeadingZeros_0f7a4 31 = .ok (.iushr, 1) := by decide +kernel
theorem dJ6_numberOfLeadingZeros_0f7a4_32 : decode cJ6_numberOfLeadingZeros_0f7a4 32 = .ok (.istore_n 0, 1) := by decide +kernel
theorem dJ6_numberOfLeadingZeros_0f7a4_33 : decode cJ6_numberOfLeadingZeros_0f7a4 33 = .ok (.iload_n 0, 1) := by decide +kernel
theorem dJ6_numberOfLeadingZeros_0f7a4_34 : decode cJ6_numberOfLeadingZeros_0f7a4 34 = .ok (.sipush 256, 3) := by decide +kernel
theorem dJ6_numberOfLeadingZeros_0f7a4_37 : decode cJ6_numberOfLeadingZeros_0f7a4 37 = .ok (.if_icmp .lt 11, 3) := by decide +kernel
theorem dJ6_numberOfLeadingZeros_0f7a4_40 : decode cJ6_numberOfLeadingZeros_0f7a4 40 = .ok (.iinc 1 (-8), 3) := by decide +kernel
theorem dJ6_numberOfLeadingZeros_0f7a4_43 : decode cJ6_numberOfLeadingZeros_0f7a4 43 = .ok (.iload_n 0, 1) := by decide +kernel
theorem dJ6_numberOfLeadingZeros_0f7a4_44 : decode cJ6_numberOfLeadingZeros_0f7a4 44 = .ok (.bipush 8, 2) := by decide +kernel
theorem dJ6_numberOfLeadingZeros_0f7a4_46 : decode cJ6_numberOfLeadingZeros_0f7a4 46 = .ok (.iushr, 1) := by decide +kernel
theorem dJ6_numberOfLeadingZeros_0f7a4_47 : decode cJ6_numberOfLeadingZeros_0f7a4 47 = .ok (.istore_n 0, 1) := by decide +kernel
theorem dJ6_numberOfLeadingZeros_0f7a4_48 : decode cJ6_numberOfLeadingZeros_0f7a4 48 = .ok (.iload_n 0, 1) := by decide +kernel
theorem dJ6_numberOfLeadingZeros_0f7a4_49 : decode cJ6_numberOfLeadingZeros_0f7a4 49 = .ok (.bipush 16, 2) := by decide +kernel
theorem dJ6_numberOfLeadingZeros_0f7a4_51 : decode cJ6_numberOfLeadingZeros_0f7a4 51 = .ok (.if_icmp .lt 10, 3) := by decide +kernel
theorem dJ6_numberOfLeadingZeros_0f7a4_54 : decode cJ6_numberOfLeadingZeros_0f7a4 54 = .ok (.iinc 1 (-4), 3) := by decide +kernel
theorem dJ6_numberOfLeadingZeros_0f7a4_57 : decode cJ6_numberOfLeadingZeros_0f7a4 57 = .ok (.iload_n 0, 1) := by decide +kernel
theorem dJ6_numberOfLeadingZeros_0f7a4_58 : decode cJ6_numberOfLeadingZeros_0f7a4 58 = .ok (.iconst 4, 1) := by decide +kernel
theorem dJ6_numberOfLeadingZeros_0f7a4_59 : decode cJ6_numberOfLeadingZeros_0f7a4 59 = .ok (.iushr, 1) := by decide +kernel
theorem dJ6_numberOfLeadingZeros_0f7a4_60 : decode cJ6_numberOfLeadingZeros_0f7a4 60 = .ok (.istore_n 0, 1) := by decide +kernel
theorem dJ6_numberOfLeadingZeros_0f7a4_61 : decode cJ6_numberOfLeadingZeros_0f7a4 61 = .ok (.iload_n 0, 1) := by decide +kernel
theorem dJ6_numberOfLeadingZeros_0f7a4_62 : decode cJ6_numberOfLeadingZeros_0f7a4 62 = .ok (.iconst 4, 1) := by decide +kernel
theorem dJ6_numberOfLeadingZeros_0f7a4_63 : decode cJ6_numberOfLeadingZeros_0f7a4 63 = .ok (.if_icmp .lt 10, 3) := by decide +kernel
theorem dJ6_numberOfLeadingZeros_0f7a4_66 : decode cJ6_numberOfLeadingZeros_0f7a4 66 = .ok (.iinc 1 (-2), 3) := by decide +kernel
theorem dJ6_numberOfLeadingZeros_0f7a4_69 : decode cJ6_numberOfLeadingZeros_0f7a4 69 = .ok (.iload_n 0, 1) := by decide +kernel
theorem dJ6_numberOfLeadingZeros_0f7a4_70 : decode cJ6_numberOfLeadingZeros_0f7a4 70 = .ok (.iconst 2, 1) := by decide +kernel
theorem dJ6_numberOfLeadingZeros_0f7a4_71 : decode cJ6_numberOfLeadingZeros_0f7a4 71 = .ok (.iushr, 1) := by decide +kernel
theorem dJ6_numberOfLeadingZeros_0f7a4_72 : decode cJ6_numberOfLeadingZeros_0f7a4 72 = .ok (.istore_n 0, 1) := by decide +kernel
theorem dJ6_numberOfLeadingZeros_0f7a4_73 : decode cJ6_numberOfLeadingZeros_0f7a4 73 = .ok (.iload_n 1, 1) := by decide +kernel
theorem dJ6_numberOfLeadingZeros_0f7a4_74 : decode cJ6_numberOfLeadingZeros_0f7a4 74 = .ok (.iload_n 0, 1) := by decide +kernel
theorem dJ6_numberOfLeadingZeros_0f7a4_75 : decode cJ6_numberOfLeadingZeros_0f7a4 75 = .ok (.iconst 1, 1) := by decide +kernel
theorem dJ6_numberOfLeadingZeros_0f7a4_76 : decode cJ6_numberOfLeadingZeros_0f7a4 76 = .ok (.iushr, 1) := by decide +kernel
theorem dJ6_numberOfLeadingZeros_0f7a4_77 : decode cJ6_numberOfLeadingZeros_0f7a4 77 = .ok (.isub, 1) := by decide +kernel
theorem dJ6_numberOfLeadingZeros_0f7a4_78 : decode cJ6_numberOfLeadingZeros_0f7a4 78 = .ok (.ireturn, 1) := by decide +kernel
theorem dJ9_max_7cf53_0 : decode cJ9_max_7cf53 0 = .ok (.iload_n 0, 1) := by decide +kernel
theorem dJ9_max_7cf53_1 : decode cJ9_max_7cf53 1 = .ok (.iload_n 1, 1) := by decide +kernel
theorem dJ9_max_7cf53_2 : decode cJ9_max_7cf53 2 = .ok (.if_icmp .lt 7, 3) := by decide +kernel
theorem dJ9_max_7cf53_5 : decode cJ9_max_7cf53 5 = .ok (.iload_n 0, 1) := by decide +kernel
theorem dJ9_max_7cf53_6 : decode cJ9_max_7cf53 6 = .ok (.goto 4, 3) := by decide +kernel
theorem dJ9_max_7cf53_9 : decode cJ9_max_7cf53 9 = .ok (.iload_n 1, 1) := by decide +kernel
theorem dJ9_max_7cf53_10 : decode cJ9_max_7cf53 10 = .ok (.ireturn, 1) := by decide +kernel
theorem dJ9_min_7cf53_0 : decode cJ9_min_7cf53 0 = .ok (.iload_n 0, 1) := by decide +kernel
theorem dJ9_min_7cf53_1 : decode cJ9_min_7cf53 1 = .ok (.iload_n 1, 1) := by decide +kernel
theorem dJ9_min_7cf53_2 : decode cJ9_min_7cf53 2 = .ok (.if_icmp .gt 7, 3) := by decide +kernel
theorem dJ9_min_7cf53_5 : decode cJ9_min_7cf53 5 = .ok (.iload_n 0, 1) := by decide +kernel
theorem dJ9_min_7cf53_6 : decode cJ9_min_7cf53 6 = .ok (.goto 4, 3) := by decide +kernel
theorem dJ9_min_7cf53_9 : decode cJ9_min_7cf53 9 = .ok (.iload_n 1, 1) := by decide +kernel
theorem dJ9_min_7cf53_10 : decode cJ9_min_7cf53 10 = .ok (.ireturn, 1) := by decide +kernel
set_option maxRecDepth 20000 in
theorem ggL_divide_X5_divide : GoodIn wsL_divide wsX5_divide := goodIn_ca (goodIn_r _ [6, 7, 8, 9, 10, 11, 12, 13, 14, 15, 5, 16, 17, 18, 19, 20, 21, 22, 23, 24, 25, 26, 27, 28, 29, 30, 31, 32, 33, 34, 35, 36, 37, 38, 39, 40, 41, 42, 43, 44, 45, 46, 47, 48, 49, 50, 51, 52, 53, 54, 55, 56, 57, 58, 59, 60, 61, 62, 63, 64, 65, 66, 67, 68, 69, 70, 71, 72, 73, 74, 75, 76, 77, 78, 79, 80, 81, 82, 83, 84, 85, 86, 87, 88, 89, 90, 91, 92, 93, 94, 95, 96, 97, 98, 99, 100, 101, 102, 103, 104, 105, 106, 107, 108, 109, 110, 111, 112, 113, 114, 115, 116, 117, 118, 119, 120, 121, 122, 123, 124, 125, 126, 127, 128, 129, 130, 131, 132, 133, 134, 135, 136, 137, 138, 139, 140, 141, 142, 143, 144, 145, 146, 147, 148, 149, 150, 151, 152, 153, 154, 155, 156, 157] (by decide +kernel) (by decide +kernel)) (goodIn_sub (fun _ h => List.mem_cons_of_mem _ (List.mem_append_right _ h)) (by decide +kernel))
set_option maxRecDepth 20000 in
theorem gL_divide_X5_divide : GoodIn wsL_divide (wsV RL 7 RX5 yX5_divide wsX5_divide) := goodIn_app (goodIn_of _ (by decide +kernel)) ggL_divide_X5_divide
theorem dL_divide_0 : decode cL_divide 0 = .ok (.aload 6, 2) := by decide +kernel
theorem dL_divide_2 : decode cL_divide 2 = .ok (.iconst 0, 1) := by decide +kernel
theorem dL_divide_3 : decode cL_divide 3 = .ok (.aload_n 0, 1) := by decide +kernel
theorem dL_divide_4 : decode cL_divide 4 = .ok (.iload_n 1, 1) := by decide +kernel
theorem dL_divide_5 : decode cL_divide 5 = .ok (.iload_n 2, 1) := by decide +kernel
theorem dL_divide_6 : decode cL_divide 6 = .ok (.iload_n 3, 1) := by decide +kernel
theorem dL_divide_7 : decode cL_divide 7 = .ok (.iload 4, 2) := by decide +kernel
theorem dL_divide_9 : decode cL_divide 9 = .ok (.iload 5, 2) := by decide +kernel
theorem dL_divide_11 : decode cL_divide 11 = .ok (.invokevirtual 7, 3) := by decide +kernel
theorem dL_divide_14 : decode cL_divide 14 = .ok (.i2l, 1) := by decide +kernel
theorem dL_divide_15 : decode cL_divide 15 = .ok (.lastore, 1) := by decide +kernel
theorem dL_divide_16 : decode cL_divide 16 = .ok (.goto 7, 3) := by decide +kernel
theorem dL_divide_19 : decode cL_divide 19 = .ok (.astore 7, 2) := by decide +kernel
theorem dL_divide_21 : decode cL_divide 21 = .ok (.iconst 1, 1) := by decide +kernel
theorem dL_divide_22 : decode cL_divide 22 = .ok (.ireturn, 1) := by decide +kernel
theorem dL_divide_23 : decode cL_divide 23 = .ok (.iconst 0, 1) := by decide +kernel
theorem dL_divide_24 : decode cL_divide 24 = .ok (.ireturn, 1) := by decide +kernel
set_option maxRecDepth 20000 in
theorem ggL_root_X5_root : GoodIn wsL_root wsX5_root := goodIn_ca (goodIn_r _ [6, 7, 8, 9, 10, 11, 12, 13, 5, 14, 15, 16, 17, 18, 19, 20, 21, 22, 23, 24, 25, 26, 27, 28, 29, 30, 31, 32, 33, 34, 35, 36, 37, 38, 39, 40, 41, 42, 43, 44, 45, 46, 47, 48, 49, 50, 51, 52, 53, 54, 55, 56, 57, 58, 59, 60, 61, 62, 63, 64, 65, 66, 67, 68, 69, 70, 71, 72, 73, 74, 75, 76, 77, 78, 79, 80, 81, 82, 83, 84, 85, 86, 87, 88, 89, 90, 91, 92, 93, 94, 95, 96, 97, 98, 99, 100, 101, 102, 103, 104, 105, 106, 107, 108, 109, 110, 111, 112, 113, 114, 115, 116, 117, 118, 119, 120, 121, 122, 123, 124, 125, 126, 127, 128, 129, 130, 131, 132, 133, 134, 135, 136, 137, 138, 139, 140, 141, 142, 143, 144, 145, 146, 147, 148, 149, 150, 151, 152, 153, 154, 155, 156, 157, 158] (by decide +kernel) (by decide +kernel)) (goodIn_sub (fun _ h => List.mem_cons_of_mem _ (List.mem_append_right _ h)) (by decide +kernel))
set_option maxRecDepth 20000 in
theorem gL_root_X5_root : GoodIn wsL_root (wsV RL 15 RX5 yX5_root wsX5_root) := goodIn_app (goodIn_of _ (by decide +kernel)) ggL_root_X5_root
theorem dL_root_0 : decode cL_root 0 = .ok (.aload_n 3, 1) := by decide +kernel
theorem dL_root_1 : decode cL_root 1 = .ok (.iconst 0, 1) := by decide +kernel
theorem dL_root_2 : decode cL_root 2 = .ok (.aload_n 0, 1) := by decide +kernel
theorem dL_root_3 : decode cL_root 3 = .ok (.iload_n 1, 1) := by decide +kernel
theorem dL_root_4 : decode cL_root 4 = .ok (.iload_n 2, 1) := by decide +kernel
theorem dL_root_5 : decode cL_root 5 = .ok (.invokevirtual 15, 3) := by decide +kernel
theorem dL_root_8 : decode cL_root 8 = .ok (.i2l, 1) := by decide +kernel
theorem dL_root_9 : decode cL_root 9 = .ok (.lastore, 1) := by decide +kernel
theorem dL_root_10 : decode cL_root 10 = .ok (.goto 7, 3) := by decide +kernel
theorem dL_root_13 : decode cL_root 13 = .ok (.astore 4, 2) := by decide +kernel
theorem dL_root_15 : decode cL_root 15 = .ok (.iconst 1, 1) := by decide +kernel
theorem dL_root_16 : decode cL_root 16 = .ok (.ireturn, 1) := by decide +kernel
theorem dL_root_17 : decode cL_root 17 = .ok (.iconst 0, 1) := by decide +kernel
theorem dL_root_18 : decode cL_root 18 = .ok (.ireturn, 1) := by decide +kernel
theorem dL_law_0 : decode cL_law 0 = .ok (.new 8, 3) := by decide +kernel
theorem dL_law_3 : decode cL_law 3 = .ok (.dup, 1) := by decide +kernel
theorem dL_law_4 : decode cL_law 4 = .ok (.invokespecial 21, 3) := by decide +kernel
theorem dL_law_7 : decode cL_law 7 = .ok (.astore_n 1, 1) := by decide +kernel
theorem dL_law_8 : decode cL_law 8 = .ok (.new 22, 3) := by decide +kernel
theorem dL_law_11 : decode cL_law 11 = .ok (.dup, 1) := by decide +kernel
theorem dL_law_12 : decode cL_law 12 = .ok (.invokespecial 24, 3) := by decide +kernel
theorem dL_law_15 : decode cL_law 15 = .ok (.astore_n 2, 1) := by decide +kernel
theorem dL_law_16 : decode cL_law 16 = .ok (.iconst 1, 1) := by decide +kernel
theorem dL_law_17 : decode cL_law 17 = .ok (.newarray .long, 2) := by decide +kernel
theorem dL_law_19 : decode cL_law 19 = .ok (.astore_n 3, 1) := by decide +kernel
theorem dL_law_20 : decode cL_law 20 = .ok (.iconst 0, 1) := by decide +kernel
theorem dL_law_21 : decode cL_law 21 = .ok (.istore 4, 2) := by decide +kernel
theorem dL_law_23 : decode cL_law 23 = .ok (.iload 4, 2) := by decide +kernel
theorem dL_law_25 : decode cL_law 25 = .ok (.aload_n 0, 1) := by decide +kernel
theorem dL_law_26 : decode cL_law 26 = .ok (.arraylength, 1) := by decide +kernel
theorem dL_law_27 : decode cL_law 27 = .ok (.bipush 6, 2) := by decide +kernel
theorem dL_law_29 : decode cL_law 29 = .ok (.isub, 1) := by decide +kernel
theorem dL_law_30 : decode cL_law 30 = .ok (.if_icmp .gt 920, 3) := by decide +kernel
theorem dL_law_33 : decode cL_law 33 = .ok (.aload_n 0, 1) := by decide +kernel
theorem dL_law_34 : decode cL_law 34 = .ok (.iload 4, 2) := by decide +kernel
theorem dL_law_36 : decode cL_law 36 = .ok (.iaload, 1) := by decide +kernel
theorem dL_law_37 : decode cL_law 37 = .ok (.bipush 31, 2) := by decide +kernel
theorem dL_law_39 : decode cL_law 39 = .ok (.iand, 1) := by decide +kernel
theorem dL_law_40 : decode cL_law 40 = .ok (.tableswitch 904 0 18 #[92, 161, 222, 342, 391, 459, 508, 557, 594, 619, 644, 681, 718, 744, 769, 806, 831, 842, 867], 92) := by decide +kernel
theorem dL_law_132 : decode cL_law 132 = .ok (.aload_n 1, 1) := by decide +kernel
theorem dL_law_133 : decode cL_law 133 = .ok (.aload_n 0, 1) := by decide +kernel
theorem dL_law_134 : decode cL_law 134 = .ok (.iload 4, 2) := by decide +kernel
theorem dL_law_136 : decode cL_law 136 = .ok (.iconst 1, 1) := by decide +kernel
theorem dL_law_137 : decode cL_law 137 = .ok (.iadd, 1) := by decide +kernel
theorem dL_law_138 : decode cL_law 138 = .ok (.iaload, 1) := by decide +kernel
theorem dL_law_139 : decode cL_law 139 = .ok (.aload_n 0, 1) := by decide +kernel
theorem dL_law_140 : decode cL_law 140 = .ok (.iload 4, 2) := by decide +kernel
theorem dL_law_142 : decode cL_law 142 = .ok (.iconst 2, 1) := by decide +kernel
theorem dL_law_143 : decode cL_law 143 = .ok (.iadd, 1) := by decide +kernel
theorem dL_law_144 : decode cL_law 144 = .ok (.iaload, 1) := by decide +kernel
theorem dL_law_145 : decode cL_law 145 = .ok (.i2l, 1) := by decide +kernel
theorem dL_law_146 : decode cL_law 146 = .ok (.bipush 32, 2) := by decide +kernel
theorem dL_law_148 : decode cL_law 148 = .ok (.lshl, 1) := by decide +kernel
theorem dL_law_149 : decode cL_law 149 = .ok (.aload_n 0, 1) := by decide +kernel
theorem dL_law_150 : decode cL_law 150 = .ok (.iload 4, 2) := by decide +kernel
theorem dL_law_152 : decode cL_law 152 = .ok (.iconst 3, 1) := by decide +kernel
theorem dL_law_153 : decode cL_law 153 = .ok (.iadd, 1) := by decide +kernel
theorem dL_law_154 : decode cL_law 154 = .ok (.iaload, 1) := by decide +kernel
theorem dL_law_155 : decode cL_law 155 = .ok (.i2l, 1) := by decide +kernel
theorem dL_law_156 : decode cL_law 156 = .ok (.ldc2_w 25, 3) := by decide +kernel
theorem dL_law_159 : decode cL_law 159 = .ok (.land, 1) := by decide +kernel
theorem dL_law_160 : decode cL_law 160 = .ok (.lor, 1) := by decide +kernel
theorem dL_law_161 : decode cL_law 161 = .ok (.invokevirtual 27, 3) := by decide +kernel
theorem dL_law_164 : decode cL_law 164 = .ok (.aload_n 2, 1) := by decide +kernel
theorem dL_law_165 : decode cL_law 165 = .ok (.aload_n 0, 1) := by decide +kernel
theorem dL_law_166 : decode cL_law 166 = .ok (.iload 4, 2) := by decide +kernel
theorem dL_law_168 : decode cL_law 168 = .ok (.iconst 1, 1) := by decide +kernel
theorem dL_law_169 : decode cL_law 169 = .ok (.iadd, 1) := by decide +kernel
theorem dL_law_170 : decode cL_law 170 = .ok (.iaload, 1) := by decide +kernel
theorem dL_law_171 : decode cL_law 171 = .ok (.aload_n 0, 1) := by decide +kernel
theorem dL_law_172 : decode cL_law 172 = .ok (.iload 4, 2) := by decide +kernel
theorem dL_law_174 : decode cL_law 174 = .ok (.iconst 2, 1) := by decide +kernel
theorem dL_law_175 : decode cL_law 175 = .ok (.iadd, 1) := by decide +kernel
theorem dL_law_176 : decode cL_law 176 = .ok (.iaload, 1) := by decide +kernel
theorem dL_law_177 : decode cL_law 177 = .ok (.i2l, 1) := by decide +kernel
theorem dL_law_178 : decode cL_law 178 = .ok (.bipush 32, 2) := by decide +kernel
theorem dL_law_180 : decode cL_law 180 = .ok (.lshl, 1) := by decide +kernel
theorem dL_law_181 : decode cL_law 181 = .ok (.aload_n 0, 1) := by decide +kernel
theorem dL_law_182 : decode cL_law 182 = .ok (.iload 4, 2) := by decide +kernel
theorem dL_law_184 : decode cL_law 184 = .ok (.iconst 3, 1) := by decide +kernel
theorem dL_law_185 : decode cL_law 185 = .ok (.iadd, 1) := by decide +kernel
theorem dL_law_186 : decode cL_law 186 = .ok (.iaload, 1) := by decide +kernel
theorem dL_law_187 : decode cL_law 187 = .ok (.i2l, 1) := by decide +kernel
theorem dL_law_188 : decode cL_law 188 = .ok (.ldc2_w 25, 3) := by decide +kernel
theorem dL_law_191 : decode cL_law 191 = .ok (.land, 1) := by decide +kernel
theorem dL_law_192 : decode cL_law 192 = .ok (.lor, 1) := by decide +kernel
theorem dL_law_193 : decode cL_law 193 = .ok (.invokevirtual 31, 3) := by decide +kernel
theorem dL_law_196 : decode cL_law 196 = .ok (.if_icmp .eq 748, 3) := by decide +kernel
theorem dL_law_199 : decode cL_law 199 = .ok (.iconst 0, 1) := by decide +kernel
theorem dL_law_200 : decode cL_law 200 = .ok (.ireturn, 1) := by decide +kernel
theorem dL_law_201 : decode cL_law 201 = .ok (.aload_n 1, 1) := by decide +kernel
theorem dL_law_202 : decode cL_law 202 = .ok (.aload_n 0, 1) := by decide +kernel
theorem dL_law_203 : decode cL_law 203 = .ok (.iload 4, 2) := by decide +kernel
theorem dL_law_205 : decode cL_law 205 = .ok (.iconst 1, 1) := by decide +kernel
theorem dL_law_206 : decode cL_law 206 = .ok (.iadd, 1) := by decide +kernel
theorem dL_law_207 : decode cL_law 207 = .ok (.iaload, 1) := by decide +kernel
theorem dL_law_208 : decode cL_law 208 = .ok (.aload_n 0, 1) := by decide +kernel
theorem dL_law_209 : decode cL_law 209 = .ok (.iload 4, 2) := by decide +kernel
theorem dL_law_211 : decode cL_law 211 = .ok (.iconst 2, 1) := by decide +kernel
theorem dL_law_212 : decode cL_law 212 = .ok (.iadd, 1) := by decide +kernel
theorem dL_law_213 : decode cL_law 213 = .ok (.iaload, 1) := by decide +kernel
theorem dL_law_214 : decode cL_law 214 = .ok (.aload_n 0, 1) := by decide +kernel
theorem dL_law_215 : decode cL_law 215 = .ok (.iload 4, 2) := by decide +kernel
theorem dL_law_217 : decode cL_law 217 = .ok (.iconst 3, 1) := by decide +kernel
theorem dL_law_218 : decode cL_law 218 = .ok (.iadd, 1) := by decide +kernel
theorem dL_law_219 : decode cL_law 219 = .ok (.iaload, 1) := by decide +kernel
theorem dL_law_220 : decode cL_law 220 = .ok (.aload_n 0, 1) := by decide +kernel
theorem dL_law_221 : decode cL_law 221 = .ok (.iload 4, 2) := by decide +kernel
theorem dL_law_223 : decode cL_law 223 = .ok (.iconst 4, 1) := by decide +kernel
theorem dL_law_224 : decode cL_law 224 = .ok (.iadd, 1) := by decide +kernel
theorem dL_law_225 : decode cL_law 225 = .ok (.iaload, 1) := by decide +kernel
theorem dL_law_226 : decode cL_law 226 = .ok (.invokevirtual 32, 3) := by decide +kernel
theorem dL_law_229 : decode cL_law 229 = .ok (.aload_n 2, 1) := by decide +kernel
theorem dL_law_230 : decode cL_law 230 = .ok (.aload_n 0, 1) := by decide +kernel
theorem dL_law_231 : decode cL_law 231 = .ok (.iload 4, 2) := by decide +kernel
theorem dL_law_233 : decode cL_law 233 = .ok (.iconst 1, 1) := by decide +kernel
theorem dL_law_234 : decode cL_law 234 = .ok (.iadd, 1) := by decide +kernel
theorem dL_law_235 : decode cL_law 235 = .ok (.iaload, 1) := by decide +kernel
theorem dL_law_236 : decode cL_law 236 = .ok (.aload_n 0, 1) := by decide +kernel
theorem dL_law_237 : decode cL_law 237 = .ok (.iload 4, 2) := by decide +kernel
theorem dL_law_239 : decode cL_law 239 = .ok (.iconst 2, 1) := by decide +kernel
theorem dL_law_240 : decode cL_law 240 = .ok (.iadd, 1) := by decide +kernel
theorem dL_law_241 : decode cL_law 241 = .ok (.iaload, 1) := by decide +kernel
theorem dL_law_242 : decode cL_law 242 = .ok (.aload_n 0, 1) := by decide +kernel
theorem dL_law_243 : decode cL_law 243 = .ok (.iload 4, 2) := by decide +kernel
theorem dL_law_245 : decode cL_law 245 = .ok (.iconst 3, 1) := by decide +kernel
theorem dL_law_246 : decode cL_law 246 = .ok (.iadd, 1) := by decide +kernel
theorem dL_law_247 : decode cL_law 247 = .ok (.iaload, 1) := by decide +kernel
theorem dL_law_248 : decode cL_law 248 = .ok (.aload_n 0, 1) := by decide +kernel
theorem dL_law_249 : decode cL_law 249 = .ok (.iload 4, 2) := by decide +kernel
theorem dL_law_251 : decode cL_law 251 = .ok (.iconst 4, 1) := by decide +kernel
theorem dL_law_252 : decode cL_law 252 = .ok (.iadd, 1) := by decide +kernel
theorem dL_law_253 : decode cL_law 253 = .ok (.iaload, 1) := by decide +kernel
theorem dL_law_254 : decode cL_law 254 = .ok (.invokevirtual 36, 3) := by decide +kernel
theorem dL_law_257 : decode cL_law 257 = .ok (.if_icmp .eq 687, 3) := by decide +kernel
theorem dL_law_260 : decode cL_law 260 = .ok (.iconst 0, 1) := by decide +kernel
theorem dL_law_261 : decode cL_law 261 = .ok (.ireturn, 1) := by decide +kernel
theorem dL_law_262 : decode cL_law 262 = .ok (.aload_n 1, 1) := by decide +kernel
theorem dL_law_263 : decode cL_law 263 = .ok (.aload_n 0, 1) := by decide +kernel
theorem dL_law_264 : decode cL_law 264 = .ok (.iload 4, 2) := by decide +kernel
theorem dL_law_266 : decode cL_law 266 = .ok (.iconst 1, 1) := by decide +kernel
theorem dL_law_267 : decode cL_law 267 = .ok (.iadd, 1) := by decide +kernel
theorem dL_law_268 : decode cL_law 268 = .ok (.iaload, 1) := by decide +kernel
theorem dL_law_269 : decode cL_law 269 = .ok (.aload_n 0, 1) := by decide +kernel
theorem dL_law_270 : decode cL_law 270 = .ok (.iload 4, 2) := by decide +kernel
theorem dL_law_272 : decode cL_law 272 = .ok (.iconst 2, 1) := by decide +kernel
theorem dL_law_273 : decode cL_law 273 = .ok (.iadd, 1) := by decide +kernel
theorem dL_law_274 : decode cL_law 274 = .ok (.iaload, 1) := by decide +kernel
theorem dL_law_275 : decode cL_law 275 = .ok (.aload_n 0, 1) := by decide +kernel
theorem dL_law_276 : decode cL_law 276 = .ok (.iload 4, 2) := by decide +kernel
theorem dL_law_278 : decode cL_law 278 = .ok (.iconst 3, 1) := by decide +kernel
theorem dL_law_279 : decode cL_law 279 = .ok (.iadd, 1) := by decide +kernel
theorem dL_law_280 : decode cL_law 280 = .ok (.iaload, 1) := by decide +kernel
theorem dL_law_281 : decode cL_law 281 = .ok (.aload_n 0, 1) := by decide +kernel
theorem dL_law_282 : decode cL_law 282 = .ok (.iload 4, 2) := by decide +kernel
theorem dL_law_284 : decode cL_law 284 = .ok (.iconst 4, 1) := by decide +kernel
theorem dL_law_285 : decode cL_law 285 = .ok (.iadd, 1) := by decide +kernel
theorem dL_law_286 : decode cL_law 286 = .ok (.iaload, 1) := by decide +kernel
theorem dL_law_287 : decode cL_law 287 = .ok (.aload_n 0, 1) := by decide +kernel
theorem dL_law_288 : decode cL_law 288 = .ok (.iload 4, 2) := by decide +kernel
theorem dL_law_290 : decode cL_law 290 = .ok (.iconst 5, 1) := by decide +kernel
theorem dL_law_291 : decode cL_law 291 = .ok (.iadd, 1) := by decide +kernel
theorem dL_law_292 : decode cL_law 292 = .ok (.iaload, 1) := by decide +kernel
theorem dL_law_293 : decode cL_law 293 = .ok (.ifCond .eq 7, 3) := by decide +kernel
theorem dL_law_296 : decode cL_law 296 = .ok (.iconst 1, 1) := by decide +kernel
theorem dL_law_297 : decode cL_law 297 = .ok (.goto 4, 3) := by decide +kernel
theorem dL_law_300 : decode cL_law 300 = .ok (.iconst 0, 1) := by decide +kernel
theorem dL_law_301 : decode cL_law 301 = .ok (.aload_n 3, 1) := by decide +kernel
theorem dL_law_302 : decode cL_law 302 = .ok (.invokestatic 37, 3) := by decide +kernel
theorem dL_law_305 : decode cL_law 305 = .ok (.istore 5, 2) := by decide +kernel
theorem dL_law_307 : decode cL_law 307 = .ok (.aload_n 2, 1) := by decide +kernel
theorem dL_law_308 : decode cL_law 308 = .ok (.aload_n 0, 1) := by decide +kernel
theorem dL_law_309 : decode cL_law 309 = .ok (.iload 4, 2) := by decide +kernel
theorem dL_law_311 : decode cL_law 311 = .ok (.iconst 1, 1) := by decide +kernel
theorem dL_law_312 : decode cL_law 312 = .ok (.iadd, 1) := by decide +kernel
theorem dL_law_313 : decode cL_law 313 = .ok (.iaload, 1) := by decide +kernel
theorem dL_law_314 : decode cL_law 314 = .ok (.aload_n 0, 1) := by decide +kernel
theorem dL_law_315 : decode cL_law 315 = .ok (.iload 4, 2) := by decide +kernel
theorem dL_law_317 : decode cL_law 317 = .ok (.iconst 2, 1) := by decide +kernel
theorem dL_law_318 : decode cL_law 318 = .ok (.iadd, 1) := by decide +kernel
theorem dL_law_319 : decode cL_law 319 = .ok (.iaload, 1) := by decide +kernel
theorem dL_law_320 : decode cL_law 320 = .ok (.aload_n 0, 1) := by decide +kernel
theorem dL_law_321 : decode cL_law 321 = .ok (.iload 4, 2) := by decide +kernel
theorem dL_law_323 : decode cL_law 323 = .ok (.iconst 3, 1) := by decide +kernel
theorem dL_law_324 : decode cL_law 324 = .ok (.iadd, 1) := by decide +kernel
theorem dL_law_325 : decode cL_law 325 = .ok (.iaload, 1) := by decide +kernel
theorem dL_law_326 : decode cL_law 326 = .ok (.aload_n 0, 1) := by decide +kernel
theorem dL_law_327 : decode cL_law 327 = .ok (.iload 4, 2) := by decide +kernel
theorem dL_law_329 : decode cL_law 329 = .ok (.iconst 4, 1) := by decide +kernel
theorem dL_law_330 : decode cL_law 330 = .ok (.iadd, 1) := by decide +kernel
theorem dL_law_331 : decode cL_law 331 = .ok (.iaload, 1) := by decide +kernel
theorem dL_law_332 : decode cL_law 332 = .ok (.aload_n 0, 1) := by decide +kernel
theorem dL_law_333 : decode cL_law 333 = .ok (.iload 4, 2) := by decide +kernel
theorem dL_law_335 : decode cL_law 335 = .ok (.iconst 5, 1) := by decide +kernel
theorem dL_law_336 : decode cL_law 336 = .ok (.iadd, 1) := by decide +kernel
theorem dL_law_337 : decode cL_law 337 = .ok (.iaload, 1) := by decide +kernel
theorem dL_law_338 : decode cL_law 338 = .ok (.ifCond .eq 7, 3) := by decide +kernel
theorem dL_law_341 : decode cL_law 341 = .ok (.iconst 1, 1) := by decide +kernel
theorem dL_law_342 : decode cL_law 342 = .ok (.goto 4, 3) := by decide +kernel
theorem dL_law_345 : decode cL_law 345 = .ok (.iconst 0, 1) := by decide +kernel
theorem dL_law_346 : decode cL_law 346 = .ok (.invokevirtual 42, 3) := by decide +kernel
theorem dL_law_349 : decode cL_law 349 = .ok (.istore 6, 2) := by decide +kernel
theorem dL_law_351 : decode cL_law 351 = .ok (.aload_n 2, 1) := by decide +kernel
theorem dL_law_352 : decode cL_law 352 = .ok (.invokevirtual 43, 3) := by decide +kernel
theorem dL_law_355 : decode cL_law 355 = .ok (.iload 5, 2) := by decide +kernel
theorem dL_law_357 : decode cL_law 357 = .ok (.if_icmp .eq 5, 3) := by decide +kernel
theorem dL_law_360 : decode cL_law 360 = .ok (.iconst 0, 1) := by decide +kernel
theorem dL_law_361 : decode cL_law 361 = .ok (.ireturn, 1) := by decide +kernel
theorem dL_law_362 : decode cL_law 362 = .ok (.iload 5, 2) := by decide +kernel
theorem dL_law_364 : decode cL_law 364 = .ok (.ifCond .ne 15, 3) := by decide +kernel
theorem dL_law_367 : decode cL_law 367 = .ok (.aload_n 3, 1) := by decide +kernel
theorem dL_law_368 : decode cL_law 368 = .ok (.iconst 0, 1) := by decide +kernel
theorem dL_law_369 : decode cL_law 369 = .ok (.laload, 1) := by decide +kernel
theorem dL_law_370 : decode cL_law 370 = .ok (.iload 6, 2) := by decide +kernel
theorem dL_law_372 : decode cL_law 372 = .ok (.i2l, 1) := by decide +kernel
theorem dL_law_373 : decode cL_law 373 = .ok (.lcmp, 1) := by decide +kernel
theorem dL_law_374 : decode cL_law 374 = .ok (.ifCond .eq 5, 3) := by decide +kernel
theorem dL_law_377 : decode cL_law 377 = .ok (.iconst 0, 1) := by decide +kernel
theorem dL_law_378 : decode cL_law 378 = .ok (.ireturn, 1) := by decide +kernel
theorem dL_law_379 : decode cL_law 379 = .ok (.goto 565, 3) := by decide +kernel
theorem dL_law_382 : decode cL_law 382 = .ok (.aload_n 1, 1) := by decide +kernel
theorem dL_law_383 : decode cL_law 383 = .ok (.aload_n 0, 1) := by decide +kernel
theorem dL_law_384 : decode cL_law 384 = .ok (.iload 4, 2) := by decide +kernel
theorem dL_law_386 : decode cL_law 386 = .ok (.iconst 1, 1) := by decide +kernel
theorem dL_law_387 : decode cL_law 387 = .ok (.iadd, 1) := by decide +kernel
theorem dL_law_388 : decode cL_law 388 = .ok (.iaload, 1) := by decide +kernel
theorem dL_law_389 : decode cL_law 389 = .ok (.aload_n 0, 1) := by decide +kernel
theorem dL_law_390 : decode cL_law 390 = .ok (.iload 4, 2) := by decide +kernel
theorem dL_law_392 : decode cL_law 392 = .ok (.iconst 2, 1) := by decide +kernel
theorem dL_law_393 : decode cL_law 393 = .ok (.iadd, 1) := by decide +kernel
theorem dL_law_394 : decode cL_law 394 = .ok (.iaload, 1) := by decide +kernel
theorem dL_law_395 : decode cL_law 395 = .ok (.aload_n 0, 1) := by decide +kernel
theorem dL_law_396 : decode cL_law 396 = .ok (.iload 4, 2) := by decide +kernel
theorem dL_law_398 : decode cL_law 398 = .ok (.iconst 3, 1) := by decide +kernel
theorem dL_law_399 : decode cL_law 399 = .ok (.iadd, 1) := by decide +kernel
theorem dL_law_400 : decode cL_law 400 = .ok (.iaload, 1) := by decide +kernel
theorem dL_law_401 : decode cL_law 401 = .ok (.invokevirtual 47, 3) := by decide +kernel
theorem dL_law_404 : decode cL_law 404 = .ok (.aload_n 2, 1) := by decide +kernel
theorem dL_law_405 : decode cL_law 405 = .ok (.aload_n 0, 1) := by decide +kernel
theorem dL_law_406 : decode cL_law 406 = .ok (.iload 4, 2) := by decide +kernel
theorem dL_law_408 : decode cL_law 408 = .ok (.iconst 1, 1) := by decide +kernel
theorem dL_law_409 : decode cL_law 409 = .ok (.iadd, 1) := by decide +kernel
theorem dL_law_410 : decode cL_law 410 = .ok (.iaload, 1) := by decide +kernel
theorem dL_law_411 : decode cL_law 411 = .ok (.aload_n 0, 1) := by decide +kernel
theorem dL_law_412 : decode cL_law 412 = .ok (.iload 4, 2) := by decide +kernel
theorem dL_law_414 : decode cL_law 414 = .ok (.iconst 2, 1) := by decide +kernel
theorem dL_law_415 : decode cL_law 415 = .ok (.iadd, 1) := by decide +kernel
theorem dL_law_416 : decode cL_law 416 = .ok (.iaload, 1) := by decide +kernel
theorem dL_law_417 : decode cL_law 417 = .ok (.aload_n 0, 1) := by decide +kernel
theorem dL_law_418 : decode cL_law 418 = .ok (.iload 4, 2) := by decide +kernel
theorem dL_law_420 : decode cL_law 420 = .ok (.iconst 3, 1) := by decide +kernel
theorem dL_law_421 : decode cL_law 421 = .ok (.iadd, 1) := by decide +kernel
theorem dL_law_422 : decode cL_law 422 = .ok (.iaload, 1) := by decide +kernel
theorem dL_law_423 : decode cL_law 423 = .ok (.invokevirtual 51, 3) := by decide +kernel
theorem dL_law_426 : decode cL_law 426 = .ok (.if_icmp .eq 518, 3) := by decide +kernel
theorem dL_law_429 : decode cL_law 429 = .ok (.iconst 0, 1) := by decide +kernel
theorem dL_law_430 : decode cL_law 430 = .ok (.ireturn, 1) := by decide +kernel
theorem dL_law_431 : decode cL_law 431 = .ok (.aload_n 1, 1) := by decide +kernel
theorem dL_law_432 : decode cL_law 432 = .ok (.aload_n 0, 1) := by decide +kernel
theorem dL_law_433 : decode cL_law 433 = .ok (.iload 4, 2) := by decide +kernel
theorem dL_law_435 : decode cL_law 435 = .ok (.iconst 1, 1) := by decide +kernel
theorem dL_law_436 : decode cL_law 436 = .ok (.iadd, 1) := by decide +kernel
theorem dL_law_437 : decode cL_law 437 = .ok (.iaload, 1) := by decide +kernel
theorem dL_law_438 : decode cL_law 438 = .ok (.aload_n 0, 1) := by decide +kernel
theorem dL_law_439 : decode cL_law 439 = .ok (.iload 4, 2) := by decide +kernel
theorem dL_law_441 : decode cL_law 441 = .ok (.iconst 2, 1) := by decide +kernel
theorem dL_law_442 : decode cL_law 442 = .ok (.iadd, 1) := by decide +kernel
theorem dL_law_443 : decode cL_law 443 = .ok (.iaload, 1) := by decide +kernel
theorem dL_law_444 : decode cL_law 444 = .ok (.aload_n 3, 1) := by decide +kernel
theorem dL_law_445 : decode cL_law 445 = .ok (.invokestatic 52, 3) := by decide +kernel
theorem dL_law_448 : decode cL_law 448 = .ok (.istore 5, 2) := by decide +kernel
theorem dL_law_450 : decode cL_law 450 = .ok (.aload_n 2, 1) := by decide +kernel
theorem dL_law_451 : decode cL_law 451 = .ok (.aload_n 0, 1) := by decide +kernel
theorem dL_law_452 : decode cL_law 452 = .ok (.iload 4, 2) := by decide +kernel
theorem dL_law_454 : decode cL_law 454 = .ok (.iconst 1, 1) := by decide +kernel
theorem dL_law_455 : decode cL_law 455 = .ok (.iadd, 1) := by decide +kernel
theorem dL_law_456 : decode cL_law 456 = .ok (.iaload, 1) := by decide +kernel
theorem dL_law_457 : decode cL_law 457 = .ok (.aload_n 0, 1) := by decide +kernel
theorem dL_law_458 : decode cL_law 458 = .ok (.iload 4, 2) := by decide +kernel
theorem dL_law_460 : decode cL_law 460 = .ok (.iconst 2, 1) := by decide +kernel
theorem dL_law_461 : decode cL_law 461 = .ok (.iadd, 1) := by decide +kernel
theorem dL_law_462 : decode cL_law 462 = .ok (.iaload, 1) := by decide +kernel
theorem dL_law_463 : decode cL_law 463 = .ok (.invokevirtual 55, 3) := by decide +kernel
theorem dL_law_466 : decode cL_law 466 = .ok (.istore 6, 2) := by decide +kernel
theorem dL_law_468 : decode cL_law 468 = .ok (.aload_n 2, 1) := by decide +kernel
theorem dL_law_469 : decode cL_law 469 = .ok (.invokevirtual 43, 3) := by decide +kernel
theorem dL_law_472 : decode cL_law 472 = .ok (.iload 5, 2) := by decide +kernel
theorem dL_law_474 : decode cL_law 474 = .ok (.if_icmp .eq 5, 3) := by decide +kernel
theorem dL_law_477 : decode cL_law 477 = .ok (.iconst 0, 1) := by decide +kernel
theorem dL_law_478 : decode cL_law 478 = .ok (.ireturn, 1) := by decide +kernel
theorem dL_law_479 : decode cL_law 479 = .ok (.iload 5, 2) := by decide +kernel
theorem dL_law_481 : decode cL_law 481 = .ok (.ifCond .ne 15, 3) := by decide +kernel
theorem dL_law_484 : decode cL_law 484 = .ok (.aload_n 3, 1) := by decide +kernel
theorem dL_law_485 : decode cL_law 485 = .ok (.iconst 0, 1) := by decide +kernel
theorem dL_law_486 : decode cL_law 486 = .ok (.laload, 1) := by decide +kernel
theorem dL_law_487 : decode cL_law 487 = .ok (.iload 6, 2) := by decide +kernel
theorem dL_law_489 : decode cL_law 489 = .ok (.i2l, 1) := by decide +kernel
theorem dL_law_490 : decode cL_law 490 = .ok (.lcmp, 1) := by decide +kernel
theorem dL_law_491 : decode cL_law 491 = .ok (.ifCond .eq 5, 3) := by decide +kernel
theorem dL_law_494 : decode cL_law 494 = .ok (.iconst 0, 1) := by decide +kernel
theorem dL_law_495 : decode cL_law 495 = .ok (.ireturn, 1) := by decide +kernel
theorem dL_law_496 : decode cL_law 496 = .ok (.goto 448, 3) := by decide +kernel
theorem dL_law_499 : decode cL_law 499 = .ok (.aload_n 1, 1) := by decide +kernel
theorem dL_law_500 : decode cL_law 500 = .ok (.aload_n 0, 1) := by decide +kernel
theorem dL_law_501 : decode cL_law 501 = .ok (.iload 4, 2) := by decide +kernel
theorem dL_law_503 : decode cL_law 503 = .ok (.iconst 1, 1) := by decide +kernel
theorem dL_law_504 : decode cL_law 504 = .ok (.iadd, 1) := by decide +kernel
theorem dL_law_505 : decode cL_law 505 = .ok (.iaload, 1) := by decide +kernel
theorem dL_law_506 : decode cL_law 506 = .ok (.aload_n 0, 1) := by decide +kernel
theorem dL_law_507 : decode cL_law 507 = .ok (.iload 4, 2) := by decide +kernel
theorem dL_law_509 : decode cL_law 509 = .ok (.iconst 2, 1) := by decide +kernel
theorem dL_law_510 : decode cL_law 510 = .ok (.iadd, 1) := by decide +kernel
theorem dL_law_511 : decode cL_law 511 = .ok (.iaload, 1) := by decide +kernel
theorem dL_law_512 : decode cL_law 512 = .ok (.aload_n 0, 1) := by decide +kernel
theorem dL_law_513 : decode cL_law 513 = .ok (.iload 4, 2) := by decide +kernel
theorem dL_law_515 : decode cL_law 515 = .ok (.iconst 3, 1) := by decide +kernel
theorem dL_law_516 : decode cL_law 516 = .ok (.iadd, 1) := by decide +kernel
theorem dL_law_517 : decode cL_law 517 = .ok (.iaload, 1) := by decide +kernel
theorem dL_law_518 : decode cL_law 518 = .ok (.invokevirtual 56, 3) := by decide +kernel
theorem dL_law_521 : decode cL_law 521 = .ok (.aload_n 2, 1) := by decide +kernel
theorem dL_law_522 : decode cL_law 522 = .ok (.aload_n 0, 1) := by decide +kernel
theorem dL_law_523 : decode cL_law 523 = .ok (.iload 4, 2) := by decide +kernel
theorem dL_law_525 : decode cL_law 525 = .ok (.iconst 1, 1) := by decide +kernel
theorem dL_law_526 : decode cL_law 526 = .ok (.iadd, 1) := by decide +kernel
theorem dL_law_527 : decode cL_law 527 = .ok (.iaload, 1) := by decide +kernel
theorem dL_law_528 : decode cL_law 528 = .ok (.aload_n 0, 1) := by decide +kernel
theorem dL_law_529 : decode cL_law 529 = .ok (.iload 4, 2) := by decide +kernel
theorem dL_law_531 : decode cL_law 531 = .ok (.iconst 2, 1) := by decide +kernel
theorem dL_law_532 : decode cL_law 532 = .ok (.iadd, 1) := by decide +kernel
theorem dL_law_533 : decode cL_law 533 = .ok (.iaload, 1) := by decide +kernel
theorem dL_law_534 : decode cL_law 534 = .ok (.aload_n 0, 1) := by decide +kernel
theorem dL_law_535 : decode cL_law 535 = .ok (.iload 4, 2) := by decide +kernel
theorem dL_law_537 : decode cL_law 537 = .ok (.iconst 3, 1) := by decide +kernel
theorem dL_law_538 : decode cL_law 538 = .ok (.iadd, 1) := by decide +kernel
theorem dL_law_539 : decode cL_law 539 = .ok (.iaload, 1) := by decide +kernel
theorem dL_law_540 : decode cL_law 540 = .ok (.invokevirtual 59, 3) := by decide +kernel
theorem dL_law_543 : decode cL_law 543 = .ok (.if_icmp .eq 401, 3) := by decide +kernel
theorem dL_law_546 : decode cL_law 546 = .ok (.iconst 0, 1) := by decide +kernel
theorem dL_law_547 : decode cL_law 547 = .ok (.ireturn, 1) := by decide +kernel
theorem dL_law_548 : decode cL_law 548 = .ok (.aload_n 1, 1) := by decide +kernel
theorem dL_law_549 : decode cL_law 549 = .ok (.aload_n 0, 1) := by decide +kernel
theorem dL_law_550 : decode cL_law 550 = .ok (.iload 4, 2) := by decide +kernel
theorem dL_law_552 : decode cL_law 552 = .ok (.iconst 1, 1) := by decide +kernel
theorem dL_law_553 : decode cL_law 553 = .ok (.iadd, 1) := by decide +kernel
theorem dL_law_554 : decode cL_law 554 = .ok (.iaload, 1) := by decide +kernel
theorem dL_law_555 : decode cL_law 555 = .ok (.aload_n 0, 1) := by decide +kernel
theorem dL_law_556 : decode cL_law 556 = .ok (.iload 4, 2) := by decide +kernel
theorem dL_law_558 : decode cL_law 558 = .ok (.iconst 2, 1) := by decide +kernel
theorem dL_law_559 : decode cL_law 559 = .ok (.iadd, 1) := by decide +kernel
theorem dL_law_560 : decode cL_law 560 = .ok (.iaload, 1) := by decide +kernel
theorem dL_law_561 : decode cL_law 561 = .ok (.aload_n 0, 1) := by decide +kernel
theorem dL_law_562 : decode cL_law 562 = .ok (.iload 4, 2) := by decide +kernel
theorem dL_law_564 : decode cL_law 564 = .ok (.iconst 3, 1) := by decide +kernel
theorem dL_law_565 : decode cL_law 565 = .ok (.iadd, 1) := by decide +kernel
theorem dL_law_566 : decode cL_law 566 = .ok (.iaload, 1) := by decide +kernel
theorem dL_law_567 : decode cL_law 567 = .ok (.invokevirtual 60, 3) := by decide +kernel
theorem dL_law_570 : decode cL_law 570 = .ok (.aload_n 2, 1) := by decide +kernel
theorem dL_law_571 : decode cL_law 571 = .ok (.aload_n 0, 1) := by decide +kernel
theorem dL_law_572 : decode cL_law 572 = .ok (.iload 4, 2) := by decide +kernel
theorem dL_law_574 : decode cL_law 574 = .ok (.iconst 1, 1) := by decide +kernel
theorem dL_law_575 : decode cL_law 575 = .ok (.iadd, 1) := by decide +kernel
theorem dL_law_576 : decode cL_law 576 = .ok (.iaload, 1) := by decide +kernel
theorem dL_law_577 : decode cL_law 577 = .ok (.aload_n 0, 1) := by decide +kernel
theorem dL_law_578 : decode cL_law 578 = .ok (.iload 4, 2) := by decide +kernel
theorem dL_law_580 : decode cL_law 580 = .ok (.iconst 2, 1) := by decide +kernel
theorem dL_law_581 : decode cL_law 581 = .ok (.iadd, 1) := by decide +kernel
theorem dL_law_582 : decode cL_law 582 = .ok (.iaload, 1) := by decide +kernel
theorem dL_law_583 : decode cL_law 583 = .ok (.aload_n 0, 1) := by decide +kernel
theorem dL_law_584 : decode cL_law 584 = .ok (.iload 4, 2) := by decide +kernel
theorem dL_law_586 : decode cL_law 586 = .ok (.iconst 3, 1) := by decide +kernel
theorem dL_law_587 : decode cL_law 587 = .ok (.iadd, 1) := by decide +kernel
theorem dL_law_588 : decode cL_law 588 = .ok (.iaload, 1) := by decide +kernel
theorem dL_law_589 : decode cL_law 589 = .ok (.invokevirtual 63, 3) := by decide +kernel
theorem dL_law_592 : decode cL_law 592 = .ok (.if_icmp .eq 352, 3) := by decide +kernel
theorem dL_law_595 : decode cL_law 595 = .ok (.iconst 0, 1) := by decide +kernel
theorem dL_law_596 : decode cL_law 596 = .ok (.ireturn, 1) := by decide +kernel
theorem dL_law_597 : decode cL_law 597 = .ok (.aload_n 1, 1) := by decide +kernel
theorem dL_law_598 : decode cL_law 598 = .ok (.aload_n 0, 1) := by decide +kernel
theorem dL_law_599 : decode cL_law 599 = .ok (.iload 4, 2) := by decide +kernel
theorem dL_law_601 : decode cL_law 601 = .ok (.iconst 1, 1) := by decide +kernel
theorem dL_law_602 : decode cL_law 602 = .ok (.iadd, 1) := by decide +kernel
theorem dL_law_603 : decode cL_law 603 = .ok (.iaload, 1) := by decide +kernel
theorem dL_law_604 : decode cL_law 604 = .ok (.aload_n 0, 1) := by decide +kernel
theorem dL_law_605 : decode cL_law 605 = .ok (.iload 4, 2) := by decide +kernel
theorem dL_law_607 : decode cL_law 607 = .ok (.iconst 2, 1) := by decide +kernel
theorem dL_law_608 : decode cL_law 608 = .ok (.iadd, 1) := by decide +kernel
theorem dL_law_609 : decode cL_law 609 = .ok (.iaload, 1) := by decide +kernel
theorem dL_law_610 : decode cL_law 610 = .ok (.invokevirtual 64, 3) := by decide +kernel
theorem dL_law_613 : decode cL_law 613 = .ok (.aload_n 2, 1) := by decide +kernel
theorem dL_law_614 : decode cL_law 614 = .ok (.aload_n 0, 1) := by decide +kernel
theorem dL_law_615 : decode cL_law 615 = .ok (.iload 4, 2) := by decide +kernel
theorem dL_law_617 : decode cL_law 617 = .ok (.iconst 1, 1) := by decide +kernel
theorem dL_law_618 : decode cL_law 618 = .ok (.iadd, 1) := by decide +kernel
theorem dL_law_619 : decode cL_law 619 = .ok (.iaload, 1) := by decide +kernel
theorem dL_law_620 : decode cL_law 620 = .ok (.aload_n 0, 1) := by decide +kernel
theorem dL_law_621 : decode cL_law 621 = .ok (.iload 4, 2) := by decide +kernel
theorem dL_law_623 : decode cL_law 623 = .ok (.iconst 2, 1) := by decide +kernel
theorem dL_law_624 : decode cL_law 624 = .ok (.iadd, 1) := by decide +kernel
theorem dL_law_625 : decode cL_law 625 = .ok (.iaload, 1) := by decide +kernel
theorem dL_law_626 : decode cL_law 626 = .ok (.invokevirtual 67, 3) := by decide +kernel
theorem dL_law_629 : decode cL_law 629 = .ok (.if_icmp .eq 315, 3) := by decide +kernel
theorem dL_law_632 : decode cL_law 632 = .ok (.iconst 0, 1) := by decide +kernel
theorem dL_law_633 : decode cL_law 633 = .ok (.ireturn, 1) := by decide +kernel
theorem dL_law_634 : decode cL_law 634 = .ok (.aload_n 1, 1) := by decide +kernel
theorem dL_law_635 : decode cL_law 635 = .ok (.aload_n 0, 1) := by decide +kernel
theorem dL_law_636 : decode cL_law 636 = .ok (.iload 4, 2) := by decide +kernel
theorem dL_law_638 : decode cL_law 638 = .ok (.iconst 1, 1) := by decide +kernel
theorem dL_law_639 : decode cL_law 639 = .ok (.iadd, 1) := by decide +kernel
theorem dL_law_640 : decode cL_law 640 = .ok (.iaload, 1) := by decide +kernel
theorem dL_law_641 : decode cL_law 641 = .ok (.invokevirtual 68, 3) := by decide +kernel
theorem dL_law_644 : decode cL_law 644 = .ok (.aload_n 2, 1) := by decide +kernel
theorem dL_law_645 : decode cL_law 645 = .ok (.aload_n 0, 1) := by decide +kernel
theorem dL_law_646 : decode cL_law 646 = .ok (.iload 4, 2) := by decide +kernel
theorem dL_law_648 : decode cL_law 648 = .ok (.iconst 1, 1) := by decide +kernel
theorem dL_law_649 : decode cL_law 649 = .ok (.iadd, 1) := by decide +kernel
theorem dL_law_650 : decode cL_law 650 = .ok (.iaload, 1) := by decide +kernel
theorem dL_law_651 : decode cL_law 651 = .ok (.invokevirtual 72, 3) := by decide +kernel
theorem dL_law_654 : decode cL_law 654 = .ok (.if_icmp .eq 290, 3) := by decide +kernel
theorem dL_law_657 : decode cL_law 657 = .ok (.iconst 0, 1) := by decide +kernel
theorem dL_law_658 : decode cL_law 658 = .ok (.ireturn, 1) := by decide +kernel
theorem dL_law_659 : decode cL_law 659 = .ok (.aload_n 1, 1) := by decide +kernel
theorem dL_law_660 : decode cL_law 660 = .ok (.aload_n 0, 1) := by decide +kernel
theorem dL_law_661 : decode cL_law 661 = .ok (.iload 4, 2) := by decide +kernel
theorem dL_law_663 : decode cL_law 663 = .ok (.iconst 1, 1) := by decide +kernel
theorem dL_law_664 : decode cL_law 664 = .ok (.iadd, 1) := by decide +kernel
theorem dL_law_665 : decode cL_law 665 = .ok (.iaload, 1) := by decide +kernel
theorem dL_law_666 : decode cL_law 666 = .ok (.invokevirtual 73, 3) := by decide +kernel
theorem dL_law_669 : decode cL_law 669 = .ok (.aload_n 2, 1) := by decide +kernel
theorem dL_law_670 : decode cL_law 670 = .ok (.aload_n 0, 1) := by decide +kernel
theorem dL_law_671 : decode cL_law 671 = .ok (.iload 4, 2) := by decide +kernel
theorem dL_law_673 : decode cL_law 673 = .ok (.iconst 1, 1) := by decide +kernel
theorem dL_law_674 : decode cL_law 674 = .ok (.iadd, 1) := by decide +kernel
theorem dL_law_675 : decode cL_law 675 = .ok (.iaload, 1) := by decide +kernel
theorem dL_law_676 : decode cL_law 676 = .ok (.invokevirtual 76, 3) := by decide +kernel
theorem dL_law_679 : decode cL_law 679 = .ok (.if_icmp .eq 265, 3) := by decide +kernel
theorem dL_law_682 : decode cL_law 682 = .ok (.iconst 0, 1) := by decide +kernel
theorem dL_law_683 : decode cL_law 683 = .ok (.ireturn, 1) := by decide +kernel
theorem dL_law_684 : decode cL_law 684 = .ok (.aload_n 1, 1) := by decide +kernel
theorem dL_law_685 : decode cL_law 685 = .ok (.aload_n 0, 1) := by decide +kernel
theorem dL_law_686 : decode cL_law 686 = .ok (.iload 4, 2) := by decide +kernel
theorem dL_law_688 : decode cL_law 688 = .ok (.iconst 1, 1) := by decide +kernel
theorem dL_law_689 : decode cL_law 689 = .ok (.iadd, 1) := by decide +kernel
theorem dL_law_690 : decode cL_law 690 = .ok (.iaload, 1) := by decide +kernel
theorem dL_law_691 : decode cL_law 691 = .ok (.aload_n 0, 1) := by decide +kernel
theorem dL_law_692 : decode cL_law 692 = .ok (.iload 4, 2) := by decide +kernel
theorem dL_law_694 : decode cL_law 694 = .ok (.iconst 2, 1) := by decide +kernel
theorem dL_law_695 : decode cL_law 695 = .ok (.iadd, 1) := by decide +kernel
theorem dL_law_696 : decode cL_law 696 = .ok (.iaload, 1) := by decide +kernel
theorem dL_law_697 : decode cL_law 697 = .ok (.invokevirtual 77, 3) := by decide +kernel
theorem dL_law_700 : decode cL_law 700 = .ok (.aload_n 2, 1) := by decide +kernel
theorem dL_law_701 : decode cL_law 701 = .ok (.aload_n 0, 1) := by decide +kernel
theorem dL_law_702 : decode cL_law 702 = .ok (.iload 4, 2) := by decide +kernel
theorem dL_law_704 : decode cL_law 704 = .ok (.iconst 1, 1) := by decide +kernel
theorem dL_law_705 : decode cL_law 705 = .ok (.iadd, 1) := by decide +kernel
theorem dL_law_706 : decode cL_law 706 = .ok (.iaload, 1) := by decide +kernel
theorem dL_law_707 : decode cL_law 707 = .ok (.aload_n 0, 1) := by decide +kernel
theorem dL_law_708 : decode cL_law 708 = .ok (.iload 4, 2) := by decide +kernel
theorem dL_law_710 : decode cL_law 710 = .ok (.iconst 2, 1) := by decide +kernel
theorem dL_law_711 : decode cL_law 711 = .ok (.iadd, 1) := by decide +kernel
theorem dL_law_712 : decode cL_law 712 = .ok (.iaload, 1) := by decide +kernel
theorem dL_law_713 : decode cL_law 713 = .ok (.invokevirtual 80, 3) := by decide +kernel
theorem dL_law_716 : decode cL_law 716 = .ok (.if_icmp .eq 228, 3) := by decide +kernel
theorem dL_law_719 : decode cL_law 719 = .ok (.iconst 0, 1) := by decide +kernel
theorem dL_law_720 : decode cL_law 720 = .ok (.ireturn, 1) := by decide +kernel
theorem dL_law_721 : decode cL_law 721 = .ok (.aload_n 1, 1) := by decide +kernel
theorem dL_law_722 : decode cL_law 722 = .ok (.aload_n 0, 1) := by decide +kernel
theorem dL_law_723 : decode cL_law 723 = .ok (.iload 4, 2) := by decide +kernel
theorem dL_law_725 : decode cL_law 725 = .ok (.iconst 1, 1) := by decide +kernel
theorem dL_law_726 : decode cL_law 726 = .ok (.iadd, 1) := by decide +kernel
theorem dL_law_727 : decode cL_law 727 = .ok (.iaload, 1) := by decide +kernel
theorem dL_law_728 : decode cL_law 728 = .ok (.aload_n 0, 1) := by decide +kernel
theorem dL_law_729 : decode cL_law 729 = .ok (.iload 4, 2) := by decide +kernel
theorem dL_law_731 : decode cL_law 731 = .ok (.iconst 2, 1) := by decide +kernel
theorem dL_law_732 : decode cL_law 732 = .ok (.iadd, 1) := by decide +kernel
theorem dL_law_733 : decode cL_law 733 = .ok (.iaload, 1) := by decide +kernel
theorem dL_law_734 : decode cL_law 734 = .ok (.invokevirtual 81, 3) := by decide +kernel
theorem dL_law_737 : decode cL_law 737 = .ok (.aload_n 2, 1) := by decide +kernel
theorem dL_law_738 : decode cL_law 738 = .ok (.aload_n 0, 1) := by decide +kernel
theorem dL_law_739 : decode cL_law 739 = .ok (.iload 4, 2) := by decide +kernel
theorem dL_law_741 : decode cL_law 741 = .ok (.iconst 1, 1) := by decide +kernel
theorem dL_law_742 : decode cL_law 742 = .ok (.iadd, 1) := by decide +kernel
theorem dL_law_743 : decode cL_law 743 = .ok (.iaload, 1) := by decide +kernel
theorem dL_law_744 : decode cL_law 744 = .ok (.aload_n 0, 1) := by decide +kernel
theorem dL_law_745 : decode cL_law 745 = .ok (.iload 4, 2) := by decide +kernel
theorem dL_law_747 : decode cL_law 747 = .ok (.iconst 2, 1) := by decide +kernel
theorem dL_law_748 : decode cL_law 748 = .ok (.iadd, 1) := by decide +kernel
theorem dL_law_749 : decode cL_law 749 = .ok (.iaload, 1) := by decide +kernel
theorem dL_law_750 : decode cL_law 750 = .ok (.invokevirtual 85, 3) := by decide +kernel
theorem dL_law_753 : decode cL_law 753 = .ok (.if_icmp .eq 191, 3) := by decide +kernel
theorem dL_law_756 : decode cL_law 756 = .ok (.iconst 0, 1) := by decide +kernel
theorem dL_law_757 : decode cL_law 757 = .ok (.ireturn, 1) := by decide +kernel
theorem dL_law_758 : decode cL_law 758 = .ok (.aload_n 1, 1) := by decide +kernel
theorem dL_law_759 : decode cL_law 759 = .ok (.aload_n 0, 1) := by decide +kernel
theorem dL_law_760 : decode cL_law 760 = .ok (.iload 4, 2) := by decide +kernel
theorem dL_law_762 : decode cL_law 762 = .ok (.iconst 1, 1) := by decide +kernel
theorem dL_law_763 : decode cL_law 763 = .ok (.iadd, 1) := by decide +kernel
theorem dL_law_764 : decode cL_law 764 = .ok (.iaload, 1) := by decide +kernel
theorem dL_law_765 : decode cL_law 765 = .ok (.invokevirtual 86, 3) := by decide +kernel
theorem dL_law_768 : decode cL_law 768 = .ok (.aload_n 2, 1) := by decide +kernel
theorem dL_law_769 : decode cL_law 769 = .ok (.aload_n 0, 1) := by decide +kernel
theorem dL_law_770 : decode cL_law 770 = .ok (.iload 4, 2) := by decide +kernel
theorem dL_law_772 : decode cL_law 772 = .ok (.iconst 1, 1) := by decide +kernel
theorem dL_law_773 : decode cL_law 773 = .ok (.iadd, 1) := by decide +kernel
theorem dL_law_774 : decode cL_law 774 = .ok (.iaload, 1) := by decide +kernel
theorem dL_law_775 : decode cL_law 775 = .ok (.invokevirtual 90, 3) := by decide +kernel
theorem dL_law_778 : decode cL_law 778 = .ok (.lcmp, 1) := by decide +kernel
theorem dL_law_779 : decode cL_law 779 = .ok (.ifCond .eq 165, 3) := by decide +kernel
theorem dL_law_782 : decode cL_law 782 = .ok (.iconst 0, 1) := by decide +kernel
theorem dL_law_783 : decode cL_law 783 = .ok (.ireturn, 1) := by decide +kernel
theorem dL_law_784 : decode cL_law 784 = .ok (.aload_n 1, 1) := by decide +kernel
theorem dL_law_785 : decode cL_law 785 = .ok (.aload_n 0, 1) := by decide +kernel
theorem dL_law_786 : decode cL_law 786 = .ok (.iload 4, 2) := by decide +kernel
theorem dL_law_788 : decode cL_law 788 = .ok (.iconst 1, 1) := by decide +kernel
theorem dL_law_789 : decode cL_law 789 = .ok (.iadd, 1) := by decide +kernel
theorem dL_law_790 : decode cL_law 790 = .ok (.iaload, 1) := by decide +kernel
theorem dL_law_791 : decode cL_law 791 = .ok (.invokevirtual 91, 3) := by decide +kernel
theorem dL_law_794 : decode cL_law 794 = .ok (.aload_n 2, 1) := by decide +kernel
theorem dL_law_795 : decode cL_law 795 = .ok (.aload_n 0, 1) := by decide +kernel
theorem dL_law_796 : decode cL_law 796 = .ok (.iload 4, 2) := by decide +kernel
theorem dL_law_798 : decode cL_law 798 = .ok (.iconst 1, 1) := by decide +kernel
theorem dL_law_799 : decode cL_law 799 = .ok (.iadd, 1) := by decide +kernel
theorem dL_law_800 : decode cL_law 800 = .ok (.iaload, 1) := by decide +kernel
theorem dL_law_801 : decode cL_law 801 = .ok (.invokevirtual 95, 3) := by decide +kernel
theorem dL_law_804 : decode cL_law 804 = .ok (.if_icmp .eq 140, 3) := by decide +kernel
theorem dL_law_807 : decode cL_law 807 = .ok (.iconst 0, 1) := by decide +kernel
theorem dL_law_808 : decode cL_law 808 = .ok (.ireturn, 1) := by decide +kernel
theorem dL_law_809 : decode cL_law 809 = .ok (.aload_n 1, 1) := by decide +kernel
theorem dL_law_810 : decode cL_law 810 = .ok (.aload_n 0, 1) := by decide +kernel
theorem dL_law_811 : decode cL_law 811 = .ok (.iload 4, 2) := by decide +kernel
theorem dL_law_813 : decode cL_law 813 = .ok (.iconst 1, 1) := by decide +kernel
theorem dL_law_814 : decode cL_law 814 = .ok (.iadd, 1) := by decide +kernel
theorem dL_law_815 : decode cL_law 815 = .ok (.iaload, 1) := by decide +kernel
theorem dL_law_816 : decode cL_law 816 = .ok (.aload_n 0, 1) := by decide +kernel
theorem dL_law_817 : decode cL_law 817 = .ok (.iload 4, 2) := by decide +kernel
theorem dL_law_819 : decode cL_law 819 = .ok (.iconst 2, 1) := by decide +kernel
theorem dL_law_820 : decode cL_law 820 = .ok (.iadd, 1) := by decide +kernel
theorem dL_law_821 : decode cL_law 821 = .ok (.iaload, 1) := by decide +kernel
theorem dL_law_822 : decode cL_law 822 = .ok (.invokevirtual 96, 3) := by decide +kernel
theorem dL_law_825 : decode cL_law 825 = .ok (.aload_n 2, 1) := by decide +kernel
theorem dL_law_826 : decode cL_law 826 = .ok (.aload_n 0, 1) := by decide +kernel
theorem dL_law_827 : decode cL_law 827 = .ok (.iload 4, 2) := by decide +kernel
theorem dL_law_829 : decode cL_law 829 = .ok (.iconst 1, 1) := by decide +kernel
theorem dL_law_830 : decode cL_law 830 = .ok (.iadd, 1) := by decide +kernel
theorem dL_law_831 : decode cL_law 831 = .ok (.iaload, 1) := by decide +kernel
theorem dL_law_832 : decode cL_law 832 = .ok (.aload_n 0, 1) := by decide +kernel
theorem dL_law_833 : decode cL_law 833 = .ok (.iload 4, 2) := by decide +kernel
theorem dL_law_835 : decode cL_law 835 = .ok (.iconst 2, 1) := by decide +kernel
theorem dL_law_836 : decode cL_law 836 = .ok (.iadd, 1) := by decide +kernel
theorem dL_law_837 : decode cL_law 837 = .ok (.iaload, 1) := by decide +kernel
theorem dL_law_838 : decode cL_law 838 = .ok (.invokevirtual 99, 3) := by decide +kernel
theorem dL_law_841 : decode cL_law 841 = .ok (.if_icmp .eq 103, 3) := by decide +kernel
theorem dL_law_844 : decode cL_law 844 = .ok (.iconst 0, 1) := by decide +kernel
theorem dL_law_845 : decode cL_law 845 = .ok (.ireturn, 1) := by decide +kernel
theorem dL_law_846 : decode cL_law 846 = .ok (.aload_n 1, 1) := by decide +kernel
theorem dL_law_847 : decode cL_law 847 = .ok (.aload_n 0, 1) := by decide +kernel
theorem dL_law_848 : decode cL_law 848 = .ok (.iload 4, 2) := by decide +kernel
theorem dL_law_850 : decode cL_law 850 = .ok (.iconst 1, 1) := by decide +kernel
theorem dL_law_851 : decode cL_law 851 = .ok (.iadd, 1) := by decide +kernel
theorem dL_law_852 : decode cL_law 852 = .ok (.iaload, 1) := by decide +kernel
theorem dL_law_853 : decode cL_law 853 = .ok (.invokevirtual 100, 3) := by decide +kernel
theorem dL_law_856 : decode cL_law 856 = .ok (.aload_n 2, 1) := by decide +kernel
theorem dL_law_857 : decode cL_law 857 = .ok (.aload_n 0, 1) := by decide +kernel
theorem dL_law_858 : decode cL_law 858 = .ok (.iload 4, 2) := by decide +kernel
theorem dL_law_860 : decode cL_law 860 = .ok (.iconst 1, 1) := by decide +kernel
theorem dL_law_861 : decode cL_law 861 = .ok (.iadd, 1) := by decide +kernel
theorem dL_law_862 : decode cL_law 862 = .ok (.iaload, 1) := by decide +kernel
theorem dL_law_863 : decode cL_law 863 = .ok (.invokevirtual 103, 3) := by decide +kernel
theorem dL_law_866 : decode cL_law 866 = .ok (.if_icmp .eq 78, 3) := by decide +kernel
theorem dL_law_869 : decode cL_law 869 = .ok (.iconst 0, 1) := by decide +kernel
theorem dL_law_870 : decode cL_law 870 = .ok (.ireturn, 1) := by decide +kernel
theorem dL_law_871 : decode cL_law 871 = .ok (.aload_n 1, 1) := by decide +kernel
theorem dL_law_872 : decode cL_law 872 = .ok (.invokevirtual 104, 3) := by decide +kernel
theorem dL_law_875 : decode cL_law 875 = .ok (.aload_n 2, 1) := by decide +kernel
theorem dL_law_876 : decode cL_law 876 = .ok (.invokevirtual 107, 3) := by decide +kernel
theorem dL_law_879 : decode cL_law 879 = .ok (.goto 65, 3) := by decide +kernel
theorem dL_law_882 : decode cL_law 882 = .ok (.aload_n 1, 1) := by decide +kernel
theorem dL_law_883 : decode cL_law 883 = .ok (.aload_n 0, 1) := by decide +kernel
theorem dL_law_884 : decode cL_law 884 = .ok (.iload 4, 2) := by decide +kernel
theorem dL_law_886 : decode cL_law 886 = .ok (.iconst 1, 1) := by decide +kernel
theorem dL_law_887 : decode cL_law 887 = .ok (.iadd, 1) := by decide +kernel
theorem dL_law_888 : decode cL_law 888 = .ok (.iaload, 1) := by decide +kernel
theorem dL_law_889 : decode cL_law 889 = .ok (.invokevirtual 108, 3) := by decide +kernel
theorem dL_law_892 : decode cL_law 892 = .ok (.aload_n 2, 1) := by decide +kernel
theorem dL_law_893 : decode cL_law 893 = .ok (.aload_n 0, 1) := by decide +kernel
theorem dL_law_894 : decode cL_law 894 = .ok (.iload 4, 2) := by decide +kernel
theorem dL_law_896 : decode cL_law 896 = .ok (.iconst 1, 1) := by decide +kernel
theorem dL_law_897 : decode cL_law 897 = .ok (.iadd, 1) := by decide +kernel
theorem dL_law_898 : decode cL_law 898 = .ok (.iaload, 1) := by decide +kernel
theorem dL_law_899 : decode cL_law 899 = .ok (.invokevirtual 111, 3) := by decide +kernel
theorem dL_law_902 : decode cL_law 902 = .ok (.if_icmp .eq 42, 3) := by decide +kernel
theorem dL_law_905 : decode cL_law 905 = .ok (.iconst 0, 1) := by decide +kernel
theorem dL_law_906 : decode cL_law 906 = .ok (.ireturn, 1) := by decide +kernel
theorem dL_law_907 : decode cL_law 907 = .ok (.aload_n 1, 1) := by decide +kernel
theorem dL_law_908 : decode cL_law 908 = .ok (.aload_n 0, 1) := by decide +kernel
theorem dL_law_909 : decode cL_law 909 = .ok (.iload 4, 2) := by decide +kernel
theorem dL_law_911 : decode cL_law 911 = .ok (.iconst 1, 1) := by decide +kernel
theorem dL_law_912 : decode cL_law 912 = .ok (.iadd, 1) := by decide +kernel
theorem dL_law_913 : decode cL_law 913 = .ok (.iaload, 1) := by decide +kernel
theorem dL_law_914 : decode cL_law 914 = .ok (.aload_n 0, 1) := by decide +kernel
theorem dL_law_915 : decode cL_law 915 = .ok (.iload 4, 2) := by decide +kernel
theorem dL_law_917 : decode cL_law 917 = .ok (.iconst 2, 1) := by decide +kernel
theorem dL_law_918 : decode cL_law 918 = .ok (.iadd, 1) := by decide +kernel
theorem dL_law_919 : decode cL_law 919 = .ok (.iaload, 1) := by decide +kernel
theorem dL_law_920 : decode cL_law 920 = .ok (.invokevirtual 112, 3) := by decide +kernel
theorem dL_law_923 : decode cL_law 923 = .ok (.aload_n 2, 1) := by decide +kernel
theorem dL_law_924 : decode cL_law 924 = .ok (.aload_n 0, 1) := by decide +kernel
theorem dL_law_925 : decode cL_law 925 = .ok (.iload 4, 2) := by decide +kernel
theorem dL_law_927 : decode cL_law 927 = .ok (.iconst 1, 1) := by decide +kernel
theorem dL_law_928 : decode cL_law 928 = .ok (.iadd, 1) := by decide +kernel
theorem dL_law_929 : decode cL_law 929 = .ok (.iaload, 1) := by decide +kernel
theorem dL_law_930 : decode cL_law 930 = .ok (.aload_n 0, 1) := by decide +kernel
theorem dL_law_931 : decode cL_law 931 = .ok (.iload 4, 2) := by decide +kernel
theorem dL_law_933 : decode cL_law 933 = .ok (.iconst 2, 1) := by decide +kernel
theorem dL_law_934 : decode cL_law 934 = .ok (.iadd, 1) := by decide +kernel
theorem dL_law_935 : decode cL_law 935 = .ok (.iaload, 1) := by decide +kernel
theorem dL_law_936 : decode cL_law 936 = .ok (.invokevirtual 115, 3) := by decide +kernel
theorem dL_law_939 : decode cL_law 939 = .ok (.if_icmp .eq 5, 3) := by decide +kernel
theorem dL_law_942 : decode cL_law 942 = .ok (.iconst 0, 1) := by decide +kernel
theorem dL_law_943 : decode cL_law 943 = .ok (.ireturn, 1) := by decide +kernel
theorem dL_law_944 : decode cL_law 944 = .ok (.iinc 4 6, 3) := by decide +kernel
theorem dL_law_947 : decode cL_law 947 = .ok (.goto (-924), 3) := by decide +kernel
theorem dL_law_950 : decode cL_law 950 = .ok (.iconst 1, 1) := by decide +kernel
theorem dL_law_951 : decode cL_law 951 = .ok (.ireturn, 1) := by decide +kernel
abbrev vwCl : List vw_C := [(RX0, TX0, 7), (RX1, TX1, 3), (RX2, TX2, 2), (RX3, TX3, 2), (RX4, TX4, 2), (RX5, TX5, 6), (RX6, TX6, 14)]
end
section
/-! AN ABSTRACT HEAP: cells by their addresses, as a function; the machine's rows over it.
A method's body is turned (by a program of this repository, wip/gen.py) into a function over such heaps, and its contract says:
where the function answers, the method answers so, and leaves the heap so. -/
/-- a cell: an array of ints or chars (kind 0 or 1, length, contents); of longs; of references to Whole; an object (class's number, fields) -/
abbrev hp_C : Type := (Nat × Nat × (Nat → Int32)) ⊕ ((Nat × (Nat → Int64)) ⊕ ((Nat × (Nat → Option Nat)) ⊕ (Nat × List Value)))
abbrev hp_H : Type := Nat → Option hp_C
abbrev hp_I : Type := ClassId × ClassId × ClassId × ClassId
abbrev hp_G : Type := va_G × hp_I
def hp_ka (c : hp_I) (k : Nat) : ClassId := if k = 0 then c.1 else c.2.1
def hp_E (c : hp_I) : hp_C → va_E
  | .inl a => .inl (hp_ka c a.1, a.2.1, .inl a.2.2)
  | .inr (.inl a) => .inl (c.2.2.1, a.1, .inr (.inl a.2))
  | .inr (.inr (.inl a)) => .inl (c.2.2.2, a.1, .inr (.inr (.inr (.inr a.2))))
  | .inr (.inr (.inr o)) => .inr o
def hp_tys (c : hp_I) : List (ClassId × FieldType) := [(c.1, .int), (c.2.1, .char), (c.2.2.1, .long), (c.2.2.2, .object RX4)]
def hp_P (G : hp_G) (h : hp_H) (H : Heap) : Prop := ∀ (a : Nat) (e : hp_C), h a = some e → va_at G.1 vwCl (a, hp_E G.2 e) H
def hp_K (G : hp_G) (U : State) : Prop := va_K G.1 vwCl (hp_tys G.2) U
def hp_le (h h0 : hp_H) : Prop := ∀ q : Nat, h q ≠ none → h0 q ≠ none
def hp_A (h : hp_H) : Nat → Prop := fun q => h q ≠ none
/-- a method's start -/
def hp_S (G : hp_G) (h : hp_H) (U : State) : Prop := hp_P G h U.heap ∧ hp_K G U
/-- a method's end -/
def hp_B (G : hp_G) (h0 : hp_H) (u : hp_H) (t : State) : Prop := hp_P G u t.heap ∧ hp_K G t ∧ hp_le u h0
/-- what stands while a method runs -/
def hp_X (p : Program) (s : State) (m : MethodId) (args : Array Value) (meth : Method) (c : Code) (cc : ByteArray) (nL : Nat) (own : String) (Ts : List Cond) (ret : Option FieldType) (G : hp_G) : Prop :=
  p.tables.exec = Jvm.exec ∧ c.code = cc ∧ c.maxLocals = nL ∧ s.vm.findClass own = some m.cls ∧ (∀ w ∈ Ts, w.before args s = true) ∧ hp_K G s ∧ meth.sig.returnType = ret ∧ meth.locks = false
/-- what moves while a method runs -/
def hp_Y (G : hp_G) (h h0 : hp_H) (s : State) (H : Heap) (locs : List Loc) : Prop := hp_P G h H ∧ hp_le h h0 ∧ va_S (hp_A h0) s.heap H locs
/-! reading and writing -/
def hp_gv (h : hp_H) (a ci k : Nat) : Option Value := match h a with
  | some (.inr (.inr (.inr (c, fs)))) => if c = ci then fs[k]? else none
  | _ => none
def hp_gi (h : hp_H) (a ci k : Nat) : Option Int32 := match hp_gv h a ci k with
  | some (.int v) => some v
  | _ => none
def hp_gj (h : hp_H) (a ci k : Nat) : Option Int64 := match hp_gv h a ci k with
  | some (.long v) => some v
  | _ => none
def hp_gr (h : hp_H) (a ci k : Nat) : Option Nat := match hp_gv h a ci k with
  | some (.ref v) => some v
  | _ => none
def hp_pv (h : hp_H) (a ci k : Nat) (v : Value) : Option hp_H := match h a with
  | some (.inr (.inr (.inr (c, fs)))) => if c = ci ∧ k < fs.length then some (va_up h a (some (.inr (.inr (.inr (c, fs.set k v)))))) else none
  | _ => none
def hp_ai (h : hp_H) (kd a : Nat) (i : Int32) : Option Int32 := match h a with
  | some (.inl (c, n, f)) => if c = kd ∧ ¬ (i < 0 ∨ n ≤ i.toNatClampNeg) then some (f i.toNatClampNeg) else none
  | _ => none
def hp_si (h : hp_H) (kd a : Nat) (i v : Int32) : Option hp_H := match h a with
  | some (.inl (c, n, f)) => if c = kd ∧ ¬ (i < 0 ∨ n ≤ i.toNatClampNeg) then some (va_up h a (some (.inl (c, n, upd f i.toNatClampNeg v)))) else none
  | _ => none
def hp_sj (h : hp_H) (a : Nat) (i : Int32) (v : Int64) : Option hp_H := match h a with
  | some (.inr (.inl (n, f))) => if ¬ (i < 0 ∨ n ≤ i.toNatClampNeg) then some (va_up h a (some (.inr (.inl (n, vp_updL f i.toNatClampNeg v))))) else none
  | _ => none
def hp_aj (h : hp_H) (a : Nat) (i : Int32) : Option Int64 := match h a with
  | some (.inr (.inl (n, f))) => if ¬ (i < 0 ∨ n ≤ i.toNatClampNeg) then some (f i.toNatClampNeg) else none
  | _ => none
def hp_ar (h : hp_H) (a : Nat) (i : Int32) : Option Nat := match h a with
  | some (.inr (.inr (.inl (n, f)))) => if ¬ (i < 0 ∨ n ≤ i.toNatClampNeg) then f i.toNatClampNeg else none
  | _ => none
/-- System.arraycopy from place 0 to place 0, of ints, between two arrays -/
def hp_cp (h : hp_H) (a b : Nat) (n : Int32) : Option hp_H := match h a, h b with
  | some (.inl (ka, na, f)), some (.inl (kb, nb, g)) => if a ≠ b ∧ ka = 0 ∧ kb = 0 ∧ ¬ n < 0 ∧ n.toNatClampNeg ≤ na ∧ n.toNatClampNeg ≤ nb then some (va_up h b (some (.inl (kb, nb, va_cpy f g 0 0 n.toNatClampNeg)))) else none
  | _, _ => none
def hp_o (h : hp_H) (a ci : Nat) : Bool := match h a with
  | some (.inr (.inr (.inr (c, _)))) => c == ci
  | _ => false
/-- how often a loop may go round -/
def hp_n : Nat := 1000000
/-! small numbers' words -/
def hp_irem (x y : Int32) : Int32 := x - x / y * y
def hp_lrem (x y : Int64) : Int64 := x - x / y * y
def hp_iushr (x y : Int32) : Int32 := (x.toUInt32 >>> (y.toUInt32 &&& Int32.toUInt32 31)).toInt32
def hp_lushr (x : Int64) (y : Int32) : Int64 := (x.toUInt64 >>> (y.toInt64.toUInt64 &&& Int64.toUInt64 63)).toInt64
def hp_lshl (x : Int64) (y : Int32) : Int64 := x <<< (y.toInt64 &&& 63)
def hp_lshr (x : Int64) (y : Int32) : Int64 := x >>> (y.toInt64 &&& 63)
def hp_ishl (x y : Int32) : Int32 := x <<< (y &&& 31)
def hp_ishr (x y : Int32) : Int32 := x >>> (y &&& 31)
def hp_i2c (x : Int32) : Int32 := (x.toUInt32 % 65536).toInt32
def hp_max (x y : Int32) : Int32 := if x < y then y else x
def hp_min (x y : Int32) : Int32 := if y < x then y else x
theorem hp_b {α β : Type} {o : Option α} {f : α → Option β} {r : β} (h : o.bind f = some r) : ∃ v, o = some v ∧ f v = some r := Option.bind_eq_some_iff.mp h
theorem hp_ifp {α : Type} {c : Prop} [Decidable c] {a b : Option α} {r : α} (hc : c) (h : ite c a b = some r) : a = some r := by rw [if_pos hc] at h; exact h
theorem hp_ifn {α : Type} {c : Prop} [Decidable c] {a b : Option α} {r : α} (hc : ¬ c) (h : ite c a b = some r) : b = some r := by rw [if_neg hc] at h; exact h
theorem hp_ift {α : Type} {c : Prop} [Decidable c] {a : Option α} {r : α} (h : ite c a none = some r) : c ∧ a = some r := by
  by_cases hc : c
  · rw [if_pos hc] at h; exact ⟨hc, h⟩
  · rw [if_neg hc] at h; cases h
theorem hp_gv_spec {h : hp_H} {a ci k : Nat} {v : Value} (hv : hp_gv h a ci k = some v) : ∃ fs, h a = some (.inr (.inr (.inr (ci, fs)))) ∧ fs[k]? = some v := by
  unfold hp_gv at hv
  split at hv
  · rename_i c fs he
    split at hv
    · rename_i hc; subst hc; exact ⟨fs, he, hv⟩
    · cases hv
  · cases hv
theorem hp_gi_spec {h : hp_H} {a ci k : Nat} {v : Int32} (hv : hp_gi h a ci k = some v) : hp_gv h a ci k = some (.int v) := by
  unfold hp_gi at hv
  split at hv
  · rename_i w he; cases hv; exact he
  · cases hv
theorem hp_gj_spec {h : hp_H} {a ci k : Nat} {v : Int64} (hv : hp_gj h a ci k = some v) : hp_gv h a ci k = some (.long v) := by
  unfold hp_gj at hv
  split at hv
  · rename_i w he; cases hv; exact he
  · cases hv
theorem hp_gr_spec {h : hp_H} {a ci k : Nat} {v : Nat} (hv : hp_gr h a ci k = some v) : hp_gv h a ci k = some (.ref v) := by
  unfold hp_gr at hv
  split at hv
  · rename_i w he; cases hv; exact he
  · cases hv
theorem hp_pv_spec {h h' : hp_H} {a ci k : Nat} {v : Value} (hv : hp_pv h a ci k v = some h') : ∃ fs, h a = some (.inr (.inr (.inr (ci, fs)))) ∧ k < fs.length ∧ h' = va_up h a (some (.inr (.inr (.inr (ci, fs.set k v))))) := by
  unfold hp_pv at hv
  split at hv
  · rename_i c fs he
    split at hv
    · rename_i hc; obtain ⟨hc, hk⟩ := hc; subst hc; cases hv; exact ⟨fs, he, hk, rfl⟩
    · cases hv
  · cases hv
theorem hp_ai_spec {h : hp_H} {kd a : Nat} {i v : Int32} (hv : hp_ai h kd a i = some v) : ∃ n f, h a = some (.inl (kd, n, f)) ∧ vp_in i n ∧ v = f i.toNatClampNeg := by
  unfold hp_ai at hv
  split at hv
  · rename_i c n f he
    split at hv
    · rename_i hc; obtain ⟨hc, hk⟩ := hc; subst hc; cases hv; exact ⟨n, f, he, hk, rfl⟩
    · cases hv
  · cases hv
theorem hp_si_spec {h h' : hp_H} {kd a : Nat} {i v : Int32} (hv : hp_si h kd a i v = some h') : ∃ n f, h a = some (.inl (kd, n, f)) ∧ vp_in i n ∧ h' = va_up h a (some (.inl (kd, n, upd f i.toNatClampNeg v))) := by
  unfold hp_si at hv
  split at hv
  · rename_i c n f he
    split at hv
    · rename_i hc; obtain ⟨hc, hk⟩ := hc; subst hc; cases hv; exact ⟨n, f, he, hk, rfl⟩
    · cases hv
  · cases hv
theorem hp_sj_spec {h h' : hp_H} {a : Nat} {i : Int32} {v : Int64} (hv : hp_sj h a i v = some h') : ∃ n f, h a = some (.inr (.inl (n, f))) ∧ vp_in i n ∧ h' = va_up h a (some (.inr (.inl (n, vp_updL f i.toNatClampNeg v)))) := by
  unfold hp_sj at hv
  split at hv
  · rename_i n f he
    split at hv
    · rename_i hk; cases hv; exact ⟨n, f, he, hk, rfl⟩
    · cases hv
  · cases hv
theorem hp_ar_spec {h : hp_H} {a v : Nat} {i : Int32} (hv : hp_ar h a i = some v) : ∃ n f, h a = some (.inr (.inr (.inl (n, f)))) ∧ vp_in i n ∧ f i.toNatClampNeg = some v := by
  unfold hp_ar at hv
  split at hv
  · rename_i n f he
    split at hv
    · rename_i hk; exact ⟨n, f, he, hk, hv⟩
    · cases hv
  · cases hv
theorem hp_cp_spec {h h' : hp_H} {a b : Nat} {n : Int32} (hv : hp_cp h a b n = some h') : ∃ na f nb g, h a = some (.inl (0, na, f)) ∧ h b = some (.inl (0, nb, g)) ∧ a ≠ b ∧ ¬ n < 0 ∧ n.toNatClampNeg ≤ na ∧ n.toNatClampNeg ≤ nb ∧ h' = va_up h b (some (.inl (0, nb, va_cpy f g 0 0 n.toNatClampNeg))) := by
  unfold hp_cp at hv
  split at hv
  · rename_i ka na f kb nb g ea eb
    split at hv
    · rename_i hc; obtain ⟨h1, h2, h3, h4, h5, h6⟩ := hc; subst h2; subst h3; cases hv; exact ⟨na, f, nb, g, ea, eb, h1, h4, h5, h6, rfl⟩
    · cases hv
  · cases hv
theorem hp_o_spec {h : hp_H} {a ci : Nat} (hv : hp_o h a ci = true) : ∃ fs, h a = some (.inr (.inr (.inr (ci, fs)))) := by
  unfold hp_o at hv
  split at hv
  · rename_i c fs he
    have := beq_iff_eq.mp hv
    subst this; exact ⟨fs, he⟩
  · cases hv
theorem hp_le.rf {h : hp_H} : hp_le h h := fun _ q => q
theorem hp_le.up {h h0 : hp_H} (hl : hp_le h h0) {a : Nat} (ha : h a ≠ none) (e : hp_C) : hp_le (va_up h a (some e)) h0 := by
  intro q hq
  by_cases hqa : q = a
  · subst hqa; exact hl _ ha
  · rw [va_up_ne _ _ hqa] at hq; exact hl _ hq
theorem hp_le.tr {h h1 h0 : hp_H} (a : hp_le h h1) (b : hp_le h1 h0) : hp_le h h0 := fun q hq => b q (a q hq)
theorem hp_P.up {G : hp_G} {h : hp_H} {H H1 : Heap} {a : Nat} {e : hp_C} (hP : hp_P G h H) (he : va_at G.1 vwCl (a, hp_E G.2 e) H1) (oq : ∀ q : Nat, q ≠ a → H1[q]? = H[q]?) : hp_P G (va_up h a (some e)) H1 := by
  intro b e2 hb
  by_cases hba : b = a
  · subst hba; rw [va_up_self] at hb; cases hb; exact he
  · rw [va_up_ne _ _ hba] at hb; exact (hP b e2 hb).kept (oq b hba)
theorem hp_Y.up {G : hp_G} {h h0 : hp_H} {s : State} {H H1 : Heap} {locs : List Loc} {a k : Nat} {e0 e : hp_C} (Y : hp_Y G h h0 s H locs) (ha : h a = some e0) (he : va_at G.1 vwCl (a, hp_E G.2 e) H1) (z : H1.size = H.size) (oq : ∀ q : Nat, q ≠ a → H1[q]? = H[q]?) : hp_Y G (va_up h a (some e)) h0 s H1 (locs ++ [⟨a, k⟩]) := by
  obtain ⟨hP, hl, hS⟩ := Y
  have hn : h a ≠ none := by rw [ha]; exact fun q => by cases q
  exact ⟨hP.up he oq, hl.up hn e, hS.put z oq (hl a hn)⟩
theorem hp_one {D : va_G} {cl : List vw_C} {q : Nat × va_E} {H : Heap} (h : va_at D cl q H) : va_P D cl [q] H := by
  intro k r hk
  match k, hk with
  | 0, hk => cases hk; exact h
  | k + 1, hk => simp at hk
theorem hp_two {D : va_G} {cl : List vw_C} {q q2 : Nat × va_E} {H : Heap} (h : va_at D cl q H) (h2 : va_at D cl q2 H) : va_P D cl [q, q2] H := by
  intro k r hk
  match k, hk with
  | 0, hk => cases hk; exact h
  | 1, hk => cases hk; exact h2
  | k + 2, hk => simp at hk
theorem hp_blind (G : hp_G) (h : hp_H) (av : List Value) : FrameBlind (va_Pc av (hp_S G h)) := fun a U g mk q => ⟨q.1, q.2.1, va_K.moved (u := U) (U := U.calling g mk a) (Vm.Alike.refl U.vm) q.2.2⟩
end
section
abbrev hp_bo (v : Int32) : Prop := v = 0 ∨ v = 1
theorem hp_bo_n {v : Int32} (h : v = 0 ∨ v = 1) : narrow .boolean (.int v) = .int v := by rcases h with rfl | rfl <;> rfl
theorem hp_bo_f {v : Int32} (h : v = 0 ∨ v = 1) : fits .boolean (.int v) = true := by rcases h with rfl | rfl <;> rfl
theorem hp_out3 {x : Int32} (h0 : ¬ x = 0) (h1 : ¬ x = 1) (h2 : ¬ x = 2) : x.toInt < 0 ∨ 2 < x.toInt := by
  by_cases h : x.toInt < 0
  · exact Or.inl h
  · refine Or.inr ?_
    have e0 : x.toInt ≠ 0 := fun q => h0 (Int32.toInt_inj.mp (by rw [q]; rfl))
    have e1 : x.toInt ≠ 1 := fun q => h1 (Int32.toInt_inj.mp (by rw [q]; rfl))
    have e2 : x.toInt ≠ 2 := fun q => h2 (Int32.toInt_inj.mp (by rw [q]; rfl))
    omega
section HPW
variable {p : Program} {l : Launch} {e : Env} {R : Room} {s : State} {m : MethodId} {args : Array Value} {below : List Frame} {meth : Method} {c : Code} {H : Heap} {locs : List Loc} {cells slots : Nat} {Q : State → Prop}
variable {cc : ByteArray} {nL : Nat} {own : String} {Ts : List Cond} {ret : Option FieldType} {G : hp_G} {h h0 h' : hp_H} {pc : Nat} {ls : Array Slot} {rest : List Value}
theorem hp_ti {x y : Int32} (he : x = y) (k : W p l e R s m args below meth c H locs cells slots Q (F0 m pc ls (.int y :: rest))) : W p l e R s m args below meth c H locs cells slots Q (F0 m pc ls (.int x :: rest)) := by rw [he]; exact k
theorem hp_tj {x y : Int64} (he : x = y) (k : W p l e R s m args below meth c H locs cells slots Q (F0 m pc ls (.long y :: rest))) : W p l e R s m args below meth c H locs cells slots Q (F0 m pc ls (.long x :: rest)) := by rw [he]; exact k
/-- getfield -/
theorem hp_get (X : hp_X p s m args meth c cc nL own Ts ret G) (Y : hp_Y G h h0 s H locs) {C : String} {T : u_T} {N ci k index a : Nat} {v : Value} (hc : vwCl[ci]? = some (C, T, N)) (hin : ∀ w ∈ u_ws C T N, w ∈ Ts) (hk : k < N) (hl : Cond.fieldLink own index (T k).1 (T k).2.1 (T k).2.2.1 ∈ Ts) (hv : hp_gv h a ci k = some v) (hdg : decode cc pc = .ok (.getfield index, 3))
    (kk : W p l e R s m args below meth c H locs cells slots Q (F0 m (pc + 3) ls (v :: rest))) : W p l e R s m args below meth c H locs cells slots Q (F0 m pc ls (.ref a :: rest)) := by
  obtain ⟨hx, hb, hml, hown, hts, hK, hr, hlk⟩ := X
  obtain ⟨fs, ha, hf⟩ := hp_gv_spec hv
  exact va_get (D := G.1) (cl := vwCl) (ws := [(a, .inr (ci, fs))]) (tys := hp_tys G.2) hx hb hts hin hown hK (hp_one (Y.1 a _ ha)) 0 rfl hc k hk (hts _ hl) (fun _ q => q) hf hdg kk
theorem hp_geti (X : hp_X p s m args meth c cc nL own Ts ret G) (Y : hp_Y G h h0 s H locs) {C : String} {T : u_T} {N ci k index a : Nat} {v : Int32} (hc : vwCl[ci]? = some (C, T, N)) (hin : ∀ w ∈ u_ws C T N, w ∈ Ts) (hk : k < N) (hl : Cond.fieldLink own index (T k).1 (T k).2.1 (T k).2.2.1 ∈ Ts) (hv : hp_gi h a ci k = some v) (hdg : decode cc pc = .ok (.getfield index, 3))
    (kk : W p l e R s m args below meth c H locs cells slots Q (F0 m (pc + 3) ls (.int v :: rest))) : W p l e R s m args below meth c H locs cells slots Q (F0 m pc ls (.ref a :: rest)) := hp_get X Y hc hin hk hl (hp_gi_spec hv) hdg kk
theorem hp_getj (X : hp_X p s m args meth c cc nL own Ts ret G) (Y : hp_Y G h h0 s H locs) {C : String} {T : u_T} {N ci k index a : Nat} {v : Int64} (hc : vwCl[ci]? = some (C, T, N)) (hin : ∀ w ∈ u_ws C T N, w ∈ Ts) (hk : k < N) (hl : Cond.fieldLink own index (T k).1 (T k).2.1 (T k).2.2.1 ∈ Ts) (hv : hp_gj h a ci k = some v) (hdg : decode cc pc = .ok (.getfield index, 3))
    (kk : W p l e R s m args below meth c H locs cells slots Q (F0 m (pc + 3) ls (.long v :: rest))) : W p l e R s m args below meth c H locs cells slots Q (F0 m pc ls (.ref a :: rest)) := hp_get X Y hc hin hk hl (hp_gj_spec hv) hdg kk
theorem hp_getr (X : hp_X p s m args meth c cc nL own Ts ret G) (Y : hp_Y G h h0 s H locs) {C : String} {T : u_T} {N ci k index a v : Nat} (hc : vwCl[ci]? = some (C, T, N)) (hin : ∀ w ∈ u_ws C T N, w ∈ Ts) (hk : k < N) (hl : Cond.fieldLink own index (T k).1 (T k).2.1 (T k).2.2.1 ∈ Ts) (hv : hp_gr h a ci k = some v) (hdg : decode cc pc = .ok (.getfield index, 3))
    (kk : W p l e R s m args below meth c H locs cells slots Q (F0 m (pc + 3) ls (.ref v :: rest))) : W p l e R s m args below meth c H locs cells slots Q (F0 m pc ls (.ref a :: rest)) := hp_get X Y hc hin hk hl (hp_gr_spec hv) hdg kk
/-- putfield -/
theorem hp_put (X : hp_X p s m args meth c cc nL own Ts ret G) (Y : hp_Y G h h0 s H locs) {C : String} {T : u_T} {N ci k index a : Nat} {v : Value} {ty0 : Nat → FieldType} (hc : vwCl[ci]? = some (C, T, N)) (hin : ∀ w ∈ u_ws C T N, w ∈ Ts) (hty : ∀ k, k < N → parseFieldDescriptor (T k).2.2.1 = some (ty0 k)) (hnm : ∀ a, a < N → ∀ b, b < N → a ≠ b → (T a).2.1 ≠ (T b).2.1) (hk : k < N) (hl : Cond.fieldLink own index (T k).1 (T k).2.1 (T k).2.2.1 ∈ Ts) (hfin : (T k).2.2.2 = false) (hn : narrow (ty0 k) v = v) (hfit : fits (ty0 k) v = true)
    (hv : hp_pv h a ci k v = some h') (hdg : decode cc pc = .ok (.putfield index, 3))
    (kk : ∀ (H1 : Heap) (locs1 : List Loc), hp_Y G h' h0 s H1 locs1 → W p l e R s m args below meth c H1 locs1 cells slots Q (F0 m (pc + 3) ls rest)) : W p l e R s m args below meth c H locs cells slots Q (F0 m pc ls (v :: .ref a :: rest)) := by
  obtain ⟨hx, hb, hml, hown, hts, hK, hr, hlk⟩ := X
  obtain ⟨fs, ha, hlen, rfl⟩ := hp_pv_spec hv
  have hap := va_apart (D := G.1) (cl := vwCl) (tys := hp_tys G.2) (own := own) hts hin ty0 hty hnm hK hc
  obtain ⟨r, h1, cell, q1, q2, q3, q4⟩ := Y.1 a _ ha
  have hr' : r = (C, T, N) := Option.some.inj (h1.symm.trans hc)
  subst hr'
  obtain ⟨hS, hfc, kC, hkC, hkind⟩ := hK.1 ci _ hc
  obtain ⟨cf, kf, fi, f, hi, hsl⟩ := hS k hk
  have hlay := hts _ (hin _ (u_in_lay hk))
  unfold u_lay at hlay
  rw [if_neg (by rw [hfin]; decide)] at hlay
  have hst := (u_facts hfc hkC (u_lays hts hin hk) hi).1
  have h6 := u_store hfc hkC hkind hlay hi (hty k hk) hn hfit
  refine W.putK hx hb (f := f) ⟨hown, hts _ hl, ⟨_, _, _, hi⟩, hst⟩ (by rw [q2]; exact h6) q1 q3 (by rw [hsl]; exact k2_hasslot (q4 k hk)) rfl rfl hdg fun H' e1 e2 e3 => ?_
  rw [hsl] at e1 ⊢
  exact kk H' _ (Y.up ha ⟨_, hc, t_OB.to (V := updV (vp_V fs) k v) ⟨_, e1, q2, q3, t_set q4 hap hk v⟩ (fun j _ => vp_updV_set hlen v j)⟩ e2 e3)
/-- arrays -/
theorem hp_iald (X : hp_X p s m args meth c cc nL own Ts ret G) (Y : hp_Y G h h0 s H locs) {a : Nat} {i v : Int32} (hv : hp_ai h 0 a i = some v) (hdg : decode cc pc = .ok (.iaload, 1))
    (kk : W p l e R s m args below meth c H locs cells slots Q (F0 m (pc + 1) ls (.int v :: rest))) : W p l e R s m args below meth c H locs cells slots Q (F0 m pc ls (.int i :: .ref a :: rest)) := by
  obtain ⟨hx, hb, hml, hown, hts, hK, hr, hlk⟩ := X
  obtain ⟨n, f, ha, hi, rfl⟩ := hp_ai_spec hv
  exact va_iald (D := G.1) (cl := vwCl) (ws := [(a, .inl (G.2.1, n, .inl f))]) (tys := hp_tys G.2) hx hb hK (hp_one (Y.1 a _ ha)) 0 0 rfl rfl hi hdg kk
theorem hp_cald (X : hp_X p s m args meth c cc nL own Ts ret G) (Y : hp_Y G h h0 s H locs) {a : Nat} {i v : Int32} (hv : hp_ai h 1 a i = some v) (hdg : decode cc pc = .ok (.caload, 1))
    (kk : W p l e R s m args below meth c H locs cells slots Q (F0 m (pc + 1) ls (.int v :: rest))) : W p l e R s m args below meth c H locs cells slots Q (F0 m pc ls (.int i :: .ref a :: rest)) := by
  obtain ⟨hx, hb, hml, hown, hts, hK, hr, hlk⟩ := X
  obtain ⟨n, f, ha, hi, rfl⟩ := hp_ai_spec hv
  exact va_cald (D := G.1) (cl := vwCl) (ws := [(a, .inl (G.2.2.1, n, .inl f))]) (tys := hp_tys G.2) hx hb hK (hp_one (Y.1 a _ ha)) 0 1 rfl rfl hi hdg kk
theorem hp_aald (X : hp_X p s m args meth c cc nL own Ts ret G) (Y : hp_Y G h h0 s H locs) {a v : Nat} {i : Int32} (hv : hp_ar h a i = some v) (hdg : decode cc pc = .ok (.aaload, 1))
    (kk : W p l e R s m args below meth c H locs cells slots Q (F0 m (pc + 1) ls (.ref v :: rest))) : W p l e R s m args below meth c H locs cells slots Q (F0 m pc ls (.int i :: .ref a :: rest)) := by
  obtain ⟨hx, hb, hml, hown, hts, hK, hr, hlk⟩ := X
  obtain ⟨n, f, ha, hi, hf⟩ := hp_ar_spec hv
  refine va_aldq (D := G.1) (cl := vwCl) (ws := [(a, .inl (G.2.2.2.2, n, .inr (.inr (.inr (.inr f)))))]) (tys := hp_tys G.2) (C := RX4) hx hb hK (hp_one (Y.1 a _ ha)) 0 3 rfl rfl hi hdg ?_
  rw [hf]
  exact kk
theorem hp_iast (X : hp_X p s m args meth c cc nL own Ts ret G) (Y : hp_Y G h h0 s H locs) {a : Nat} {i v : Int32} (hv : hp_si h 0 a i v = some h') (hdg : decode cc pc = .ok (.iastore, 1))
    (kk : ∀ (H1 : Heap) (locs1 : List Loc), hp_Y G h' h0 s H1 locs1 → W p l e R s m args below meth c H1 locs1 cells slots Q (F0 m (pc + 1) ls rest)) : W p l e R s m args below meth c H locs cells slots Q (F0 m pc ls (.int v :: .int i :: .ref a :: rest)) := by
  obtain ⟨hx, hb, hml, hown, hts, hK, hr, hlk⟩ := X
  obtain ⟨n, f, ha, hi, rfl⟩ := hp_si_spec hv
  refine W.iast hx hb (Y.1 a _ ha) ((hK.2 0 _ rfl).1 n (fun j => .int (f j))) (fun q => by cases q) (by show ¬ (i < 0 ∨ (arrV _ _ _).slots.size ≤ _); rw [arrV_size]; exact hi) rfl rfl hdg fun H1 e z oq => ?_
  refine kk H1 _ (Y.up ha ?_ z oq)
  show H1[a]? = some (vp_cell _ _)
  rw [e]
  show some (Cell.setSlot (vp_cell _ (n, Sum.inl f)) _ _) = some (vp_cell _ (n, Sum.inl _))
  rw [vp_cell_i, vp_cell_i, arrV_store]
  congr 2
  funext q
  by_cases hq : q = i.toNatClampNeg
  · subst hq
    simp [updV, upd]
  · simp [updV, upd, hq]
theorem hp_cast (X : hp_X p s m args meth c cc nL own Ts ret G) (Y : hp_Y G h h0 s H locs) {a : Nat} {i v : Int32} (hv : hp_si h 1 a i (vp_nar .char v) = some h') (hdg : decode cc pc = .ok (.castore, 1))
    (kk : ∀ (H1 : Heap) (locs1 : List Loc), hp_Y G h' h0 s H1 locs1 → W p l e R s m args below meth c H1 locs1 cells slots Q (F0 m (pc + 1) ls rest)) : W p l e R s m args below meth c H locs cells slots Q (F0 m pc ls (.int v :: .int i :: .ref a :: rest)) := by
  obtain ⟨hx, hb, hml, hown, hts, hK, hr, hlk⟩ := X
  obtain ⟨n, f, ha, hi, rfl⟩ := hp_si_spec hv
  refine W.cast hx hb (Y.1 a _ ha) ((hK.2 1 _ rfl).1 n (fun j => .int (f j))) (fun q => by cases q) (by show ¬ (i < 0 ∨ (arrV _ _ _).slots.size ≤ _); rw [arrV_size]; exact hi) rfl rfl hdg fun H1 e z oq => ?_
  refine kk H1 _ (Y.up ha ?_ z oq)
  show H1[a]? = some (vp_cell _ _)
  rw [e]
  show some (Cell.setSlot (vp_cell _ (n, Sum.inl f)) _ _) = some (vp_cell _ (n, Sum.inl _))
  rw [vp_cell_i, vp_cell_i, arrV_store]
  congr 2
  funext q
  by_cases hq : q = i.toNatClampNeg
  · subst hq
    simp [updV, upd, vp_nar]
    try rfl
  · simp [updV, upd, hq]
theorem hp_last (X : hp_X p s m args meth c cc nL own Ts ret G) (Y : hp_Y G h h0 s H locs) {a : Nat} {i : Int32} {v : Int64} (hv : hp_sj h a i v = some h') (hdg : decode cc pc = .ok (.lastore, 1))
    (kk : ∀ (H1 : Heap) (locs1 : List Loc), hp_Y G h' h0 s H1 locs1 → W p l e R s m args below meth c H1 locs1 cells slots Q (F0 m (pc + 1) ls rest)) : W p l e R s m args below meth c H locs cells slots Q (F0 m pc ls (.long v :: .int i :: .ref a :: rest)) := by
  obtain ⟨hx, hb, hml, hown, hts, hK, hr, hlk⟩ := X
  obtain ⟨n, f, ha, hi, rfl⟩ := hp_sj_spec hv
  refine W.last hx hb (Y.1 a _ ha) ((hK.2 2 _ rfl).1 n (fun j => .long (f j))) (fun q => by cases q) (by show ¬ (i < 0 ∨ (arrV _ _ _).slots.size ≤ _); rw [arrV_size]; exact hi) rfl rfl hdg fun H1 e z oq => ?_
  refine kk H1 _ (Y.up ha ?_ z oq)
  show H1[a]? = some (vp_cell _ _)
  rw [e]
  show some (Cell.setSlot (arrV _ n (fun j => Value.long (f j))) _ _) = some (arrV _ n (fun j => Value.long (vp_updL f i.toNatClampNeg v j)))
  rw [arrV_store]
  congr 2
  funext q
  by_cases hq : q = i.toNatClampNeg
  · subst hq
    simp [updV, vp_updL]
  · simp [updV, vp_updL, hq]
/-- System.arraycopy(a, 0, b, 0, n) of ints -/
theorem hp_acp (X : hp_X p s m args meth c cc nL own Ts ret G) (Y : hp_Y G h h0 s H locs) (hsz : ls.size = nL) {index a b : Nat} {n : Int32} (l1 : Cond.methodLink own index arraycopyName ∈ Ts) (l2 : Cond.native arraycopyName ∈ Ts) (l3 : Cond.static arraycopyName ∈ Ts) (l4 : Cond.initialized "java/lang/System" ∈ Ts)
    (hframes : 1 ≤ R.frames) (hlocals : (rest.map fun v => v.category).sum + (nativeFrameWords "java/lang/System" "arraycopy" 5 + 11) ≤ R.locals) (hv : hp_cp h a b n = some h') (hdg : decode cc pc = .ok (.invokestatic index, 3))
    (kk : ∀ (H1 : Heap) (locs1 : List Loc), hp_Y G h' h0 s H1 locs1 → W p l e R s m args below meth c H1 locs1 cells slots Q (F0 m (pc + 3) ls rest)) : W p l e R s m args below meth c H locs cells slots Q (F0 m pc ls (.int n :: .int 0 :: .ref b :: .int 0 :: .ref a :: rest)) := by
  obtain ⟨hx, hb, hml, hown, hts, hK, hr, hlk⟩ := X
  obtain ⟨na, f, nb, g, ea, eb, hab, h3, h4, h5, rfl⟩ := hp_cp_spec hv
  have nn : ∀ z : Int32, ¬ z < 0 → z.toInt = (z.toNatClampNeg : Int) := by
    intro z hz
    have hz0 : (0 : Int) ≤ z.toInt := by
      have := Int32.not_lt.mp hz
      simpa using Int32.le_iff_toInt_le.mp this
    show z.toInt = ((z.toInt.toNat : Nat) : Int)
    omega
  have z0 : (0 : Int32).toNatClampNeg = 0 := rfl
  have z1 : ¬ (0 : Int32) < 0 := by decide
  intro T hT X
  have hc0 : H[a]? = some (vp_cell G.2.1 (na, .inl f)) := Y.1 a _ ea
  have hc1 : H[b]? = some (vp_cell G.2.1 (nb, .inl g)) := Y.1 b _ eb
  obtain ⟨-, k0, hk0, cm0, hkk0⟩ := (hK.2 0 _ rfl).1 na (fun j => .int (f j))
  obtain ⟨-, k1, hk1, cm1, hkk1⟩ := (hK.2 0 _ rfl).1 nb (fun j => .int (g j))
  obtain ⟨vm', X', step⟩ := X.arraycopy hx hown (hts _ l1) (hts _ l2) (hts _ l3) (hts _ l4) (src := a) (dst := b) (cs := vp_cell G.2.1 (na, .inl f)) (cd := vp_cell G.2.1 (nb, .inl g)) (srcPos := 0) (destPos := 0) (n := n) (by rw [hT]; exact hc0) (by rw [hT]; exact hc1)
    (fun _ h => by cases h) (fun _ h => by cases h) (fun h => by cases h) (fun h => by cases h) hk0 hk1 hkk0 hkk1 (by simp [refKind]) z1 z1 h3
    (by rw [nn 0 z1, nn n h3, z0]; show ¬ _ > ((arrV _ na (fun j => Value.int (f j))).slots.size : Int); rw [arrV_size]; omega)
    (by rw [nn 0 z1, nn n h3, z0]; show ¬ _ > ((arrV _ nb (fun j => Value.int (g j))).slots.size : Int); rw [arrV_size]; omega)
    (fun vm₁ _ i hi => by
      have e : (vp_cell G.2.1 (na, .inl f)).slots.getD ((0 : Int32).toNatClampNeg + i) .null = .int (f ((0 : Int32).toNatClampNeg + i)) := by
        show (arrV _ na (fun j => Value.int (f j))).slots.getD _ _ = _
        rw [Array.getD_eq_getD_getElem?, arrV_read _ _ (by rw [z0]; omega)]
        rfl
      refine ⟨?_, ?_⟩
      · rw [e]
        rfl
      · rw [e]
        exact trivial)
    (g := F0 m pc ls (.int n :: .int 0 :: .ref b :: .int 0 :: .ref a :: rest)) rfl (by rw [hml]; exact hsz) (rest := rest) rfl (by rw [hb]; exact hdg) hframes (by show 2 * 0 + _ + _ ≤ _; omega)
  have e1 : copied (vp_cell G.2.1 (na, .inl f)) (vp_cell G.2.1 (nb, .inl g)) 0 0 n = vp_cell G.2.1 (nb, .inl (va_cpy f g 0 0 n.toNatClampNeg)) := va_copied (fun z => .int z) G.2.1 G.2.1 f g (by rw [z0]; omega)
  rw [e1] at X' step
  have hl : b < H.size := (Array.getElem?_eq_some_iff.mp hc1).1
  have hheap : ((T.setVm vm').setCell b (vp_cell G.2.1 (nb, .inl (va_cpy f g 0 0 n.toNatClampNeg)))).heap = H.setIfInBounds b (vp_cell G.2.1 (nb, .inl (va_cpy f g 0 0 n.toNatClampNeg))) := by rw [← hT]; rfl
  have oq : ∀ q : Nat, q ≠ b → (H.setIfInBounds b (vp_cell G.2.1 (nb, .inl (va_cpy f g 0 0 n.toNatClampNeg))))[q]? = H[q]? := fun q hq => by simp [Array.getElem?_setIfInBounds, Ne.symm hq]
  have hbn : h b ≠ none := by rw [eb]; exact fun q => by cases q
  obtain ⟨t, a1, b1⟩ := kk _ _ ⟨Y.1.up (e := .inl (0, nb, va_cpy f g 0 0 n.toNatClampNeg)) (show (H.setIfInBounds b _)[b]? = some _ by simp [Array.getElem?_setIfInBounds, hl]; rfl) oq, Y.2.1.up hbn _, by simp; exact Y.2.2.1, fun q g1 g2 => by
      rw [oq q (fun e => g2 (by rw [e]; exact Y.2.1 b hbn))]
      exact Y.2.2.2.1 q g1 g2, fun q hq => by
      rcases List.mem_append.mp hq with h | h
      · exact Y.2.2.2.2 q h
      · obtain ⟨z, -, hz⟩ := List.mem_map.mp h
        rw [← hz]
        exact Y.2.1 b hbn⟩ _ hheap X'
  exact ⟨t, step t a1, b1⟩
/-- calls: what a callee needs, out of the words -/
theorem hp_recv (X : hp_X p s m args meth c cc nL own Ts ret G) (Y : hp_Y G h h0 s H locs) {b ci : Nat} {q : vw_C} (hc : vwCl[ci]? = some q) (ho : hp_o h b ci = true) : ∃ cell : Cell, H[b]? = some cell ∧ cell.vm.isStatics = false ∧ s.vm.findClass q.1 = some cell.cls := by
  obtain ⟨fs, ha⟩ := hp_o_spec ho
  exact va_recv (ws := [(b, .inr (ci, fs))]) X.2.2.2.2.2.1 (hp_one (Y.1 b _ ha)) hc (q0 := 0) rfl
theorem hp_pre (X : hp_X p s m args meth c cc nL own Ts ret G) (Y : hp_Y G h h0 s H locs) {av : List Value} : ∀ U : State, U.heap = H → s.WarmedH U.vm → va_Pc av (hp_S G h) av.toArray U := fun U hU hW => ⟨rfl, by rw [hU]; exact Y.1, va_K.moved hW.alike X.2.2.2.2.2.1⟩
theorem hp_back (Y : hp_Y G h h0 s H locs) {H1 : Heap} {locs1 : List Loc} {t : State} (ht : t.heap = H1) (hB : hp_B G h h' t) (hS : va_S (hp_A h0) s.heap H1 locs1) : hp_Y G h' h0 s H1 locs1 := by
  obtain ⟨h1, h2, h3⟩ := hB
  rw [ht] at h1
  exact ⟨h1, h3.tr Y.2.1, hS⟩
section CALLS
variable {y : MethodName} {ws ws' : List Cond} {rm : Room} {bytes : ByteArray} {maxL index n ci b : Nat} {rty : Option FieldType} {As : List Value} {T : u_T} {N : Nat}
theorem hp_runV (X : hp_X p s m args meth c cc nL own Ts ret G) (Y : hp_Y G h h0 s H locs) {Qc : Array Value → State → Outcome → State → Prop} (hM : Met l y ws rm (va_Pc (.ref b :: As) (hp_S G h)) Qc 0 0 (hp_A h))
    (hc : vwCl[ci]? = some (y.cls, T, N)) (ho : hp_o h b ci = true) (hT : GoodIn Ts (wsV own index y.cls y ws)) (hw : ws = Cond.code y bytes maxL rty :: ws') (hrc : rm.cells = 0) (hrs : rm.slots = 0)
    (hd : y.cls ≠ "java/lang/invoke/MethodHandle" ∧ y.cls ≠ "java/lang/invoke/VarHandle" ∧ (parseMethodDescriptor y.desc).map (fun d => d.parameters.length) = some n) (hR : rm.frames + 1 ≤ R.frames ∧ 8 + (maxL + 11) + rm.locals ≤ R.locals)
    (hn : As.length = n) (hsize : ls.size = nL) {st0 : List Value} (hst : st0 = As.reverse ++ .ref b :: rest) (hW : (rest.map fun v => v.category).sum ≤ 8) (hdg : decode cc pc = .ok (.invokevirtual index, 3)) (hf : cells ≤ R.cells ∧ slots ≤ R.slots) :
    va_Run p l e R s m args below meth c H locs cells slots 0 0 (F0 m pc ls st0) rest (Qc (Value.ref b :: As).toArray) (hp_A h) :=
  va_runV ⟨X.1, X.2.1, X.2.2.1, X.2.2.2.1, X.2.2.2.2.1⟩ hM (cwV n X.2.2.2.2.1 hT hw hrc hrs ⟨rfl, hd⟩ hR) ⟨hp_blind G h _, hp_recv X Y hc ho, hp_pre X Y⟩ rfl hn hsize hst (lv_room hW) hdg ⟨hf.1, hf.2⟩
theorem hp_runS (X : hp_X p s m args meth c cc nL own Ts ret G) (Y : hp_Y G h h0 s H locs) {Qc : Array Value → State → Outcome → State → Prop} (hM : Met l y ws rm (va_Pc As (hp_S G h)) Qc 0 0 (hp_A h))
    (hT : GoodIn Ts (va_wsS own index y ws)) (hw : ws = Cond.code y bytes maxL rty :: ws') (hrc : rm.cells = 0) (hrs : rm.slots = 0)
    (hd : y.cls ≠ "java/lang/invoke/MethodHandle" ∧ y.cls ≠ "java/lang/invoke/VarHandle" ∧ (parseMethodDescriptor y.desc).map (fun d => d.parameters.length) = some n) (hR : rm.frames + 1 ≤ R.frames ∧ 8 + (maxL + 11) + rm.locals ≤ R.locals)
    (hn : As.length = n) (hsize : ls.size = nL) {st0 : List Value} (hst : st0 = As.reverse ++ rest) (hW : (rest.map fun v => v.category).sum ≤ 8) (hdg : decode cc pc = .ok (.invokestatic index, 3)) (hf : cells ≤ R.cells ∧ slots ≤ R.slots) :
    va_Run p l e R s m args below meth c H locs cells slots 0 0 (F0 m pc ls st0) rest (Qc As.toArray) (hp_A h) :=
  va_runS ⟨X.1, X.2.1, X.2.2.1, X.2.2.2.1, X.2.2.2.2.1⟩ hM (va_cwS n X.2.2.2.2.1 hT hw hrc hrs hd hR) ⟨hp_blind G h _, hp_pre X Y⟩ rfl hn hsize hst (lv_room hW) hdg ⟨hf.1, hf.2⟩
theorem hp_ci (Y : hp_Y G h h0 s H locs) {a : Array Value} {r : Int32} {st0 : List Value} (hr : va_Run p l e R s m args below meth c H locs cells slots 0 0 (F0 m pc ls st0) rest (va_Qi (fun r' u => r' = r ∧ u = h') (hp_B G h) (hp_A h) a) (hp_A h))
    (kk : ∀ (H1 : Heap) (locs1 : List Loc), hp_Y G h' h0 s H1 locs1 → W p l e R s m args below meth c H1 locs1 cells slots Q (F0 m (pc + 3) ls (.int r :: rest))) : W p l e R s m args below meth c H locs cells slots Q (F0 m pc ls st0) :=
  va_calli hr Y.2.2 (fun q _ z => Y.2.1 q z) Y.2.1 (fun r' u t H1 locs1 ht hvm hp hB hz hk hS => by
    obtain ⟨rfl, rfl⟩ := hp
    exact kk H1 locs1 (hp_back Y ht hB hS))
theorem hp_cj (Y : hp_Y G h h0 s H locs) {a : Array Value} {r : Int64} {st0 : List Value} (hr : va_Run p l e R s m args below meth c H locs cells slots 0 0 (F0 m pc ls st0) rest (va_Ql (fun r' u => r' = r ∧ u = h') (hp_B G h) (hp_A h) a) (hp_A h))
    (kk : ∀ (H1 : Heap) (locs1 : List Loc), hp_Y G h' h0 s H1 locs1 → W p l e R s m args below meth c H1 locs1 cells slots Q (F0 m (pc + 3) ls (.long r :: rest))) : W p l e R s m args below meth c H locs cells slots Q (F0 m pc ls st0) :=
  va_calll hr Y.2.2 (fun q _ z => Y.2.1 q z) Y.2.1 (fun r' u t H1 locs1 ht hvm hp hB hz hk hS => by
    obtain ⟨rfl, rfl⟩ := hp
    exact kk H1 locs1 (hp_back Y ht hB hS))
theorem hp_cv (Y : hp_Y G h h0 s H locs) {a : Array Value} {st0 : List Value} (hr : va_Run p l e R s m args below meth c H locs cells slots 0 0 (F0 m pc ls st0) rest (va_Qv (fun u => u = h') (hp_B G h) (hp_A h) a) (hp_A h))
    (kk : ∀ (H1 : Heap) (locs1 : List Loc), hp_Y G h' h0 s H1 locs1 → W p l e R s m args below meth c H1 locs1 cells slots Q (F0 m (pc + 3) ls rest)) : W p l e R s m args below meth c H locs cells slots Q (F0 m pc ls st0) :=
  va_callv hr Y.2.2 (fun q _ z => Y.2.1 q z) Y.2.1 (fun u t H1 locs1 ht hvm hp hB hz hk hS => by
    subst hp
    exact kk H1 locs1 (hp_back Y ht hB hS))
theorem hp_cr (Y : hp_Y G h h0 s H locs) {a : Array Value} {r : Nat} {st0 : List Value} (hr : va_Run p l e R s m args below meth c H locs cells slots 0 0 (F0 m pc ls st0) rest (va_Qr (fun u => u = h') (fun u ra t => hp_B G h u t ∧ ra = r) (hp_A h) a) (hp_A h))
    (kk : ∀ (H1 : Heap) (locs1 : List Loc), hp_Y G h' h0 s H1 locs1 → W p l e R s m args below meth c H1 locs1 cells slots Q (F0 m (pc + 3) ls (.ref r :: rest))) : W p l e R s m args below meth c H locs cells slots Q (F0 m pc ls st0) :=
  va_callr hr Y.2.2 (fun q _ z => Y.2.1 q z) Y.2.1 (fun u ra t H1 locs1 ht hvm hp hB hz hk hS => by
    subst hp
    obtain ⟨hB, rfl⟩ := hB
    exact kk H1 locs1 (hp_back Y ht hB hS))
end CALLS
/-- a method's last instruction -/
theorem hp_ri (X : hp_X p s m args meth c cc nL own Ts ret G) (Y : hp_Y G h h0 s H locs) {ty : FieldType} (hr : ret = some ty) {v : Int32} (hn : narrow ty (.int v) = .int v) (hdg : decode cc pc = .ok (.ireturn, 1)) :
    W p l e R s m args below meth c H locs cells slots (MQ below (va_Qi (fun r' u => r' = v ∧ u = h) (hp_B G h0) (hp_A h0)) args s cells slots (hp_A h0)) (F0 m pc ls [.int v]) :=
  W.zret X.1 X.2.1 (X.2.2.2.2.2.2.1.trans hr) hn (fun t ht hW => ⟨⟨v, h, rfl, ⟨rfl, rfl⟩, by rw [ht]; exact Y.1, va_K.moved hW.alike X.2.2.2.2.2.1, Y.2.1⟩, Y.2.2.F ht⟩) Y.2.2.2.2 hdg X.2.2.2.2.2.2.2
theorem hp_rj (X : hp_X p s m args meth c cc nL own Ts ret G) (Y : hp_Y G h h0 s H locs) (hr : ret = some .long) {v : Int64} (hdg : decode cc pc = .ok (.lreturn, 1)) :
    W p l e R s m args below meth c H locs cells slots (MQ below (va_Ql (fun r' u => r' = v ∧ u = h) (hp_B G h0) (hp_A h0)) args s cells slots (hp_A h0)) (F0 m pc ls [.long v]) :=
  W.lret X.1 X.2.1 (X.2.2.2.2.2.2.1.trans hr) (fun t ht hW => ⟨⟨v, h, rfl, ⟨rfl, rfl⟩, by rw [ht]; exact Y.1, va_K.moved hW.alike X.2.2.2.2.2.1, Y.2.1⟩, Y.2.2.F ht⟩) Y.2.2.2.2 hdg X.2.2.2.2.2.2.2
theorem hp_rv (X : hp_X p s m args meth c cc nL own Ts ret G) (Y : hp_Y G h h0 s H locs) (hr : ret = none) (hdg : decode cc pc = .ok (.return_, 1)) :
    W p l e R s m args below meth c H locs cells slots (MQ below (va_Qv (fun u => u = h) (hp_B G h0) (hp_A h0)) args s cells slots (hp_A h0)) (F0 m pc ls []) :=
  W.vret X.1 X.2.1 (X.2.2.2.2.2.2.1.trans hr) (fun t ht hW => ⟨⟨h, rfl, rfl, by rw [ht]; exact Y.1, va_K.moved hW.alike X.2.2.2.2.2.1, Y.2.1⟩, Y.2.2.F ht⟩) Y.2.2.2.2 hdg X.2.2.2.2.2.2.2
theorem hp_rr (X : hp_X p s m args meth c cc nL own Ts ret G) (Y : hp_Y G h h0 s H locs) {rt : FieldType} (hr : ret = some rt) (hrt : (∃ n, rt = .object n) ∨ ∃ t, rt = .array t) {v : Nat} (hdg : decode cc pc = .ok (.areturn, 1)) :
    W p l e R s m args below meth c H locs cells slots (MQ below (va_Qr (fun u => u = h) (fun u ra t => hp_B G h0 u t ∧ ra = v) (hp_A h0)) args s cells slots (hp_A h0)) (F0 m pc ls [.ref v]) :=
  W.aret X.1 X.2.1 (X.2.2.2.2.2.2.1.trans hr) hrt (Or.inr ⟨v, rfl⟩) (fun t ht hW => ⟨⟨h, v, rfl, rfl, ⟨by rw [ht]; exact Y.1, va_K.moved hW.alike X.2.2.2.2.2.1, Y.2.1⟩, rfl⟩, Y.2.2.F ht⟩) Y.2.2.2.2 hdg X.2.2.2.2.2.2.2
/-- a contract out of its body -/
theorem hp_met {y : MethodName} {ws ws' : List Cond} {rm : Room} {av : List Value} {Qc : Array Value → State → Outcome → State → Prop} (hy : plainName y.cls = true) (hw : ws = Cond.code y cc nL ret :: ws')
    (body : ∀ {p : Program} {e : Env} {s : State} {m : MethodId} {below : List Frame} {meth : Method} {c : Code}, hp_X p s m av.toArray meth c cc nL y.cls ws ret G → hp_Y G h h s s.heap [] → W p l e rm s m av.toArray below meth c s.heap [] 0 0 (MQ below Qc av.toArray s 0 0 (hp_A h)) (entryFrame m av.toArray nL)) :
    Met l y ws rm (va_Pc av (hp_S G h)) Qc 0 0 (hp_A h) := by
  refine Met.ofW (cc := cc) (maxL := nL) (ret := ret) hy hw ?_
  intro p e s m args below meth c s₁ B hml hv
  obtain ⟨rfl, hP, hK⟩ := hv
  exact body ⟨B.exec, B.bytes, hml, findClass_of_methodNamed B.named, atoms_spec (ws := ws) B.pre, hK, B.returns, B.notSynchronized⟩ ⟨hP, hp_le.rf, va_S.rf⟩
end HPW
end
