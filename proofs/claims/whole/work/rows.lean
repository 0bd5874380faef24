section
-- ===== PART A: goes FIRST, ahead of the names: the tables' words, and 'selects' of the private methods out of them =====
/-- a private method of a class that the tables say can be made, by its rows of tables_1 -/
def lw_okq (q : MethodName × Nat) : Prop := (q.1.cls ≠ "java/lang/invoke/MethodHandle" ∧ q.1.cls ≠ "java/lang/invoke/VarHandle") ∧ Cond.instantiable q.1.cls q.2 ∈ tables_1 ∧ Cond.privateMethod q.1 ∈ tables_1 ∧ Cond.instanceMethod q.1 ∈ tables_1
theorem lw_p0 : lw_okq (⟨"PartsDesk", "takeApart", "()V"⟩, 11) := ⟨⟨by decide +kernel, by decide +kernel⟩, List.mem_of_getElem? (i := 14) (by decide +kernel), List.mem_of_getElem? (i := 50) (by decide +kernel), List.mem_of_getElem? (i := 51) (by decide +kernel)⟩
theorem lw_p1 : lw_okq (⟨"PartsDesk", "makePartsOf", "(I)V"⟩, 11) := ⟨⟨by decide +kernel, by decide +kernel⟩, List.mem_of_getElem? (i := 14) (by decide +kernel), List.mem_of_getElem? (i := 88) (by decide +kernel), List.mem_of_getElem? (i := 89) (by decide +kernel)⟩
theorem lw_p2 : lw_okq (⟨"PartsDesk", "multiplyOtherFactors", "(I)V"⟩, 11) := ⟨⟨by decide +kernel, by decide +kernel⟩, List.mem_of_getElem? (i := 14) (by decide +kernel), List.mem_of_getElem? (i := 92) (by decide +kernel), List.mem_of_getElem? (i := 93) (by decide +kernel)⟩
theorem lw_p3 : lw_okq (⟨"PartsDesk", "keepPart", "(IIJJ)V"⟩, 11) := ⟨⟨by decide +kernel, by decide +kernel⟩, List.mem_of_getElem? (i := 14) (by decide +kernel), List.mem_of_getElem? (i := 96) (by decide +kernel), List.mem_of_getElem? (i := 97) (by decide +kernel)⟩
theorem lw_p4 : lw_okq (⟨"PartsDesk", "readPolynomial", "()Z"⟩, 11) := ⟨⟨by decide +kernel, by decide +kernel⟩, List.mem_of_getElem? (i := 14) (by decide +kernel), List.mem_of_getElem? (i := 176) (by decide +kernel), List.mem_of_getElem? (i := 177) (by decide +kernel)⟩
theorem lw_p5 : lw_okq (⟨"PartsDesk", "readTerm", "(Z)Z"⟩, 11) := ⟨⟨by decide +kernel, by decide +kernel⟩, List.mem_of_getElem? (i := 14) (by decide +kernel), List.mem_of_getElem? (i := 181) (by decide +kernel), List.mem_of_getElem? (i := 182) (by decide +kernel)⟩
theorem lw_p6 : lw_okq (⟨"PartsDesk", "readNumber", "()I"⟩, 11) := ⟨⟨by decide +kernel, by decide +kernel⟩, List.mem_of_getElem? (i := 14) (by decide +kernel), List.mem_of_getElem? (i := 193) (by decide +kernel), List.mem_of_getElem? (i := 194) (by decide +kernel)⟩
theorem lw_p7 : lw_okq (⟨"PartsDesk", "readPowerOfX", "()I"⟩, 11) := ⟨⟨by decide +kernel, by decide +kernel⟩, List.mem_of_getElem? (i := 14) (by decide +kernel), List.mem_of_getElem? (i := 201) (by decide +kernel), List.mem_of_getElem? (i := 202) (by decide +kernel)⟩
theorem lw_p8 : lw_okq (⟨"java/lang/Throwable", "fillInStackTrace", "(I)Ljava/lang/Throwable;"⟩, 6) := ⟨⟨by decide +kernel, by decide +kernel⟩, List.mem_of_getElem? (i := 251) (by decide +kernel), List.mem_of_getElem? (i := 249) (by decide +kernel), List.mem_of_getElem? (i := 250) (by decide +kernel)⟩
theorem lw_p9 : lw_okq (⟨"PartsDesk", "readProduct", "()Z"⟩, 11) := ⟨⟨by decide +kernel, by decide +kernel⟩, List.mem_of_getElem? (i := 14) (by decide +kernel), List.mem_of_getElem? (i := 293) (by decide +kernel), List.mem_of_getElem? (i := 294) (by decide +kernel)⟩
theorem lw_p10 : lw_okq (⟨"PartsDesk", "readFactor", "()Z"⟩, 11) := ⟨⟨by decide +kernel, by decide +kernel⟩, List.mem_of_getElem? (i := 14) (by decide +kernel), List.mem_of_getElem? (i := 300) (by decide +kernel), List.mem_of_getElem? (i := 301) (by decide +kernel)⟩
theorem lw_p11 : lw_okq (⟨"PartsDesk", "readRoot", "()I"⟩, 11) := ⟨⟨by decide +kernel, by decide +kernel⟩, List.mem_of_getElem? (i := 14) (by decide +kernel), List.mem_of_getElem? (i := 304) (by decide +kernel), List.mem_of_getElem? (i := 305) (by decide +kernel)⟩
theorem lw_p12 : lw_okq (⟨"PartsDesk", "partAbove", "(II)J"⟩, 11) := ⟨⟨by decide +kernel, by decide +kernel⟩, List.mem_of_getElem? (i := 14) (by decide +kernel), List.mem_of_getElem? (i := 340) (by decide +kernel), List.mem_of_getElem? (i := 341) (by decide +kernel)⟩
theorem lw_p13 : lw_okq (⟨"PartsDesk", "partBelow", "(II)J"⟩, 11) := ⟨⟨by decide +kernel, by decide +kernel⟩, List.mem_of_getElem? (i := 14) (by decide +kernel), List.mem_of_getElem? (i := 344) (by decide +kernel), List.mem_of_getElem? (i := 345) (by decide +kernel)⟩
theorem lw_p14 : lw_okq (⟨"PartsDesk", "isInIntegral", "(II)Z"⟩, 11) := ⟨⟨by decide +kernel, by decide +kernel⟩, List.mem_of_getElem? (i := 14) (by decide +kernel), List.mem_of_getElem? (i := 355) (by decide +kernel), List.mem_of_getElem? (i := 356) (by decide +kernel)⟩
theorem lw_p15 : lw_okq (⟨"PartsDesk", "withPartsOf", "(IDD)D"⟩, 11) := ⟨⟨by decide +kernel, by decide +kernel⟩, List.mem_of_getElem? (i := 14) (by decide +kernel), List.mem_of_getElem? (i := 396) (by decide +kernel), List.mem_of_getElem? (i := 397) (by decide +kernel)⟩
def lw_privs_1 : List (MethodName × Nat) := [(⟨"PartsDesk", "takeApart", "()V"⟩, 11), (⟨"PartsDesk", "makePartsOf", "(I)V"⟩, 11), (⟨"PartsDesk", "multiplyOtherFactors", "(I)V"⟩, 11), (⟨"PartsDesk", "keepPart", "(IIJJ)V"⟩, 11), (⟨"PartsDesk", "readPolynomial", "()Z"⟩, 11), (⟨"PartsDesk", "readTerm", "(Z)Z"⟩, 11), (⟨"PartsDesk", "readNumber", "()I"⟩, 11), (⟨"PartsDesk", "readPowerOfX", "()I"⟩, 11), (⟨"java/lang/Throwable", "fillInStackTrace", "(I)Ljava/lang/Throwable;"⟩, 6), (⟨"PartsDesk", "readProduct", "()Z"⟩, 11), (⟨"PartsDesk", "readFactor", "()Z"⟩, 11), (⟨"PartsDesk", "readRoot", "()I"⟩, 11), (⟨"PartsDesk", "partAbove", "(II)J"⟩, 11), (⟨"PartsDesk", "partBelow", "(II)J"⟩, 11), (⟨"PartsDesk", "isInIntegral", "(II)Z"⟩, 11), (⟨"PartsDesk", "withPartsOf", "(IDD)D"⟩, 11)]
theorem lw_r1 : ∀ q ∈ lw_privs_1, lw_okq q := List.forall_mem_cons.mpr ⟨lw_p0, List.forall_mem_cons.mpr ⟨lw_p1, List.forall_mem_cons.mpr ⟨lw_p2, List.forall_mem_cons.mpr ⟨lw_p3, List.forall_mem_cons.mpr ⟨lw_p4, List.forall_mem_cons.mpr ⟨lw_p5, List.forall_mem_cons.mpr ⟨lw_p6, List.forall_mem_cons.mpr ⟨lw_p7, List.forall_mem_cons.mpr ⟨lw_p8, List.forall_mem_cons.mpr ⟨lw_p9, List.forall_mem_cons.mpr ⟨lw_p10, List.forall_mem_cons.mpr ⟨lw_p11, List.forall_mem_cons.mpr ⟨lw_p12, List.forall_mem_cons.mpr ⟨lw_p13, List.forall_mem_cons.mpr ⟨lw_p14, List.forall_mem_cons.mpr ⟨lw_p15, fun _ h => absurd h List.not_mem_nil⟩⟩⟩⟩⟩⟩⟩⟩⟩⟩⟩⟩⟩⟩⟩⟩
theorem lw_p16 : lw_okq (⟨"PartsDeskModel", "readPolynomial", "()Z"⟩, 16) := ⟨⟨by decide +kernel, by decide +kernel⟩, List.mem_of_getElem? (i := 400) (by decide +kernel), List.mem_of_getElem? (i := 467) (by decide +kernel), List.mem_of_getElem? (i := 468) (by decide +kernel)⟩
theorem lw_p17 : lw_okq (⟨"PartsDeskModel", "pass", "(C)Z"⟩, 16) := ⟨⟨by decide +kernel, by decide +kernel⟩, List.mem_of_getElem? (i := 400) (by decide +kernel), List.mem_of_getElem? (i := 471) (by decide +kernel), List.mem_of_getElem? (i := 472) (by decide +kernel)⟩
theorem lw_p18 : lw_okq (⟨"PartsDeskModel", "look", "()C"⟩, 16) := ⟨⟨by decide +kernel, by decide +kernel⟩, List.mem_of_getElem? (i := 400) (by decide +kernel), List.mem_of_getElem? (i := 475) (by decide +kernel), List.mem_of_getElem? (i := 476) (by decide +kernel)⟩
theorem lw_p19 : lw_okq (⟨"PartsDeskModel", "readTerm", "(J)Z"⟩, 16) := ⟨⟨by decide +kernel, by decide +kernel⟩, List.mem_of_getElem? (i := 400) (by decide +kernel), List.mem_of_getElem? (i := 480) (by decide +kernel), List.mem_of_getElem? (i := 481) (by decide +kernel)⟩
theorem lw_p20 : lw_okq (⟨"PartsDeskModel", "isDigit", "()Z"⟩, 16) := ⟨⟨by decide +kernel, by decide +kernel⟩, List.mem_of_getElem? (i := 400) (by decide +kernel), List.mem_of_getElem? (i := 484) (by decide +kernel), List.mem_of_getElem? (i := 485) (by decide +kernel)⟩
theorem lw_p21 : lw_okq (⟨"PartsDeskModel", "digit", "()I"⟩, 16) := ⟨⟨by decide +kernel, by decide +kernel⟩, List.mem_of_getElem? (i := 400) (by decide +kernel), List.mem_of_getElem? (i := 488) (by decide +kernel), List.mem_of_getElem? (i := 489) (by decide +kernel)⟩
theorem lw_p22 : lw_okq (⟨"PartsDeskModel", "fails", "(I)I"⟩, 16) := ⟨⟨by decide +kernel, by decide +kernel⟩, List.mem_of_getElem? (i := 400) (by decide +kernel), List.mem_of_getElem? (i := 493) (by decide +kernel), List.mem_of_getElem? (i := 494) (by decide +kernel)⟩
theorem lw_p23 : lw_okq (⟨"PartsDeskModel", "readFactor", "()Z"⟩, 16) := ⟨⟨by decide +kernel, by decide +kernel⟩, List.mem_of_getElem? (i := 400) (by decide +kernel), List.mem_of_getElem? (i := 501) (by decide +kernel), List.mem_of_getElem? (i := 502) (by decide +kernel)⟩
theorem lw_p24 : lw_okq (⟨"PartsDeskModel", "divide", "()V"⟩, 16) := ⟨⟨by decide +kernel, by decide +kernel⟩, List.mem_of_getElem? (i := 400) (by decide +kernel), List.mem_of_getElem? (i := 512) (by decide +kernel), List.mem_of_getElem? (i := 513) (by decide +kernel)⟩
theorem lw_p25 : lw_okq (⟨"PartsDeskModel", "isPart", "(II)Z"⟩, 16) := ⟨⟨by decide +kernel, by decide +kernel⟩, List.mem_of_getElem? (i := 400) (by decide +kernel), List.mem_of_getElem? (i := 524) (by decide +kernel), List.mem_of_getElem? (i := 525) (by decide +kernel)⟩
theorem lw_p26 : lw_okq (⟨"PartsDeskModel", "work", "(II)V"⟩, 16) := ⟨⟨by decide +kernel, by decide +kernel⟩, List.mem_of_getElem? (i := 400) (by decide +kernel), List.mem_of_getElem? (i := 529) (by decide +kernel), List.mem_of_getElem? (i := 530) (by decide +kernel)⟩
theorem lw_p27 : lw_okq (⟨"PartsDeskModel", "around", "(I)V"⟩, 16) := ⟨⟨by decide +kernel, by decide +kernel⟩, List.mem_of_getElem? (i := 400) (by decide +kernel), List.mem_of_getElem? (i := 533) (by decide +kernel), List.mem_of_getElem? (i := 534) (by decide +kernel)⟩
theorem lw_p28 : lw_okq (⟨"PartsDeskModel", "tell", "(JJ)V"⟩, 16) := ⟨⟨by decide +kernel, by decide +kernel⟩, List.mem_of_getElem? (i := 400) (by decide +kernel), List.mem_of_getElem? (i := 537) (by decide +kernel), List.mem_of_getElem? (i := 538) (by decide +kernel)⟩
theorem lw_p29 : lw_okq (⟨"PartsDeskModel", "isPlace", "(D)Z"⟩, 16) := ⟨⟨by decide +kernel, by decide +kernel⟩, List.mem_of_getElem? (i := 400) (by decide +kernel), List.mem_of_getElem? (i := 556) (by decide +kernel), List.mem_of_getElem? (i := 557) (by decide +kernel)⟩
def lw_privs_2 : List (MethodName × Nat) := [(⟨"PartsDeskModel", "readPolynomial", "()Z"⟩, 16), (⟨"PartsDeskModel", "pass", "(C)Z"⟩, 16), (⟨"PartsDeskModel", "look", "()C"⟩, 16), (⟨"PartsDeskModel", "readTerm", "(J)Z"⟩, 16), (⟨"PartsDeskModel", "isDigit", "()Z"⟩, 16), (⟨"PartsDeskModel", "digit", "()I"⟩, 16), (⟨"PartsDeskModel", "fails", "(I)I"⟩, 16), (⟨"PartsDeskModel", "readFactor", "()Z"⟩, 16), (⟨"PartsDeskModel", "divide", "()V"⟩, 16), (⟨"PartsDeskModel", "isPart", "(II)Z"⟩, 16), (⟨"PartsDeskModel", "work", "(II)V"⟩, 16), (⟨"PartsDeskModel", "around", "(I)V"⟩, 16), (⟨"PartsDeskModel", "tell", "(JJ)V"⟩, 16), (⟨"PartsDeskModel", "isPlace", "(D)Z"⟩, 16)]
theorem lw_r2 : ∀ q ∈ lw_privs_2, lw_okq q := List.forall_mem_cons.mpr ⟨lw_p16, List.forall_mem_cons.mpr ⟨lw_p17, List.forall_mem_cons.mpr ⟨lw_p18, List.forall_mem_cons.mpr ⟨lw_p19, List.forall_mem_cons.mpr ⟨lw_p20, List.forall_mem_cons.mpr ⟨lw_p21, List.forall_mem_cons.mpr ⟨lw_p22, List.forall_mem_cons.mpr ⟨lw_p23, List.forall_mem_cons.mpr ⟨lw_p24, List.forall_mem_cons.mpr ⟨lw_p25, List.forall_mem_cons.mpr ⟨lw_p26, List.forall_mem_cons.mpr ⟨lw_p27, List.forall_mem_cons.mpr ⟨lw_p28, List.forall_mem_cons.mpr ⟨lw_p29, fun _ h => absurd h List.not_mem_nil⟩⟩⟩⟩⟩⟩⟩⟩⟩⟩⟩⟩⟩⟩
def lw_privs : List (MethodName × Nat) := lw_privs_1 ++ (lw_privs_2)
def lw_tbl : List Cond := k2_sels lw_privs ++ tables_1
theorem lw_privs_ok : ∀ q ∈ lw_privs, lw_okq q := by
  show ∀ q ∈ lw_privs_1 ++ (lw_privs_2), lw_okq q
  exact List.forall_mem_append.mpr ⟨lw_r1, lw_r2⟩
end
section
/-! ===== BEGIN words of one list among another's, by their places ===== -/
theorem goodIn_r {big : List Cond} (ws : List Cond) (ps : List Nat) (hp : ws = ps.filterMap (fun i => big[i]?)) (h : ws.all goodWord = true) : GoodIn big ws := by
  intro w hw
  have h1 := List.all_eq_true.mp h w hw
  rw [hp] at hw
  obtain ⟨i, -, hi⟩ := List.mem_filterMap.mp hw
  have hm : w ∈ big := by first | exact List.mem_of_getElem? hi | exact List.getElem?_mem hi
  exact ⟨hm, good_of_word h1⟩
theorem goodIn_app {big a b : List Cond} (ha : GoodIn big a) (hb : GoodIn big b) : GoodIn big (a ++ b) := fun w h => (List.mem_append.mp h).elim (ha w) (hb w)
theorem goodIn_ca {big a b : List Cond} {c : Cond} (ha : GoodIn big (c :: a)) (hb : GoodIn big b) : GoodIn big (c :: (a ++ b)) := fun w h => (List.mem_cons.mp h).elim (fun e => ha w (List.mem_cons.mpr (Or.inl e))) (fun h => (List.mem_append.mp h).elim (fun h => ha w (List.mem_cons.mpr (Or.inr h))) (hb w))
theorem goodIn_sub {big ws : List Cond} (hm : ∀ w ∈ ws, w ∈ big) (h : ws.all goodWord = true) : GoodIn big ws := fun w hw => ⟨hm w hw, good_of_word (List.all_eq_true.mp h w hw)⟩
/-! ===== END ===== -/

/-! ===== BEGIN exceptions that leave a method, and their catching by the caller (launches without stack traces) ===== -/
section VXA
/-! The laws vx_back, vx_callV, vx_callS, vx_callSW, vx_throw0, vx_throwS follow proofs of the library, with one case more: JvmDerived/Free/Laws.lean (Back.of_free), Shelf42/LK1.lean (callV, callS), Shelf/KitTraced.lean (throwNew0V, throwNewS). -/
/-- where a method has thrown q: the class by its name, the cell, what was written, the world -/
def vx_T (XC : String → State → State → Prop) (st : State) (q : Addr) (t : State) (mc ms : Nat) (free : Addr → Prop) : Prop :=
  ∃ (E : String) (ce : Cell) (L : List Loc), XC E st t ∧ t.heap[q]? = some ce ∧ ce.vm = .none ∧ st.vm.findClass E = some ce.cls ∧ st.WarmedH t.vm ∧ st.sameButNew ({ t with vm := st.vm } : State) L mc ms ∧ ∀ z ∈ L, free z.base
def vx_Q (Qc : Array Value → State → Outcome → State → Prop) (XC : String → State → State → Prop) (mc ms : Nat) (free : Addr → Prop) : Array Value → State → Outcome → State → Prop := fun a st o t =>
  (Qc a st o t ∧ ∃ L, FrameEnd st o t L mc ms ∧ ∀ q ∈ L, free q.base) ∨ ∃ q, o = .threw q ∧ vx_T XC st q t mc ms free
/-- a callee that returns or throws -/
def vx_Met (l : Launch) (y : MethodName) (ws : List Cond) (rm : Room) (Pc : Array Value → State → Prop) (Qc : Array Value → State → Outcome → State → Prop) (XC : String → State → State → Prop) (mc ms : Nat) (free : Addr → Prop) : Prop :=
  MetFree l y (headSpec ws rm) Pc (fun _ _ _ _ _ => True) (vx_Q Qc XC mc ms free)
def vx_Post (XC : String → State → State → Prop) (mc ms : Nat) (free : Addr → Prop) : Pt → Array Value → Addr → Pt → Prop := fun A a q B =>
  ∃ (g : JFrame) (mk : MethodId) (t : State) (L : List Loc) (E : String) (ce : Cell), B.U.heap = t.heap ∧ B.U.vm = t.vm ∧ XC E (A.U.calling g mk a) t ∧ t.heap[q]? = some ce ∧ ce.vm = .none ∧ A.U.vm.findClass E = some ce.cls ∧ B.locs = A.locs ++ L ∧ (∀ z ∈ L, free z.base) ∧ B.cells = A.cells + mc ∧ B.slots = A.slots + ms
def vx_Back (l : Launch) (R : Room) (p : Program) (e : Env) (below : List Frame) (s : State) (sargs : Array Value) (y : MethodName) (len W9 : Nat)
    (Pre : Pt → Array Value → Prop) (Post : Pt → Array Value → Option Value → Pt → Prop) (PostX : Pt → Array Value → Addr → Pt → Prop) : Prop :=
  ∀ (m : MethodId) (meth : Method) (c : Code) (A : Pt) (g : JFrame) (ig : Instr) (mk : MethodId) (a : Array Value),
    Stand p l e R s m sargs below meth c A.U A.locs A.cells A.slots → g.method = m → g.locals.size = c.maxLocals → decode c.code g.pc = .ok (ig, len) →
    2 * g.monitorRoom + (g.stack.map fun v => v.category).sum ≤ W9 → A.U.methodNamed? y = some mk → Pre A a →
    (∃ (v : Option Value) (B : Pt), Stand p l e R s m sargs below meth c B.U B.locs B.cells B.slots ∧ Post A a v B ∧
      Steps p.tables e below (doInvoke e (A.U.setTop g) [] mk a).1 (B.U.setTop { g with pc := g.pc + len, stack := v.toList ++ g.stack })) ∨
    (∃ (q : Addr) (B : Pt), Stand p l e R s m sargs below meth c B.U B.locs B.cells B.slots ∧ PostX A a q B ∧
      Steps p.tables e below (doInvoke e (A.U.setTop g) [] mk a).1 ((B.U.setTop g).pushFrame (.throwing q)))
section Payer
variable {l : Launch} {R : Room} {p : Program} {e : Env} {below : List Frame} {s : State} {sargs : Array Value} {y : MethodName} {len W9 : Nat}
theorem vx_back {ws : List Cond} {rm : Room} {Pc : Array Value → State → Prop} {Qc : Array Value → State → Outcome → State → Prop} {XC : String → State → State → Prop} {mc ms : Nat} {free : Addr → Prop} {bytes : ByteArray} {maxL : Nat} {ret : Option FieldType}
    (hM : vx_Met l y ws rm Pc Qc XC mc ms free) (hblind : FrameBlind Pc) (hrc : rm.cells = mc) (hrs : rm.slots = ms)
    (hframes : rm.frames + 1 ≤ R.frames) (hlocals : W9 + (maxL + 11) + rm.locals ≤ R.locals)
    (hws : ∀ w ∈ ws, ∀ a' U, s.WarmedH U.vm → w.before a' U = true) (hcode : Cond.code y bytes maxL ret ∈ ws) (hinit : ∀ a' U, s.WarmedH U.vm → (Cond.initialized y.cls).before a' U = true) :
    vx_Back l R p e below s sargs y len W9 (PreOf R mc ms Pc) (PostOf Qc mc ms free) (vx_Post XC mc ms free) := by
  intro m meth c A g ig mk a X hg hsize hdg hW hn hp
  have h1 : (headSpec ws rm).pre.before a A.U = true := atoms_intro fun w hw => hws w hw _ _ X.warmed
  have h2 : (Cond.code y bytes maxL ret).before a A.U = true := hws _ hcode _ _ X.warmed
  have h3 : (Cond.initialized y.cls).before a A.U = true := hinit _ _ X.warmed
  have h4 : A.cells + (headSpec ws rm).room.cells ≤ R.cells := by rw [show (headSpec ws rm).room.cells = mc from hrc]; exact hp.1
  have h5 : A.slots + (headSpec ws rm).room.slots ≤ R.slots := by rw [show (headSpec ws rm).room.slots = ms from hrs]; exact hp.2.1
  have hPc : Pc a (A.U.calling g mk a) := hblind _ _ _ _ hp.2.2
  obtain ⟨U, Ls, c0, s0⟩ := A
  dsimp only [Pt.U, Pt.locs, Pt.cells, Pt.slots] at h1 h2 h3 h4 h5 X hn hPc ⊢
  obtain ⟨methY, cY, hmY, hcY, -, hlY, -, -, -, -⟩ := Cond.code_spec hn h2
  obtain ⟨kY, hkY, -⟩ := className_of_methodNamed hn
  have hinitY : kY.init = .initialized := Cond.initialized_spec (findClass_of_methodNamed hn) hkY h3
  have h : At U g.method c below := by rw [hg]; exact X.here
  have hlocals9 : W9 + (maxL + 11) + (headSpec ws rm).room.locals ≤ R.locals := hlocals
  have happ : (headSpec ws rm).appliesLoose y e.platform (U.calling g mk a) = true :=
    Spec.appliesLoose_calling (g := g) h hdg hn hkY hinitY
      (X.room_calling (g := g) (R' := (headSpec ws rm).room) hsize hmY hcY hframes (by rw [hlY]; omega) h4 h5) h1
  obtain ⟨mid, hmid⟩ := h.above
  have hfr : (U.setTop g).frames = (.java g :: mid) ++ below := by rw [State.frames_setTop' g h.top, hmid]; rfl
  obtain ⟨o, s₂, hsteps, -, hend, hq⟩ := Steps.callFree hM p X.admits X.cas X.clock (acts := []) hfr happ hPc trivial
  have hq' : vx_Q Qc XC mc ms free a (U.calling g mk a) o s₂ := hq
  rw [State.frames_setTop' g h.top] at hend
  obtain ⟨g₀, hg0⟩ := Option.isSome_iff_exists.mp h.top
  obtain ⟨r, hr⟩ := State.topJava?_eq_some.mp hg0
  have hr' : (({ U with heap := s₂.heap, slotsUsed := s₂.slotsUsed } : State).setVm s₂.vm).frames = .java g₀ :: r := hr
  rcases hq' with ⟨hqc, L, hfe, hL⟩ | ⟨q, rfl, E, ce, L, hx, hce, hcv, hcl, hW₂, hsm, hL⟩
  · obtain ⟨⟨v, rfl⟩, hW₂, e2, q2, q3, q4, q5, q6⟩ := id hfe
    have e3 : s₂ = ({ (U.calling g mk a).setFrames s₂.frames with heap := s₂.heap, slotsUsed := s₂.slotsUsed } : State).setVm s₂.vm := by
      have : s₂ = ({ s₂ with vm := (U.calling g mk a).vm } : State).setVm s₂.vm := rfl
      rw [e2] at this
      exact this
    obtain ⟨c₂, i₂, len₂, hc₂, hd₂, hf₂⟩ := hend
    have hW' : U.WarmedH s₂.vm := hW₂
    have hcc : c₂ = c := by
      have h1 : s₂.code? g.method = U.code? g.method := by
        rw [State.code?_eq, State.code?_eq, hW'.alike.method?]
      exact Option.some.inj (hc₂.symm.trans (h1.trans h.code))
    subst hcc
    have hlen : len₂ = len := by rw [hdg] at hd₂; cases hd₂; rfl
    subst hlen
    have hs₂ : s₂ = (({ U with heap := s₂.heap, slotsUsed := s₂.slotsUsed } : State).setVm s₂.vm).setTop { g with pc := g.pc + len₂, stack := v.toList ++ g.stack } := by
      refine e3.trans ?_
      rw [hf₂, State.calling_eq h.top, State.setFrames_setFrames, State.setTop_of_frames _ hr', hr]
      rfl
    have hsame : U.sameButNew ({ U with heap := s₂.heap, slotsUsed := s₂.slotsUsed } : State) L mc ms := by
      refine ⟨?_, q2, q3, q4, q5, q6⟩
      obtain ⟨t, ht, -⟩ := State.frames_cons hr
      show ({ U with heap := s₂.heap, slotsUsed := s₂.slotsUsed } : State) = { U.setFrames U.frames with heap := s₂.heap, slotsUsed := s₂.slotsUsed }
      rw [State.setFrames_self ht]
    subst hg
    refine Or.inl ⟨v, ⟨(({ U with heap := s₂.heap, slotsUsed := s₂.slotsUsed } : State).setVm s₂.vm), Ls ++ L, c0 + mc, s0 + ms⟩,
      ⟨X.admits, X.cas, X.clock, X.frames, X.room, X.hears, X.method, X.code, (X.here.setHeapUsed s₂.heap s₂.slotsUsed).setVm hW'.alike, X.tail, State.WarmedH.trans X.warmed hW', X.limits, X.bytes, X.same.trans (hsame.setVm s.vm)⟩,
      ⟨g, mk, s₂, L, rfl, rfl, hqc, rfl, hL, rfl, rfl⟩, ?_⟩
    show Steps p.tables e below _ ((({ U with heap := s₂.heap, slotsUsed := s₂.slotsUsed } : State).setVm s₂.vm).setTop { g with pc := g.pc + len₂, stack := v.toList ++ g.stack })
    rw [← hs₂]
    exact hsteps
  · obtain ⟨e2, q2, q3, q4, q5, q6⟩ := id hsm
    have e3 : s₂ = ({ (U.calling g mk a).setFrames s₂.frames with heap := s₂.heap, slotsUsed := s₂.slotsUsed } : State).setVm s₂.vm := by
      have : s₂ = ({ s₂ with vm := (U.calling g mk a).vm } : State).setVm s₂.vm := rfl
      rw [e2] at this
      exact this
    have hf₂ : s₂.frames = .throwing q :: .java g :: U.frames.tail := hend
    have hW' : U.WarmedH s₂.vm := hW₂
    have hs₂ : s₂ = ((({ U with heap := s₂.heap, slotsUsed := s₂.slotsUsed } : State).setVm s₂.vm).setTop g).pushFrame (.throwing q) := by
      refine e3.trans ?_
      rw [hf₂, State.calling_eq h.top, State.setFrames_setFrames, State.pushFrame, State.frames_setTop _ hr', State.setTop_of_frames _ hr', State.setFrames_setFrames, hr]
      rfl
    have hsame : U.sameButNew ({ U with heap := s₂.heap, slotsUsed := s₂.slotsUsed } : State) L mc ms := by
      refine ⟨?_, q2, q3, q4, q5, q6⟩
      obtain ⟨t, ht, -⟩ := State.frames_cons hr
      show ({ U with heap := s₂.heap, slotsUsed := s₂.slotsUsed } : State) = { U.setFrames U.frames with heap := s₂.heap, slotsUsed := s₂.slotsUsed }
      rw [State.setFrames_self ht]
    subst hg
    refine Or.inr ⟨q, ⟨(({ U with heap := s₂.heap, slotsUsed := s₂.slotsUsed } : State).setVm s₂.vm), Ls ++ L, c0 + mc, s0 + ms⟩,
      ⟨X.admits, X.cas, X.clock, X.frames, X.room, X.hears, X.method, X.code, (X.here.setHeapUsed s₂.heap s₂.slotsUsed).setVm hW'.alike, X.tail, State.WarmedH.trans X.warmed hW', X.limits, X.bytes, X.same.trans (hsame.setVm s.vm)⟩,
      ⟨g, mk, s₂, L, E, ce, rfl, rfl, hx, hce, hcv, hcl, rfl, hL, rfl, rfl⟩, ?_⟩
    show Steps p.tables e below _ (((({ U with heap := s₂.heap, slotsUsed := s₂.slotsUsed } : State).setVm s₂.vm).setTop g).pushFrame (.throwing q))
    rw [← hs₂]
    exact hsteps
end Payer
section Calls
variable {p : Program} {l : Launch} {e : Env} {R : Room} {s : State} {m : MethodId} {args : Array Value} {below : List Frame} {meth : Method} {c : Code} {T : State} {locs : List Loc} {cells slots : Nat}
theorem vx_callV (X : Stand p l e R s m args below meth c T locs cells slots) (hexec : p.tables.exec = Jvm.exec) {own C : String} {index : Nat} {y : MethodName} {bytes : ByteArray} {maxL : Nat} {ret : Option FieldType}
    (hown : s.vm.findClass own = some m.cls) (hlink : (Cond.methodLink own index y).before args s = true) (hinst : (Cond.instanceMethod y).before args s = true) (hsel : (Cond.selects C y y).before args s = true)
    (hcode : (Cond.code y bytes maxL ret).before args s = true) (hy : y.cls ≠ "java/lang/invoke/MethodHandle" ∧ y.cls ≠ "java/lang/invoke/VarHandle")
    {W9 : Nat} {Pre : Pt → Array Value → Prop} {Post : Pt → Array Value → Option Value → Pt → Prop} {PostX : Pt → Array Value → Addr → Pt → Prop} (hK : vx_Back l R p e below s args y 3 W9 Pre Post PostX)
    {b : Addr} {cellB : Cell} (hcell : T.heap[b]? = some cellB) (hobj : cellB.vm.isStatics = false) (hcls : s.vm.findClass C = some cellB.cls)
    {g : JFrame} (hg : g.method = m) (hsize : g.locals.size = c.maxLocals) {argsL rest : List Value} (hlen : ∀ sig, parseMethodDescriptor y.desc = some sig → argsL.length = sig.parameters.length)
    (hstack : g.stack = argsL.reverse ++ .ref b :: rest) (hW : 2 * g.monitorRoom + (rest.map fun v => v.category).sum ≤ W9) (hdg : decode c.code g.pc = .ok (.invokevirtual index, 3))
    (hpre : ∀ vm₁, s.WarmedH vm₁ → Pre ⟨T.setVm vm₁, locs, cells, slots⟩ (Value.ref b :: argsL).toArray) :
    (∃ (v : Option Value) (vm₁ : Vm) (B : Pt), s.WarmedH vm₁ ∧ Stand p l e R s m args below meth c B.U B.locs B.cells B.slots ∧ Post ⟨T.setVm vm₁, locs, cells, slots⟩ (Value.ref b :: argsL).toArray v B ∧
      ∀ target, Steps p.tables e below (B.U.setTop { g with pc := g.pc + 3, stack := v.toList ++ rest }) target → Steps p.tables e below (T.setTop g) target) ∨
    (∃ (q : Addr) (vm₁ : Vm) (B : Pt), s.WarmedH vm₁ ∧ Stand p l e R s m args below meth c B.U B.locs B.cells B.slots ∧ PostX ⟨T.setVm vm₁, locs, cells, slots⟩ (Value.ref b :: argsL).toArray q B ∧
      Steps p.tables e below (T.setTop g) ((B.U.setTop { g with stack := rest }).pushFrame (.throwing q))) := by
  obtain ⟨mk, methM, hnamed, hmethM, hstM, habM⟩ := Cond.instanceMethod_spec hinst
  obtain ⟨methM', cM, hmethM', -, -, -, -, -, -, hsigM⟩ := Cond.code_spec hnamed hcode
  cases hmethM.symm.trans hmethM'
  obtain ⟨c2, r2, m2, q1, q2, q3, q4, kP, hkP, hkPi⟩ := Cond.selects_spec hsel
  cases hcls.symm.trans q1
  cases (State.methodFound?_of_named hnamed hy).symm.trans q2
  cases hnamed.symm.trans q3
  have hselP : selectMethod e.platform s.vm cellB.cls mk = .method mk := by rw [Launch.admits_selectMethod X.admits]; exact q4
  obtain ⟨vm₁, X₁, hstep₁⟩ := X.invokevirtual hexec hown hlink hnamed hmethM hstM hkP hkPi hy (a := b) (cell := cellB) hcell
    (fun z h => by rw [h] at hobj; cases hobj) hselP hmethM habM hkP hkPi (g := g) hg (argsL := argsL) (rest := rest) (hlen _ hsigM) hstack hdg
  rcases hK m meth c ⟨T.setVm vm₁, locs, cells, slots⟩ { g with stack := rest } (.invokevirtual index) mk (Value.ref b :: argsL).toArray X₁ hg hsize hdg hW (X₁.named hnamed) (hpre vm₁ X₁.warmed) with ⟨v, B, X', hpost, hsteps⟩ | ⟨q, B, X', hpost, hsteps⟩
  · exact Or.inl ⟨v, vm₁, B, X₁.warmed, X', hpost, fun target h => hstep₁ _ fun acts => by rw [doInvoke_state]; exact hsteps.trans h⟩
  · exact Or.inr ⟨q, vm₁, B, X₁.warmed, X', hpost, hstep₁ _ fun acts => by rw [doInvoke_state]; exact hsteps⟩
theorem vx_callS (X : Stand p l e R s m args below meth c T locs cells slots) (hexec : p.tables.exec = Jvm.exec) {own : String} {index : Nat} {y : MethodName} {bytes : ByteArray} {maxL : Nat} {ret : Option FieldType}
    (hown : s.vm.findClass own = some m.cls) (hlink : (Cond.methodLink own index y).before args s = true) (hstat : (Cond.static y).before args s = true) (hinit : (Cond.initialized y.cls).before args s = true)
    (hcode : (Cond.code y bytes maxL ret).before args s = true) (hy : y.cls ≠ "java/lang/invoke/MethodHandle" ∧ y.cls ≠ "java/lang/invoke/VarHandle")
    {W9 : Nat} {Pre : Pt → Array Value → Prop} {Post : Pt → Array Value → Option Value → Pt → Prop} {PostX : Pt → Array Value → Addr → Pt → Prop} (hK : vx_Back l R p e below s args y 3 W9 Pre Post PostX)
    {g : JFrame} (hg : g.method = m) (hsize : g.locals.size = c.maxLocals) {argsL rest : List Value} (hlen : ∀ sig, parseMethodDescriptor y.desc = some sig → argsL.length = sig.parameters.length)
    (hstack : g.stack = argsL.reverse ++ rest) (hW : 2 * g.monitorRoom + (rest.map fun v => v.category).sum ≤ W9) (hdg : decode c.code g.pc = .ok (.invokestatic index, 3))
    (hpre : ∀ vm₁, s.WarmedH vm₁ → Pre ⟨T.setVm vm₁, locs, cells, slots⟩ argsL.toArray) :
    (∃ (v : Option Value) (vm₁ : Vm) (B : Pt), s.WarmedH vm₁ ∧ Stand p l e R s m args below meth c B.U B.locs B.cells B.slots ∧ Post ⟨T.setVm vm₁, locs, cells, slots⟩ argsL.toArray v B ∧
      ∀ target, Steps p.tables e below (B.U.setTop { g with pc := g.pc + 3, stack := v.toList ++ rest }) target → Steps p.tables e below (T.setTop g) target) ∨
    (∃ (q : Addr) (vm₁ : Vm) (B : Pt), s.WarmedH vm₁ ∧ Stand p l e R s m args below meth c B.U B.locs B.cells B.slots ∧ PostX ⟨T.setVm vm₁, locs, cells, slots⟩ argsL.toArray q B ∧
      Steps p.tables e below (T.setTop g) ((B.U.setTop { g with stack := rest }).pushFrame (.throwing q))) := by
  obtain ⟨mk, hnamed⟩ := Cond.code_named hcode
  obtain ⟨methM, cM, hmethM, -, -, -, -, -, -, hsigM⟩ := Cond.code_spec hnamed hcode
  have hstatic : methM.isStatic = true := Cond.static_spec hnamed hmethM hstat
  obtain ⟨kP, hkP, -⟩ := className_of_methodNamed hnamed
  have hinitP : kP.init = .initialized := Cond.initialized_spec (findClass_of_methodNamed hnamed) hkP hinit
  obtain ⟨vm₁, X₁, hstep₁⟩ := X.invokestatic hexec hown hlink hnamed hmethM hstatic hkP hinitP hy (g := g) hg (argsL := argsL) (rest := rest) (hlen _ hsigM) hstack hdg
  rcases hK m meth c ⟨T.setVm vm₁, locs, cells, slots⟩ { g with stack := rest } (.invokestatic index) mk argsL.toArray X₁ hg hsize hdg hW (X₁.named hnamed) (hpre vm₁ X₁.warmed) with ⟨v, B, X', hpost, hsteps⟩ | ⟨q, B, X', hpost, hsteps⟩
  · exact Or.inl ⟨v, vm₁, B, X₁.warmed, X', hpost, fun target h => hstep₁ _ fun acts => by rw [doInvoke_state]; exact hsteps.trans h⟩
  · exact Or.inr ⟨q, vm₁, B, X₁.warmed, X', hpost, hstep₁ _ fun acts => by rw [doInvoke_state]; exact hsteps⟩
end Calls
theorem vx_cls {s : State} {T : State} {vm₁ : Vm} {E : String} {k : ClassId} (hW : s.WarmedH vm₁) (h : (T.setVm vm₁).vm.findClass E = some k) : s.vm.findClass E = some k := by
  have h1 : vm₁.findClass E = some k := h
  rw [hW.alike.findClass] at h1
  exact h1
/-- the method's frame g, with q thrown over it -/
def vx_W (p : Program) (l : Launch) (e : Env) (R : Room) (s : State) (m : MethodId) (args : Array Value) (below : List Frame) (meth : Method) (c : Code) (H : Heap) (locs : List Loc) (cells slots : Nat) (Q : State → Prop) (g : JFrame) (q : Addr) : Prop :=
  ∀ T : State, T.heap = H → Stand p l e R s m args below meth c T locs cells slots → ∃ t, Steps p.tables e below ((T.setTop g).pushFrame (.throwing q)) t ∧ Q t
def vx_Run (p : Program) (l : Launch) (e : Env) (R : Room) (s : State) (m : MethodId) (args : Array Value) (below : List Frame) (meth : Method) (c : Code) (H : Heap) (locs : List Loc) (cells slots mc ms : Nat) (g : JFrame) (rest : List Value) (Qa : State → Outcome → State → Prop) (XC : String → State → State → Prop) (free : Addr → Prop) : Prop :=
  ∀ T : State, T.heap = H → Stand p l e R s m args below meth c T locs cells slots →
    (∃ (v : Option Value) (st₀ t T' : State) (L : List Loc), st₀.heap = H ∧ Stand p l e R s m args below meth c T' (locs ++ L) (cells + mc) (slots + ms) ∧ (∀ q ∈ L, free q.base) ∧ T'.heap = t.heap ∧ T'.vm = t.vm ∧ Qa st₀ (.returned v) t ∧
      Goes p e below T g T' { g with pc := g.pc + 3, stack := v.toList ++ rest }) ∨
    (∃ (q : Addr) (st₀ t T' : State) (L : List Loc) (E : String) (ce : Cell), st₀.heap = H ∧ Stand p l e R s m args below meth c T' (locs ++ L) (cells + mc) (slots + ms) ∧ (∀ z ∈ L, free z.base) ∧ T'.heap = t.heap ∧ T'.vm = t.vm ∧ XC E st₀ t ∧ t.heap[q]? = some ce ∧ ce.vm = .none ∧ s.vm.findClass E = some ce.cls ∧
      Steps p.tables e below (T.setTop g) ((T'.setTop { g with stack := rest }).pushFrame (.throwing q)))
def vx_X {S : Type} (px : S → Prop) (B : String → S → State → Prop) (A : Nat → Prop) : String → State → State → Prop := fun E st t => ∃ u : S, px u ∧ B E u t ∧ va_F A st t
section Runs
variable {p : Program} {l : Launch} {e : Env} {R : Room} {s : State} {m : MethodId} {args : Array Value} {below : List Frame} {meth : Method} {c : Code} {H : Heap} {locs : List Loc} {cells slots : Nat}
variable {y : MethodName} {bytes cc : ByteArray} {maxL nL mc ms n index : Nat} {ret : Option FieldType} {ws : List Cond} {rm : Room} {Pc : Array Value → State → Prop} {Qc : Array Value → State → Outcome → State → Prop} {XC : String → State → State → Prop} {free : Addr → Prop} {Ts : List Cond} {own C : String} {b : Addr} {As rest : List Value} {g : JFrame}
theorem vx_callBack (cb : CallB R s args own index y bytes maxL ret ws rm mc ms n) (hM : vx_Met l y ws rm Pc Qc XC mc ms free) (hbl : FrameBlind Pc) : vx_Back l R p e below s args y 3 8 (PreOf R mc ms Pc) (PostOf Qc mc ms free) (vx_Post XC mc ms free) := by
  obtain ⟨hrc, hrs, hfr, hlo, hws, hcw, -, hini, -⟩ := cb
  exact vx_back (bytes := bytes) (maxL := maxL) (ret := ret) hM hbl hrc hrs hfr hlo hws hcw (fun a' U hW => word_at hW (Or.inl (by first | rfl | simp [Cond.onTables, Cond.keeps, Cond.steady])) hini)
theorem vx_runV (S : CallFix p m c cc nL s args Ts own) (hM : vx_Met l y ws rm Pc Qc XC mc ms free) (cw : CallW R s args own C index y bytes maxL ret ws rm mc ms n) (hp : PreV s H C b Pc As)
    (hg : g.method = m) (hn : As.length = n) (hsize : g.locals.size = nL) (hstack : g.stack = As.reverse ++ .ref b :: rest) (hW : 2 * g.monitorRoom + (rest.map fun v => v.category).sum ≤ 8) (hdg : decode cc g.pc = .ok (.invokevirtual index, 3)) (hf : cells + mc ≤ R.cells ∧ slots + ms ≤ R.slots) :
    vx_Run p l e R s m args below meth c H locs cells slots mc ms g rest (Qc (Value.ref b :: As).toArray) XC free := by
  have hK : vx_Back l R p e below s args y 3 8 (PreOf R mc ms Pc) (PostOf Qc mc ms free) (vx_Post XC mc ms free) := vx_callBack cw.1 hM hp.1
  obtain ⟨⟨-, -, -, -, -, -, hcode, -, hy, hlen, hl⟩, hin, hse⟩ := cw
  obtain ⟨hx, hb, hml, ho, -⟩ := S
  obtain ⟨-, ⟨cellB, hcB, hoB, hclB⟩, hPc⟩ := hp
  intro T hT X
  rcases vx_callV X hx (C := C) (bytes := bytes) (maxL := maxL) (ret := ret) ho hl hin hse hcode hy hK (by rw [hT]; exact hcB) hoB hclB hg (hsize.trans hml.symm) (argsL := As) (rest := rest) (fun sig h => hn.trans (hlen sig h)) hstack hW (by rw [hb]; exact hdg)
    (fun vm₁ hW₁ => ⟨hf.1, hf.2, hPc (T.setVm vm₁) hT hW₁⟩) with ⟨v, vm₁, ⟨U', l2, c2, s2⟩, hW₁, X', ⟨g', mk, t, L, e1, e2, hq, h1, hL, h2, h3⟩, st⟩ | ⟨q, vm₁, ⟨U', l2, c2, s2⟩, hW₁, X', ⟨g', mk, t, L, E, ce, e1, e2, hq, hce, hcv, hcl, h1, hL, h2, h3⟩, st⟩
  · dsimp only [Pt.U, Pt.locs, Pt.cells, Pt.slots] at X' e1 e2 h1 h2 h3 st
    subst h1; subst h2; subst h3
    exact Or.inl ⟨v, (T.setVm vm₁).calling g' mk (Value.ref b :: As).toArray, t, U', L, hT, X', hL, e1, e2, hq, st⟩
  · dsimp only [Pt.U, Pt.locs, Pt.cells, Pt.slots] at X' e1 e2 h1 h2 h3 st hcl
    subst h1; subst h2; subst h3
    exact Or.inr ⟨q, (T.setVm vm₁).calling g' mk (Value.ref b :: As).toArray, t, U', L, E, ce, hT, X', hL, e1, e2, hq, hce, hcv, vx_cls hW₁ hcl, st⟩
theorem vx_runS (S : CallFix p m c cc nL s args Ts own) (hM : vx_Met l y ws rm Pc Qc XC mc ms free) (cw : CallB R s args own index y bytes maxL ret ws rm mc ms n ∧ (Cond.static y).before args s = true) (hp : PreS s H Pc As)
    (hg : g.method = m) (hn : As.length = n) (hsize : g.locals.size = nL) (hstack : g.stack = As.reverse ++ rest) (hW : 2 * g.monitorRoom + (rest.map fun v => v.category).sum ≤ 8) (hdg : decode cc g.pc = .ok (.invokestatic index, 3)) (hf : cells + mc ≤ R.cells ∧ slots + ms ≤ R.slots) :
    vx_Run p l e R s m args below meth c H locs cells slots mc ms g rest (Qc As.toArray) XC free := by
  have hK : vx_Back l R p e below s args y 3 8 (PreOf R mc ms Pc) (PostOf Qc mc ms free) (vx_Post XC mc ms free) := vx_callBack cw.1 hM hp.1
  obtain ⟨⟨-, -, -, -, -, -, hcode, hini, hy, hlen, hl⟩, hstt⟩ := cw
  obtain ⟨hx, hb, hml, ho, -⟩ := S
  intro T hT X
  rcases vx_callS X hx (bytes := bytes) (maxL := maxL) (ret := ret) ho hl hstt hini hcode hy hK hg (hsize.trans hml.symm) (argsL := As) (rest := rest) (fun sig h => hn.trans (hlen sig h)) hstack hW (by rw [hb]; exact hdg)
    (fun vm₁ hW₁ => ⟨hf.1, hf.2, hp.2 (T.setVm vm₁) hT hW₁⟩) with ⟨v, vm₁, ⟨U', l2, c2, s2⟩, hW₁, X', ⟨g', mk, t, L, e1, e2, hq, h1, hL, h2, h3⟩, st⟩ | ⟨q, vm₁, ⟨U', l2, c2, s2⟩, hW₁, X', ⟨g', mk, t, L, E, ce, e1, e2, hq, hce, hcv, hcl, h1, hL, h2, h3⟩, st⟩
  · dsimp only [Pt.U, Pt.locs, Pt.cells, Pt.slots] at X' e1 e2 h1 h2 h3 st
    subst h1; subst h2; subst h3
    exact Or.inl ⟨v, (T.setVm vm₁).calling g' mk As.toArray, t, U', L, hT, X', hL, e1, e2, hq, st⟩
  · dsimp only [Pt.U, Pt.locs, Pt.cells, Pt.slots] at X' e1 e2 h1 h2 h3 st hcl
    subst h1; subst h2; subst h3
    exact Or.inr ⟨q, (T.setVm vm₁).calling g' mk As.toArray, t, U', L, E, ce, hT, X', hL, e1, e2, hq, hce, hcv, vx_cls hW₁ hcl, st⟩
end Runs
section Rows
variable {p : Program} {l : Launch} {e : Env} {R : Room} {s : State} {m : MethodId} {args : Array Value} {below : List Frame} {meth : Method} {c : Code} {H : Heap} {locs : List Loc} {cells slots : Nat} {Q : State → Prop}
variable {mc ms : Nat} {free : Addr → Prop} {A0 A1 : Nat → Prop} {H0 : Heap} {a : Array Value} {pc : Nat} {ls : Array Slot} {st0 rest : List Value}
theorem vx_keep {st₀ t T' : State} {L : List Loc} (h0 : st₀.heap = H) (e1 : T'.heap = t.heap) (hS : va_S A0 H0 H locs) (hA : ∀ q, q < H.size → A1 q → A0 q) (hf : ∀ q, free q → A0 q) (hL : ∀ q ∈ L, free q.base) (hF : va_F A1 st₀ t) :
    H.size ≤ T'.heap.size ∧ (∀ q : Nat, q < H.size → ¬ A1 q → T'.heap[q]? = H[q]?) ∧ va_S A0 H0 T'.heap (locs ++ L) := by
  obtain ⟨hz, hk⟩ := hF
  rw [h0] at hz hk
  exact ⟨by rw [e1]; exact hz, fun q h1 h2 => by rw [e1]; exact hk q h1 h2,
    ⟨Nat.le_trans hS.1 (by rw [e1]; exact hz), fun q h1 h2 => by rw [e1, hk q (Nat.lt_of_lt_of_le h1 hS.1) (fun z => h2 (hA q (Nat.lt_of_lt_of_le h1 hS.1) z))]; exact hS.2.1 q h1 h2, fun q hq => by
      rcases List.mem_append.mp hq with h | h
      · exact hS.2.2 q h
      · exact hf _ (hL q h)⟩⟩
theorem vx_calli {S SX : Type} {post : Int32 → S → Prop} {px : SX → Prop} {B : S → State → Prop} {BX : String → SX → State → Prop} {AX : Nat → Prop} (hr : vx_Run p l e R s m args below meth c H locs cells slots mc ms (F0 m pc ls st0) rest (va_Qi post B A1 a) (vx_X px BX AX) free) (hS : va_S A0 H0 H locs) (hA : ∀ q, q < H.size → A1 q → A0 q) (hf : ∀ q, free q → A0 q) (hAX : ∀ q, q < H.size → AX q → A0 q)
    (kx : ∀ (E : String) (ce : Cell) (q9 : Addr) (u : SX) (t : State) (H1 : Heap) (locs1 : List Loc), t.heap = H1 → s.vm.Alike t.vm → px u → BX E u t → H.size ≤ H1.size → (∀ q : Nat, q < H.size → ¬ AX q → H1[q]? = H[q]?) → va_S A0 H0 H1 locs1 → H1[q9]? = some ce → ce.vm = .none → s.vm.findClass E = some ce.cls → vx_W p l e R s m args below meth c H1 locs1 (cells + mc) (slots + ms) Q (F0 m pc ls rest) q9)
    (kk : ∀ (r : Int32) (u : S) (t : State) (H1 : Heap) (locs1 : List Loc), t.heap = H1 → s.vm.Alike t.vm → post r u → B u t → H.size ≤ H1.size → (∀ q : Nat, q < H.size → ¬ A1 q → H1[q]? = H[q]?) → va_S A0 H0 H1 locs1 → W p l e R s m args below meth c H1 locs1 (cells + mc) (slots + ms) Q (F0 m (pc + 3) ls (.int r :: rest))) : W p l e R s m args below meth c H locs cells slots Q (F0 m pc ls st0) := by
  intro T hT X
  rcases hr T hT X with ⟨v, st₀, t, T', L, h0, X', hL, e1, e2, ⟨⟨r, u, hv, hp, hb⟩, hF⟩, st⟩ | ⟨q, st₀, t, T', L, E, ce, h0, X', hL, e1, e2, ⟨u, hp, hb, hF⟩, hce, hcv, hcl, st⟩
  · cases hv
    obtain ⟨k1, k2, k3⟩ := vx_keep h0 e1 hS hA hf hL hF
    obtain ⟨t2, a1, b1⟩ := kk r u t T'.heap (locs ++ L) e1.symm (by rw [← e2]; exact X'.warmed.alike) hp hb k1 k2 k3 T' rfl X'
    exact ⟨t2, st t2 a1, b1⟩
  · obtain ⟨k1, k2, k3⟩ := vx_keep h0 e1 hS hAX hf hL hF
    obtain ⟨t2, a1, b1⟩ := kx E ce q u t T'.heap (locs ++ L) e1.symm (by rw [← e2]; exact X'.warmed.alike) hp hb k1 k2 k3 (by rw [e1]; exact hce) hcv hcl T' rfl X'
    exact ⟨t2, st.trans a1, b1⟩
theorem vx_calll {S SX : Type} {post : Int64 → S → Prop} {px : SX → Prop} {B : S → State → Prop} {BX : String → SX → State → Prop} {AX : Nat → Prop} (hr : vx_Run p l e R s m args below meth c H locs cells slots mc ms (F0 m pc ls st0) rest (va_Ql post B A1 a) (vx_X px BX AX) free) (hS : va_S A0 H0 H locs) (hA : ∀ q, q < H.size → A1 q → A0 q) (hf : ∀ q, free q → A0 q) (hAX : ∀ q, q < H.size → AX q → A0 q)
    (kx : ∀ (E : String) (ce : Cell) (q9 : Addr) (u : SX) (t : State) (H1 : Heap) (locs1 : List Loc), t.heap = H1 → s.vm.Alike t.vm → px u → BX E u t → H.size ≤ H1.size → (∀ q : Nat, q < H.size → ¬ AX q → H1[q]? = H[q]?) → va_S A0 H0 H1 locs1 → H1[q9]? = some ce → ce.vm = .none → s.vm.findClass E = some ce.cls → vx_W p l e R s m args below meth c H1 locs1 (cells + mc) (slots + ms) Q (F0 m pc ls rest) q9)
    (kk : ∀ (r : Int64) (u : S) (t : State) (H1 : Heap) (locs1 : List Loc), t.heap = H1 → s.vm.Alike t.vm → post r u → B u t → H.size ≤ H1.size → (∀ q : Nat, q < H.size → ¬ A1 q → H1[q]? = H[q]?) → va_S A0 H0 H1 locs1 → W p l e R s m args below meth c H1 locs1 (cells + mc) (slots + ms) Q (F0 m (pc + 3) ls (.long r :: rest))) : W p l e R s m args below meth c H locs cells slots Q (F0 m pc ls st0) := by
  intro T hT X
  rcases hr T hT X with ⟨v, st₀, t, T', L, h0, X', hL, e1, e2, ⟨⟨r, u, hv, hp, hb⟩, hF⟩, st⟩ | ⟨q, st₀, t, T', L, E, ce, h0, X', hL, e1, e2, ⟨u, hp, hb, hF⟩, hce, hcv, hcl, st⟩
  · cases hv
    obtain ⟨k1, k2, k3⟩ := vx_keep h0 e1 hS hA hf hL hF
    obtain ⟨t2, a1, b1⟩ := kk r u t T'.heap (locs ++ L) e1.symm (by rw [← e2]; exact X'.warmed.alike) hp hb k1 k2 k3 T' rfl X'
    exact ⟨t2, st t2 a1, b1⟩
  · obtain ⟨k1, k2, k3⟩ := vx_keep h0 e1 hS hAX hf hL hF
    obtain ⟨t2, a1, b1⟩ := kx E ce q u t T'.heap (locs ++ L) e1.symm (by rw [← e2]; exact X'.warmed.alike) hp hb k1 k2 k3 (by rw [e1]; exact hce) hcv hcl T' rfl X'
    exact ⟨t2, st.trans a1, b1⟩
theorem vx_callf {S SX : Type} {post : UInt32 → S → Prop} {px : SX → Prop} {B : S → State → Prop} {BX : String → SX → State → Prop} {AX : Nat → Prop} (hr : vx_Run p l e R s m args below meth c H locs cells slots mc ms (F0 m pc ls st0) rest (va_Qf post B A1 a) (vx_X px BX AX) free) (hS : va_S A0 H0 H locs) (hA : ∀ q, q < H.size → A1 q → A0 q) (hf : ∀ q, free q → A0 q) (hAX : ∀ q, q < H.size → AX q → A0 q)
    (kx : ∀ (E : String) (ce : Cell) (q9 : Addr) (u : SX) (t : State) (H1 : Heap) (locs1 : List Loc), t.heap = H1 → s.vm.Alike t.vm → px u → BX E u t → H.size ≤ H1.size → (∀ q : Nat, q < H.size → ¬ AX q → H1[q]? = H[q]?) → va_S A0 H0 H1 locs1 → H1[q9]? = some ce → ce.vm = .none → s.vm.findClass E = some ce.cls → vx_W p l e R s m args below meth c H1 locs1 (cells + mc) (slots + ms) Q (F0 m pc ls rest) q9)
    (kk : ∀ (r : UInt32) (u : S) (t : State) (H1 : Heap) (locs1 : List Loc), t.heap = H1 → s.vm.Alike t.vm → post r u → B u t → H.size ≤ H1.size → (∀ q : Nat, q < H.size → ¬ A1 q → H1[q]? = H[q]?) → va_S A0 H0 H1 locs1 → W p l e R s m args below meth c H1 locs1 (cells + mc) (slots + ms) Q (F0 m (pc + 3) ls (.float r :: rest))) : W p l e R s m args below meth c H locs cells slots Q (F0 m pc ls st0) := by
  intro T hT X
  rcases hr T hT X with ⟨v, st₀, t, T', L, h0, X', hL, e1, e2, ⟨⟨r, u, hv, hp, hb⟩, hF⟩, st⟩ | ⟨q, st₀, t, T', L, E, ce, h0, X', hL, e1, e2, ⟨u, hp, hb, hF⟩, hce, hcv, hcl, st⟩
  · cases hv
    obtain ⟨k1, k2, k3⟩ := vx_keep h0 e1 hS hA hf hL hF
    obtain ⟨t2, a1, b1⟩ := kk r u t T'.heap (locs ++ L) e1.symm (by rw [← e2]; exact X'.warmed.alike) hp hb k1 k2 k3 T' rfl X'
    exact ⟨t2, st t2 a1, b1⟩
  · obtain ⟨k1, k2, k3⟩ := vx_keep h0 e1 hS hAX hf hL hF
    obtain ⟨t2, a1, b1⟩ := kx E ce q u t T'.heap (locs ++ L) e1.symm (by rw [← e2]; exact X'.warmed.alike) hp hb k1 k2 k3 (by rw [e1]; exact hce) hcv hcl T' rfl X'
    exact ⟨t2, st.trans a1, b1⟩
theorem vx_calld {S SX : Type} {post : UInt64 → S → Prop} {px : SX → Prop} {B : S → State → Prop} {BX : String → SX → State → Prop} {AX : Nat → Prop} (hr : vx_Run p l e R s m args below meth c H locs cells slots mc ms (F0 m pc ls st0) rest (va_Qd post B A1 a) (vx_X px BX AX) free) (hS : va_S A0 H0 H locs) (hA : ∀ q, q < H.size → A1 q → A0 q) (hf : ∀ q, free q → A0 q) (hAX : ∀ q, q < H.size → AX q → A0 q)
    (kx : ∀ (E : String) (ce : Cell) (q9 : Addr) (u : SX) (t : State) (H1 : Heap) (locs1 : List Loc), t.heap = H1 → s.vm.Alike t.vm → px u → BX E u t → H.size ≤ H1.size → (∀ q : Nat, q < H.size → ¬ AX q → H1[q]? = H[q]?) → va_S A0 H0 H1 locs1 → H1[q9]? = some ce → ce.vm = .none → s.vm.findClass E = some ce.cls → vx_W p l e R s m args below meth c H1 locs1 (cells + mc) (slots + ms) Q (F0 m pc ls rest) q9)
    (kk : ∀ (r : UInt64) (u : S) (t : State) (H1 : Heap) (locs1 : List Loc), t.heap = H1 → s.vm.Alike t.vm → post r u → B u t → H.size ≤ H1.size → (∀ q : Nat, q < H.size → ¬ A1 q → H1[q]? = H[q]?) → va_S A0 H0 H1 locs1 → W p l e R s m args below meth c H1 locs1 (cells + mc) (slots + ms) Q (F0 m (pc + 3) ls (.double r :: rest))) : W p l e R s m args below meth c H locs cells slots Q (F0 m pc ls st0) := by
  intro T hT X
  rcases hr T hT X with ⟨v, st₀, t, T', L, h0, X', hL, e1, e2, ⟨⟨r, u, hv, hp, hb⟩, hF⟩, st⟩ | ⟨q, st₀, t, T', L, E, ce, h0, X', hL, e1, e2, ⟨u, hp, hb, hF⟩, hce, hcv, hcl, st⟩
  · cases hv
    obtain ⟨k1, k2, k3⟩ := vx_keep h0 e1 hS hA hf hL hF
    obtain ⟨t2, a1, b1⟩ := kk r u t T'.heap (locs ++ L) e1.symm (by rw [← e2]; exact X'.warmed.alike) hp hb k1 k2 k3 T' rfl X'
    exact ⟨t2, st t2 a1, b1⟩
  · obtain ⟨k1, k2, k3⟩ := vx_keep h0 e1 hS hAX hf hL hF
    obtain ⟨t2, a1, b1⟩ := kx E ce q u t T'.heap (locs ++ L) e1.symm (by rw [← e2]; exact X'.warmed.alike) hp hb k1 k2 k3 (by rw [e1]; exact hce) hcv hcl T' rfl X'
    exact ⟨t2, st.trans a1, b1⟩
theorem vx_callv {S SX : Type} {post : S → Prop} {px : SX → Prop} {B : S → State → Prop} {BX : String → SX → State → Prop} {AX : Nat → Prop} (hr : vx_Run p l e R s m args below meth c H locs cells slots mc ms (F0 m pc ls st0) rest (va_Qv post B A1 a) (vx_X px BX AX) free) (hS : va_S A0 H0 H locs) (hA : ∀ q, q < H.size → A1 q → A0 q) (hf : ∀ q, free q → A0 q) (hAX : ∀ q, q < H.size → AX q → A0 q)
    (kx : ∀ (E : String) (ce : Cell) (q9 : Addr) (u : SX) (t : State) (H1 : Heap) (locs1 : List Loc), t.heap = H1 → s.vm.Alike t.vm → px u → BX E u t → H.size ≤ H1.size → (∀ q : Nat, q < H.size → ¬ AX q → H1[q]? = H[q]?) → va_S A0 H0 H1 locs1 → H1[q9]? = some ce → ce.vm = .none → s.vm.findClass E = some ce.cls → vx_W p l e R s m args below meth c H1 locs1 (cells + mc) (slots + ms) Q (F0 m pc ls rest) q9)
    (kk : ∀ (u : S) (t : State) (H1 : Heap) (locs1 : List Loc), t.heap = H1 → s.vm.Alike t.vm → post u → B u t → H.size ≤ H1.size → (∀ q : Nat, q < H.size → ¬ A1 q → H1[q]? = H[q]?) → va_S A0 H0 H1 locs1 → W p l e R s m args below meth c H1 locs1 (cells + mc) (slots + ms) Q (F0 m (pc + 3) ls (rest))) : W p l e R s m args below meth c H locs cells slots Q (F0 m pc ls st0) := by
  intro T hT X
  rcases hr T hT X with ⟨v, st₀, t, T', L, h0, X', hL, e1, e2, ⟨⟨u, hv, hp, hb⟩, hF⟩, st⟩ | ⟨q, st₀, t, T', L, E, ce, h0, X', hL, e1, e2, ⟨u, hp, hb, hF⟩, hce, hcv, hcl, st⟩
  · cases hv
    obtain ⟨k1, k2, k3⟩ := vx_keep h0 e1 hS hA hf hL hF
    obtain ⟨t2, a1, b1⟩ := kk u t T'.heap (locs ++ L) e1.symm (by rw [← e2]; exact X'.warmed.alike) hp hb k1 k2 k3 T' rfl X'
    exact ⟨t2, st t2 a1, b1⟩
  · obtain ⟨k1, k2, k3⟩ := vx_keep h0 e1 hS hAX hf hL hF
    obtain ⟨t2, a1, b1⟩ := kx E ce q u t T'.heap (locs ++ L) e1.symm (by rw [← e2]; exact X'.warmed.alike) hp hb k1 k2 k3 (by rw [e1]; exact hce) hcv hcl T' rfl X'
    exact ⟨t2, st.trans a1, b1⟩
/-- caught by the row x of this method's table; the rows ahead don't take it -/
theorem vx_catch {own name : String} {E : String} {ce : Cell} {q : Addr} (hown : s.vm.findClass own = some m.cls) (pre : List ExceptionTableEntry) (x : ExceptionTableEntry) (suf : List ExceptionTableEntry) (hsplit : c.exceptionTable.toList = pre ++ x :: suf)
    (hpass : ∀ z ∈ pre, covers z pc = false ∨ (z.catchType ≠ 0 ∧ ∃ nm : String, (Cond.classLink own z.catchType nm).before args s = true ∧ va_Nc E nm s)) (hx : covers x pc = true) (h0 : x.catchType ≠ 0)
    (hlink : (Cond.classLink own x.catchType name).before args s = true) (hcast : (Cond.castable E name).before args s = true) (hcell : H[q]? = some ce) (hv : ce.vm = .none) (hcl : s.vm.findClass E = some ce.cls)
    (kk : W p l e R s m args below meth c H locs cells slots Q (F0 m x.handlerPc ls [.ref q])) : vx_W p l e R s m args below meth c H locs cells slots Q (F0 m pc ls rest) q := by
  intro T hT X
  have hpl : e.platform.magicAccessors = ({} : Platform).magicAccessors := by rw [X.admits.platform]
  obtain ⟨c3, c4, hc3, hc4, hasg⟩ := Cond.castable_spec hcast
  cases Option.some.inj (hc3.symm.trans hcl)
  obtain ⟨c5, hc5, hcl5⟩ := Cond.classLink_spec hown hlink e.platform hpl
  cases Option.some.inj (hc4.symm.trans hc5)
  obtain ⟨vm', X', st⟩ := Stand.thenCaughtThrough X q (g := F0 m pc ls rest) rfl (Steps.refl _) (by rw [hT]; exact hcell) (by rw [hv]; rfl) (by obtain ⟨k9, h9, -⟩ := Vm.findClass_spec hcl; exact ⟨k9, h9⟩) pre x suf hsplit
    (fun z hz => by
      rcases hpass z hz with h | ⟨hz0, nm, hl1, hn1⟩
      · exact Or.inl h
      · obtain ⟨c6, hc6, hcl6⟩ := Cond.classLink_spec hown hl1 e.platform hpl
        obtain ⟨a8, b8, h1, h2, h3⟩ := hn1
        cases Option.some.inj (h1.symm.trans hcl)
        cases Option.some.inj (h2.symm.trans hc6)
        exact Or.inr ⟨hz0, _, hcl6, h3⟩) hx (Or.inr ⟨h0, c4, hcl5, hasg⟩)
  obtain ⟨t, a1, b1⟩ := kk (T.setVm vm') hT X'
  exact ⟨t, st.trans a1, b1⟩
end Rows
section Ends
variable {p : Program} {l : Launch} {e : Env} {R : Room} {s : State} {m : MethodId} {args : Array Value} {below : List Frame} {meth : Method} {c : Code} {H : Heap} {locs : List Loc} {cells slots : Nat} {Q : State → Prop}
variable {mc ms : Nat} {free : Addr → Prop} {A0 A1 : Nat → Prop} {H0 : Heap} {a : Array Value} {ls : Array Slot} {st0 rest : List Value}
variable {Qc : Array Value → State → Outcome → State → Prop} {XC : String → State → State → Prop}
/-- what a body that may throw owes at its end -/
def vx_MQ (below : List Frame) (Qc : Array Value → State → Outcome → State → Prop) (XC : String → State → State → Prop) (a : Array Value) (s : State) (mc ms : Nat) (free : Addr → Prop) : State → Prop := fun t =>
  ∃ o, t.status = .running ∧ Ended t below o ∧ vx_Q Qc XC mc ms free a s o t
theorem vx_ret {g : JFrame} {mc ms : Nat} (k : W p l e R s m args below meth c H locs cells slots (MQ below Qc args s mc ms free) g) : W p l e R s m args below meth c H locs cells slots (vx_MQ below Qc XC args s mc ms free) g := by
  intro T hT X
  obtain ⟨t, a1, o, b1, b2, b3, b4⟩ := k T hT X
  exact ⟨t, a1, o, b1, b2, Or.inl ⟨b3, b4⟩⟩
/-- not caught here: it goes on to the caller -/
theorem vx_widen {g : JFrame} {q : Addr} {k n : Nat} (h1 : cells ≤ k) (h2 : slots ≤ n) (kk : vx_W p l e R s m args below meth c H locs k n Q g q) : vx_W p l e R s m args below meth c H locs cells slots Q g q := fun T hT X => kk T hT (stand_widen X h1 h2)
theorem vx_out {pc : Nat} {E : String} {ce : Cell} {q : Addr} {mc ms : Nat} (hout : ∀ x ∈ c.exceptionTable.toList, covers x pc = false) (hlocks : meth.locks = false) (hcell : H[q]? = some ce) (hv : ce.vm = .none) (hcl : s.vm.findClass E = some ce.cls)
    (hx : ∀ t : State, t.heap = H → s.vm.Alike t.vm → XC E s t) (hf : ∀ z ∈ locs, free z.base) (hc : cells ≤ mc) (hs : slots ≤ ms) :
    vx_W p l e R s m args below meth c H locs cells slots (vx_MQ below Qc XC args s mc ms free) (F0 m pc ls rest) q := by
  intro T hT X
  obtain ⟨st1, hrun, hend, hW, hsm⟩ := X.leaveThrown q (g := F0 m pc ls rest) rfl rfl rfl hout hlocks
  have hcell9 : (T.setFrames (.throwing q :: below)).heap[q]? = some ce := by
    show T.heap[q]? = some ce
    rw [hT]; exact hcell
  exact ⟨_, st1, .threw q, hrun, hend, Or.inr ⟨q, rfl, E, ce, locs, hx _ hT hW.alike, hcell9, hv, hcl, hW, hsm.mono hc hs, hf⟩⟩
theorem vx_frame {U : State} {k n : Nat} (h : s.sameButNew ({ U with vm := s.vm } : State) locs k n) : s.heap.size ≤ U.heap.size ∧ ∀ q : Nat, q < s.heap.size → (∀ z ∈ locs, z.base ≠ q) → U.heap[q]? = s.heap[q]? := by
  obtain ⟨-, h2, -, -, -, h6⟩ := h
  refine ⟨h2, fun q hq hz => ?_⟩
  obtain ⟨c9, e1, e2, e3, e4⟩ := h6 q _ (Array.getElem?_eq_getElem hq)
  have hs : c9.slots = (s.heap[q]).slots := Array.ext_getElem? fun i => e4 i fun hm => hz _ hm rfl
  have h9 : c9 = s.heap[q] := by
    rw [hs] at e2
    exact e2
  have e5 : U.heap[q]? = some c9 := e1
  rw [e5, h9, Array.getElem?_eq_getElem hq]
/-- the words of a throw but the four that speak of the heap -/
def vx_no (w : Cond) : Bool := decide (w ≠ .isRef (.static Bundle.tN "UNASSIGNED_STACK" Bundle.steD)) && decide (w ≠ .isRef (.static Bundle.tN "SUPPRESSED_SENTINEL" Bundle.listD)) && decide (w ≠ .laysStatic Bundle.tN "UNASSIGNED_STACK" Bundle.steD) && decide (w ≠ .laysStatic Bundle.tN "SUPPRESSED_SENTINEL" Bundle.listD)
def vx_at0 (own : String) (ic : Nat) (X : String) (names : List String) : List Cond := (Bundle.ownAtoms0 own ic X names).filter vx_no
def vx_atS (own : String) (ic : Nat) (X : String) (names : List String) : List Cond := (Bundle.ownAtoms own ic X names).filter vx_no
/-- a word that the tables alone decide, or a good one -/
def vx_ot (w : Cond) : Bool := w.onTables || goodWord w
theorem vx_ot_at {args a' : Array Value} {s U : State} {w : Cond} (hW : s.WarmedH U.vm) (hvm : s.vm = U.vm) (hg : vx_ot w = true) (h : w.before args s = true) : w.before a' U = true := by
  simp only [vx_ot, Bool.or_eq_true] at hg
  rcases hg with hg | hg
  · exact va_tabs hg hvm h
  · exact word_at hW (good_of_word hg) h
/-- a list's words: the good ones out of the method's own list, the others by premises of their own -/
theorem vx_hat {args : Array Value} {s : State} {L B : List Cond} (h1 : ∀ w ∈ L.filter goodWord, w.before args s = true) (h2 : ∀ w ∈ L.filter (fun w => !goodWord w), w ∈ B) (h3 : ∀ w ∈ B, w.before args s = true) : ∀ w ∈ L, w.before args s = true := by
  intro w hw
  by_cases g : goodWord w = true
  · exact h1 w (List.mem_filter.mpr ⟨hw, g⟩)
  · refine h3 w (h2 w (List.mem_filter.mpr ⟨hw, ?_⟩))
    show (!goodWord w) = true
    cases hgw : goodWord w
    · rfl
    · exact absurd hgw g
theorem vx_c {args : Array Value} {s : State} {w : Cond} {B : List Cond} (h : w.before args s = true) (t : ∀ w ∈ B, w.before args s = true) : ∀ w' ∈ w :: B, w'.before args s = true := fun w' h' => (List.mem_cons.mp h').elim (fun e => by rw [e]; exact h) (t w')
theorem vx_n {args : Array Value} {s : State} : ∀ w ∈ ([] : List Cond), w.before args s = true := fun _ h => nomatch h
theorem vx_own {args : Array Value} {s : State} {L : List Cond} (h1 : ∀ w ∈ L.filter vx_no, w.before args s = true)
    (hU : (Cond.isRef (.static Bundle.tN "UNASSIGNED_STACK" Bundle.steD)).before args s = true) (hN : (Cond.isRef (.static Bundle.tN "SUPPRESSED_SENTINEL" Bundle.listD)).before args s = true)
    (lU : (Cond.laysStatic Bundle.tN "UNASSIGNED_STACK" Bundle.steD).before args s = true) (lN : (Cond.laysStatic Bundle.tN "SUPPRESSED_SENTINEL" Bundle.listD).before args s = true) : ∀ w ∈ L, w.before args s = true := by
  intro w hw
  by_cases e1 : w = .isRef (.static Bundle.tN "UNASSIGNED_STACK" Bundle.steD)
  · rw [e1]; exact hU
  · by_cases e2 : w = .isRef (.static Bundle.tN "SUPPRESSED_SENTINEL" Bundle.listD)
    · rw [e2]; exact hN
    · by_cases e3 : w = .laysStatic Bundle.tN "UNASSIGNED_STACK" Bundle.steD
      · rw [e3]; exact lU
      · by_cases e4 : w = .laysStatic Bundle.tN "SUPPRESSED_SENTINEL" Bundle.listD
        · rw [e4]; exact lN
        · exact h1 w (List.mem_filter.mpr ⟨hw, by unfold vx_no; rw [decide_eq_true e1, decide_eq_true e2, decide_eq_true e3, decide_eq_true e4]; rfl⟩)
/-- where a static field lies, its class's statics cell in H -/
def vx_L (C n d : String) (A : Nat → Prop) (U : State) (H : Heap) : Prop := ∃ (c : ClassId) (k : Class) (i : Nat) (f : Field) (a : Nat) (cell : Cell), U.vm.findClass C = some c ∧ U.fieldFound? C n d = some (c, k, i, f) ∧ f.isStatic = true ∧ k.statics = some a ∧ H[a]? = some cell ∧ cell.vm.isStatics = true ∧ cell.cls = c ∧ f.slot < cell.slots.size ∧ k.staticTypes[f.slot]? = some f.type ∧ ¬ A a
theorem vx_L.moved {C n d : String} {A : Nat → Prop} {u U : State} {H : Heap} (hvm : u.vm.Alike U.vm) (h : vx_L C n d A u H) : vx_L C n d A U H := by
  obtain ⟨c, k, i, f, a, cell, h1, h2, h3, h4, h5, h6, h7, h8, h9, h10⟩ := h
  obtain ⟨k', hi', he⟩ := State.fieldFound?_setVm hvm h2
  exact ⟨c, k', i, f, a, cell, by rw [hvm.findClass]; exact h1, hi', h3, by rw [he]; exact h4, h5, h6, h7, h8, by rw [he]; exact h9, h10⟩
theorem vx_L.kept {C n d : String} {A : Nat → Prop} {U : State} {H H1 : Heap} (h : vx_L C n d A U H) (hq : ∀ a : Nat, a < H.size → ¬ A a → H1[a]? = H[a]?) : vx_L C n d A U H1 := by
  obtain ⟨c, k, i, f, a, cell, h1, h2, h3, h4, h5, h6, h7, h8, h9, h10⟩ := h
  exact ⟨c, k, i, f, a, cell, h1, h2, h3, h4, by rw [hq a (Array.getElem?_eq_some_iff.mp h5).1 h10]; exact h5, h6, h7, h8, h9, h10⟩
theorem vx_L.narrow {C n d : String} {A B : Nat → Prop} {U : State} {H : Heap} (h : vx_L C n d A U H) (hAB : ∀ q, B q → A q) : vx_L C n d B U H := by
  obtain ⟨c, k, i, f, a, cell, h1, h2, h3, h4, h5, h6, h7, h8, h9, h10⟩ := h
  exact ⟨c, k, i, f, a, cell, h1, h2, h3, h4, h5, h6, h7, h8, h9, fun z => h10 (hAB _ z)⟩
theorem vx_L.word {C n d : String} {A : Nat → Prop} {s : State} {args : Array Value} (h : vx_L C n d A s s.heap) : (Cond.laysStatic C n d).before args s = true := by
  obtain ⟨c, k, i, f, a, cell, h1, h2, h3, h4, h5, h6, h7, h8, h9, -⟩ := h
  show (Cond.laysStatic C n d).holds args s none s [] = true
  exact Cond.laysStatic_of h1 h2 h3 h4 h5 h6 h7 h8 h9
/-- .. and what it holds: null or some reference -/
def vx_Zq (C n d : String) (A : Nat → Prop) (U : State) (H : Heap) : Prop := va_Zq C n d A U H ∧ vx_L C n d A U H
theorem vx_Zq.moved {C n d : String} {A : Nat → Prop} {u U : State} {H : Heap} (hvm : u.vm.Alike U.vm) (h : vx_Zq C n d A u H) : vx_Zq C n d A U H := ⟨va_Zq.moved hvm h.1, vx_L.moved hvm h.2⟩
theorem vx_Zq.kept {C n d : String} {A : Nat → Prop} {U : State} {H H1 : Heap} (h : vx_Zq C n d A U H) (hq : ∀ a : Nat, a < H.size → ¬ A a → H1[a]? = H[a]?) : vx_Zq C n d A U H1 := ⟨va_Zq.kept h.1 hq, vx_L.kept h.2 hq⟩
theorem vx_Zq.narrow {C n d : String} {A B : Nat → Prop} {U : State} {H : Heap} (h : vx_Zq C n d A U H) (hAB : ∀ q, B q → A q) : vx_Zq C n d B U H := ⟨va_Zq.narrow h.1 hAB, vx_L.narrow h.2 hAB⟩
theorem vx_Zqof {args : Array Value} {s : State} {C n d : String} {A : Nat → Prop} (hl : (Cond.laysStatic C n d).before args s = true) (hini : (Cond.initialized C).before args s = true) (h : (Cond.isRef (.static C n d)).before args s = true) (hA : ∀ a : Nat, a < s.heap.size → ¬ A a) : vx_Zq C n d A s s.heap := by
  refine ⟨va_Zqof hl hini h hA, ?_⟩
  obtain ⟨c, k, i, f, a, cell, h1, h2, h3, h4, h5, h6, h7, h8, h9⟩ := Cond.laysStatic_spec hl
  exact ⟨c, k, i, f, a, cell, h1, h2, h3, h4, h5, h6, h7, h8, h9, hA a (Array.getElem?_eq_some_iff.mp h5).1⟩
theorem vx_isRef {C n d : String} {v : Value} {A : Nat → Prop} {s : State} {args : Array Value} (h : va_Z C n d v A s s.heap) (hv : v.isRef = true) : (Cond.isRef (.static C n d)).before args s = true := by
  obtain ⟨cf, kf, fi, f, a, cell, h1, h2, h3, h4, h5, h6, h7, -⟩ := h
  have he : (Term.static C n d).eval args s none [] s = some v := by
    simp [Term.eval, State.fieldNamed?, h1, h2, h4, h5, h6, h7]
  simp only [Cond.before, Cond.holds, Cond.value, he]
  cases v <;> simp_all [Value.isRef]
theorem vx_isRefq {C n d : String} {A : Nat → Prop} {s : State} {args : Array Value} (h : va_Zq C n d A s s.heap) : (Cond.isRef (.static C n d)).before args s = true := by
  rcases h with h | ⟨t, h⟩
  · exact vx_isRef h rfl
  · exact vx_isRef h rfl
/-- the same frame, seen from here: as if the method were called anew in this heap -/
theorem vx_rebase {T : State} (X : Stand p l e R s m args below meth c T locs cells slots) {R' : Room} (hf : R'.frames ≤ R.frames) (hl : R'.locals ≤ R.locals) (hc : cells + R'.cells ≤ R.cells) (hs : slots + R'.slots ≤ R.slots) :
    Stand p l e R' ((T.setVm s.vm).setFrames (.invoking m args :: below)) m args below meth c T [] 0 0 := by
  have htop : (T.setVm s.vm).topJava?.isSome := X.here.top
  have hF : ((T.setVm s.vm).setFrames (.invoking m args :: below)).frames = .invoking m args :: below := State.frames_setFrames _ (State.cur_lt_of_top htop)
  obtain ⟨g₀, hg0⟩ := Option.isSome_iff_exists.mp htop
  obtain ⟨r, hr⟩ := State.topJava?_eq_some.mp hg0
  have hl9 : e.platform.stackLimits (T.setVm s.vm).me = e.platform.stackLimits s.me := X.limits
  have hb9 : (T.setVm s.vm).me.stackBytes = s.me.stackBytes := X.bytes
  refine ⟨X.admits, X.cas, X.clock, hF, ?_, X.hears, X.method, X.code, X.here, X.tail, X.warmed, ?_, ?_, ?_⟩
  · have h := X.room
    have hU : ((T.setVm s.vm).setFrames (.invoking m args :: below)).localsInUse = s.localsInUse := by
      rw [State.localsInUse_invoking hF (meth := meth) (c := c) X.method X.code, State.localsInUse_invoking X.frames X.method X.code]
    simp only [State.hasRoom, Bool.and_eq_true, decide_eq_true_eq] at h ⊢
    obtain ⟨⟨⟨⟨h1, h2, h3, h4, h5, h6⟩, h7⟩, h8⟩, h9⟩ := h
    rw [X.frames, List.length_cons] at h2 h3
    have q1 := X.heapSize
    have q2 := X.used
    simp only [hF, hU, List.length_cons, State.stackLimits_setFrames, State.stackBytes_setFrames, hl9, hb9]
    refine ⟨⟨⟨⟨by omega, by omega, by omega, by omega, by omega, h6⟩, ?_⟩, ?_⟩, X.book⟩
    · show T.heap.size + R'.cells ≤ e.platform.maxCells
      omega
    · show T.slotsUsed + R'.slots ≤ e.platform.maxSlots
      omega
  · rw [State.stackLimits_setFrames]; rfl
  · rw [State.stackBytes_setFrames]; rfl
  · refine ⟨?_, Nat.le_refl _, Nat.le_refl _, ?_, ?_, fun a c9 h9 => ⟨c9, h9, rfl, rfl, fun _ _ => rfl⟩⟩
    · obtain ⟨t, ht, -⟩ := State.frames_cons hr
      show T.setVm s.vm = { ((T.setVm s.vm).setFrames (.invoking m args :: below)).setFrames (T.setVm s.vm).frames with heap := T.heap, slotsUsed := T.slotsUsed }
      rw [State.setFrames_setFrames, State.setFrames_self ht]
      rfl
    · show T.slotsUsed = T.slotsUsed + ((T.heap.toList.drop T.heap.size).map (·.slots.size)).sum
      rw [List.drop_eq_nil_of_le (Nat.le_of_eq Array.length_toList)]
      rfl
    · show ((T.heap.toList.drop T.heap.size).map (·.slots.size)).sum ≤ 0
      rw [List.drop_eq_nil_of_le (Nat.le_of_eq Array.length_toList)]
      exact Nat.le_refl _
/-- 'throw new E()': new; dup; invokespecial; athrow -/
theorem vx_throw0 {cc : ByteArray} {pc : Nat} (hexec : p.tables.exec = Jvm.exec) (hb : c.code = cc) (hl : l.stackTraces = false) {own cls : String} {names : List String} {ik ic mc ms : Nat} {A : Nat → Prop}
    (hown : s.vm.findClass own = some m.cls) (hcls : Bundle.fit cls = true) (hnames : ∀ n ∈ names, Bundle.fit n = true)
    (hk : (Cond.classLink own ik cls).before args s = true) (hini : (Cond.initialized cls).before args s = true) (hat : ∀ w ∈ vx_at0 own ic cls names, w.before args s = true)
    (hgood : ∀ w ∈ Cond.classLink own ik cls :: Cond.initialized cls :: vx_at0 own ic cls names, vx_ot w = true)
    (hU : vx_Zq Bundle.tN "UNASSIGNED_STACK" Bundle.steD A s s.heap) (hN : vx_Zq Bundle.tN "SUPPRESSED_SENTINEL" Bundle.listD A s s.heap) (hS : va_S A s.heap H locs) (hsize : ls.size = c.maxLocals)
    (d0 : decode cc pc = .ok (.new ik, 3)) (d3 : decode cc (pc + 3) = .ok (.dup, 1)) (d4 : decode cc (pc + 4) = .ok (.invokespecial ic, 3)) (d7 : decode cc (pc + 7) = .ok (.athrow, 1))
    (hout : ∀ x ∈ c.exceptionTable.toList, covers x (pc + 7) = false)
    (hRframes : names.length + 3 < R.frames) (hRlocals : (rest.map fun v => v.category).sum + (13 * (names.length + 1) + 42) ≤ R.locals) (hRcells : cells + 1 ≤ R.cells) (hRslots : slots + 6 ≤ R.slots) (hlocks : meth.locks = false)
    (hx : ∀ t : State, s.vm.Alike t.vm → H.size ≤ t.heap.size → (∀ q : Nat, q < H.size → t.heap[q]? = H[q]?) → XC cls s t)
    (hf : ∀ z ∈ locs, free z.base) (hc : cells + 1 ≤ mc) (hs : slots + 6 ≤ ms) :
    W p l e R s m args below meth c H locs cells slots (vx_MQ below Qc XC args s mc ms free) (F0 m pc ls rest) := by
  intro T hT X
  have htr : e.platform.stackTraces = false := (show e.platform.stackTraces = l.stackTraces by rw [X.admits.platform]).trans hl
  have Y := vx_rebase X (R' := { frames := R.frames, locals := R.locals, cells := 1, slots := 6 }) (Nat.le_refl _) (Nat.le_refl _) hRcells hRslots
  obtain ⟨s', hA⟩ : ∃ z, z = (T.setVm s.vm).setFrames (.invoking m args :: below) := ⟨_, rfl⟩
  rw [← hA] at Y
  have hvm : s'.vm = s.vm := by rw [hA]; rfl
  have hhp : s'.heap = H := by rw [hA]; exact hT
  have hW0 : s.WarmedH s'.vm := by rw [hvm]; exact State.WarmedH.refl s
  have hat' : ∀ w ∈ vx_at0 own ic cls names, w.before args s' = true := fun w hw => vx_ot_at hW0 hvm.symm (hgood w (List.mem_cons_of_mem _ (List.mem_cons_of_mem _ hw))) (hat w hw)
  have hk' : (Cond.classLink own ik cls).before args s' = true := vx_ot_at hW0 hvm.symm (hgood _ List.mem_cons_self) hk
  have hini' : (Cond.initialized cls).before args s' = true := vx_ot_at hW0 hvm.symm (hgood _ (List.mem_cons_of_mem _ List.mem_cons_self)) hini
  have hU' : vx_Zq Bundle.tN "UNASSIGNED_STACK" Bundle.steD A s' s'.heap := by rw [hhp]; exact vx_Zq.moved hW0.alike (hU.kept hS.2.1)
  have hN' : vx_Zq Bundle.tN "SUPPRESSED_SENTINEL" Bundle.listD A s' s'.heap := by rw [hhp]; exact vx_Zq.moved hW0.alike (hN.kept hS.2.1)
  have h : ∀ w ∈ Bundle.ownAtoms0 own ic cls names, w.before args s' = true := vx_own hat' (vx_isRefq hU'.1) (vx_isRefq hN'.1) hU'.2.word hN'.2.word
  have hown' : s'.vm.findClass own = some m.cls := by rw [hvm]; exact hown
  have hins : (Cond.instantiable cls 6).before args s' = true := h _ (by simp [Bundle.ownAtoms0])
  obtain ⟨vm₁, cX, kX, hfX, hkX, -, -, X₁, st1⟩ := Y.newCold hexec (own := own) (C := cls) (index := ik) (n := 6) hown' hk' hins hini'
    (g := F0 m pc ls rest) rfl (by rw [hb]; exact d0) (Nat.le_refl _) (Nat.le_refl _)
  generalize hT1 : (T.setVm vm₁).pushCell { cls := cX, slots := kX.instanceTypes.map defaultValue, vm := .none } = T1 at X₁ st1
  have hcat : (Value.ref T.heap.size).category = 1 := rfl
  have hcellA : T1.heap[T.heap.size]? = some (freshCell cX kX) := by rw [← hT1]; exact State.heap_pushCell_size _ _
  have d3' : decode c.code (pc + 3) = .ok (.dup, 1) := by rw [hb]; exact d3
  obtain ⟨U, hsteps, hrun, hend, hW, hsame, ce, hce, hO⟩ := X₁.ctorThrow0 hexec htr (own := own) (cls := cls) (names := names) (ic := ic) hown' hcls hnames h (fun x hx => nomatch hx) hfX hkX hcellA (by rw [hhp, hT]; exact Nat.le_refl _)
    (g := { method := m, pc := pc + 4, locals := ls, stack := .ref T.heap.size :: .ref T.heap.size :: rest, locked := none }) rfl hsize rfl rfl (rest := rest) rfl
    (by rw [hb]; exact d4) (by rw [hb]; exact d7) hout hRframes (by simp only [List.map_cons, List.sum_cons, hcat]; omega) hlocks
  obtain ⟨f1, f2⟩ := vx_frame hsame
  rw [hhp] at f1 f2
  have hWs : s.WarmedH U.vm := State.WarmedH.trans hW0 hW
  have hcl : s.vm.findClass cls = some ce.cls := by
    have h9 := hO.cls
    rw [hvm] at h9
    exact h9
  have hall : s.sameButNew ({ U with vm := s.vm } : State) locs mc ms := by
    subst hA
    obtain ⟨e1, e2⟩ := hsame
    rw [State.setFrames_setFrames] at e1
    have h2 : (T.setVm s.vm).sameButNew ({ U with vm := s.vm } : State) [] (0 + 1) (0 + 6) := ⟨e1, e2⟩
    have h3 := X.same.trans h2
    rw [List.append_nil] at h3
    exact h3.mono hc hs
  refine ⟨U, ?_, .threw T.heap.size, hrun, hend, Or.inr ⟨T.heap.size, rfl, cls, ce, locs, hx U hWs.alike f1 (fun q hq => f2 q hq (fun z hz => nomatch hz)), hce, hO.vm, hcl, hWs, hall, hf⟩⟩
  refine st1 _ ?_
  show Steps p.tables e below (T1.setTop { method := m, pc := pc + 3, locals := ls, stack := .ref T.heap.size :: rest, locked := none }) _
  jvm_step X₁.here [X₁.here.top, hexec, d3', Value.category]
  exact hsteps
/-- 'throw new E("text")': new; dup; ldc; invokespecial; athrow -/
theorem vx_throwS {cc : ByteArray} {pc : Nat} (hexec : p.tables.exec = Jvm.exec) (hb : c.code = cc) (hl : l.stackTraces = false) {own cls text : String} {names : List String} {ik is ic mc ms sa : Nat} {A : Nat → Prop}
    (hown : s.vm.findClass own = some m.cls) (hcls : Bundle.fit cls = true) (hnames : ∀ n ∈ names, Bundle.fit n = true)
    (hk : (Cond.classLink own ik cls).before args s = true) (hini : (Cond.initialized cls).before args s = true) (hstr : vk_R own is text sa s) (hat : ∀ w ∈ vx_atS own ic cls names, w.before args s = true)
    (hgood : ∀ w ∈ Cond.classLink own ik cls :: Cond.initialized cls :: vx_atS own ic cls names, vx_ot w = true)
    (hU : vx_Zq Bundle.tN "UNASSIGNED_STACK" Bundle.steD A s s.heap) (hN : vx_Zq Bundle.tN "SUPPRESSED_SENTINEL" Bundle.listD A s s.heap) (hS : va_S A s.heap H locs) (hsize : ls.size = c.maxLocals)
    (d0 : decode cc pc = .ok (.new ik, 3)) (d3 : decode cc (pc + 3) = .ok (.dup, 1)) (d4 : decode cc (pc + 4) = .ok (.ldc is, 2)) (d6 : decode cc (pc + 6) = .ok (.invokespecial ic, 3)) (d9 : decode cc (pc + 9) = .ok (.athrow, 1))
    (hout : ∀ x ∈ c.exceptionTable.toList, covers x (pc + 9) = false)
    (hRframes : names.length + 3 < R.frames) (hRlocals : (rest.map fun v => v.category).sum + (13 * (names.length + 1) + 43) ≤ R.locals) (hRcells : cells + 1 ≤ R.cells) (hRslots : slots + 6 ≤ R.slots) (hlocks : meth.locks = false)
    (hx : ∀ t : State, s.vm.Alike t.vm → H.size ≤ t.heap.size → (∀ q : Nat, q < H.size → t.heap[q]? = H[q]?) → XC cls s t)
    (hf : ∀ z ∈ locs, free z.base) (hc : cells + 1 ≤ mc) (hs : slots + 6 ≤ ms) :
    W p l e R s m args below meth c H locs cells slots (vx_MQ below Qc XC args s mc ms free) (F0 m pc ls rest) := by
  intro T hT X
  have htr : e.platform.stackTraces = false := (show e.platform.stackTraces = l.stackTraces by rw [X.admits.platform]).trans hl
  have Y := vx_rebase X (R' := { frames := R.frames, locals := R.locals, cells := 1, slots := 6 }) (Nat.le_refl _) (Nat.le_refl _) hRcells hRslots
  obtain ⟨s', hA⟩ : ∃ z, z = (T.setVm s.vm).setFrames (.invoking m args :: below) := ⟨_, rfl⟩
  rw [← hA] at Y
  have hvm : s'.vm = s.vm := by rw [hA]; rfl
  have hhp : s'.heap = H := by rw [hA]; exact hT
  have hW0 : s.WarmedH s'.vm := by rw [hvm]; exact State.WarmedH.refl s
  have hat' : ∀ w ∈ vx_atS own ic cls names, w.before args s' = true := fun w hw => vx_ot_at hW0 hvm.symm (hgood w (List.mem_cons_of_mem _ (List.mem_cons_of_mem _ hw))) (hat w hw)
  have hk' : (Cond.classLink own ik cls).before args s' = true := vx_ot_at hW0 hvm.symm (hgood _ List.mem_cons_self) hk
  have hini' : (Cond.initialized cls).before args s' = true := vx_ot_at hW0 hvm.symm (hgood _ (List.mem_cons_of_mem _ List.mem_cons_self)) hini
  have hU' : vx_Zq Bundle.tN "UNASSIGNED_STACK" Bundle.steD A s' s'.heap := by rw [hhp]; exact vx_Zq.moved hW0.alike (hU.kept hS.2.1)
  have hN' : vx_Zq Bundle.tN "SUPPRESSED_SENTINEL" Bundle.listD A s' s'.heap := by rw [hhp]; exact vx_Zq.moved hW0.alike (hN.kept hS.2.1)
  have h : ∀ w ∈ Bundle.ownAtoms own ic cls names, w.before args s' = true := vx_own hat' (vx_isRefq hU'.1) (vx_isRefq hN'.1) hU'.2.word hN'.2.word
  have hown' : s'.vm.findClass own = some m.cls := by rw [hvm]; exact hown
  have hins : (Cond.instantiable cls 6).before args s' = true := h _ (by simp [Bundle.ownAtoms])
  obtain ⟨vm₁, cX, kX, hfX, hkX, -, -, X₁, st1⟩ := Y.newCold hexec (own := own) (C := cls) (index := ik) (n := 6) hown' hk' hins hini'
    (g := F0 m pc ls rest) rfl (by rw [hb]; exact d0) (Nat.le_refl _) (Nat.le_refl _)
  generalize hT1 : (T.setVm vm₁).pushCell { cls := cX, slots := kX.instanceTypes.map defaultValue, vm := .none } = T1 at X₁ st1
  have hcat : (Value.ref T.heap.size).category = 1 := rfl
  have hcellA : T1.heap[T.heap.size]? = some (freshCell cX kX) := by rw [← hT1]; exact State.heap_pushCell_size _ _
  have d3' : decode c.code (pc + 3) = .ok (.dup, 1) := by rw [hb]; exact d3
  have d4' : decode c.code (pc + 4) = .ok (.ldc is, 2) := by rw [hb]; exact d4
  have hstr' : vk_R own is text sa s' := vk_R.warm hW0 hstr
  obtain ⟨U, hsteps, hrun, hend, hW, hsame, ce, hce, hO⟩ := X₁.ctorThrowS hexec htr (own := own) (cls := cls) (names := names) (ic := ic) hown' hcls hnames h (fun x hx => nomatch hx) hfX hkX hcellA (by rw [hhp, hT]; exact Nat.le_refl _) (msg := .ref sa) rfl
    (g := { method := m, pc := pc + 6, locals := ls, stack := .ref sa :: .ref T.heap.size :: .ref T.heap.size :: rest, locked := none }) rfl hsize rfl rfl (rest := rest) rfl
    (by rw [hb]; exact d6) (by rw [hb]; exact d9) hout hRframes (by simp only [List.map_cons, List.sum_cons, hcat]; omega) hlocks
  obtain ⟨f1, f2⟩ := vx_frame hsame
  rw [hhp] at f1 f2
  have hWs : s.WarmedH U.vm := State.WarmedH.trans hW0 hW
  have hcl : s.vm.findClass cls = some ce.cls := by
    have h9 := hO.cls
    rw [hvm] at h9
    exact h9
  have hall : s.sameButNew ({ U with vm := s.vm } : State) locs mc ms := by
    subst hA
    obtain ⟨e1, e2⟩ := hsame
    rw [State.setFrames_setFrames] at e1
    have h2 : (T.setVm s.vm).sameButNew ({ U with vm := s.vm } : State) [] (0 + 1) (0 + 6) := ⟨e1, e2⟩
    have h3 := X.same.trans h2
    rw [List.append_nil] at h3
    exact h3.mono hc hs
  refine ⟨U, ?_, .threw T.heap.size, hrun, hend, Or.inr ⟨T.heap.size, rfl, cls, ce, locs, hx U hWs.alike f1 (fun q hq => f2 q hq (fun z hz => nomatch hz)), hce, hO.vm, hcl, hWs, hall, hf⟩⟩
  refine st1 _ ?_
  show Steps p.tables e below (T1.setTop { method := m, pc := pc + 3, locals := ls, stack := .ref T.heap.size :: rest, locked := none }) _
  jvm_step X₁.here [X₁.here.top, hexec, d3', Value.category]
  exact X₁.ldcString hexec (own := own) (text := text) (index := is) (a := sa) hown' hstr'.1 hstr'.2
    (g := { method := m, pc := pc + 4, locals := ls, stack := .ref T.heap.size :: .ref T.heap.size :: rest, locked := none }) rfl d4' _ hsteps
/-- 'throw new E("text")', the text by a wide index -/
theorem vx_throwSW {cc : ByteArray} {pc : Nat} (hexec : p.tables.exec = Jvm.exec) (hb : c.code = cc) (hl : l.stackTraces = false) {own cls text : String} {names : List String} {ik is ic mc ms sa : Nat} {A : Nat → Prop}
    (hown : s.vm.findClass own = some m.cls) (hcls : Bundle.fit cls = true) (hnames : ∀ n ∈ names, Bundle.fit n = true)
    (hk : (Cond.classLink own ik cls).before args s = true) (hini : (Cond.initialized cls).before args s = true) (hstr : vk_R own is text sa s) (hat : ∀ w ∈ vx_atS own ic cls names, w.before args s = true)
    (hgood : ∀ w ∈ Cond.classLink own ik cls :: Cond.initialized cls :: vx_atS own ic cls names, vx_ot w = true)
    (hU : vx_Zq Bundle.tN "UNASSIGNED_STACK" Bundle.steD A s s.heap) (hN : vx_Zq Bundle.tN "SUPPRESSED_SENTINEL" Bundle.listD A s s.heap) (hS : va_S A s.heap H locs) (hsize : ls.size = c.maxLocals)
    (d0 : decode cc pc = .ok (.new ik, 3)) (d3 : decode cc (pc + 3) = .ok (.dup, 1)) (d4 : decode cc (pc + 4) = .ok (.ldc_w is, 3)) (d7 : decode cc (pc + 7) = .ok (.invokespecial ic, 3)) (d10 : decode cc (pc + 10) = .ok (.athrow, 1))
    (hout : ∀ x ∈ c.exceptionTable.toList, covers x (pc + 10) = false)
    (hRframes : names.length + 3 < R.frames) (hRlocals : (rest.map fun v => v.category).sum + (13 * (names.length + 1) + 43) ≤ R.locals) (hRcells : cells + 1 ≤ R.cells) (hRslots : slots + 6 ≤ R.slots) (hlocks : meth.locks = false)
    (hx : ∀ t : State, s.vm.Alike t.vm → H.size ≤ t.heap.size → (∀ q : Nat, q < H.size → t.heap[q]? = H[q]?) → XC cls s t)
    (hf : ∀ z ∈ locs, free z.base) (hc : cells + 1 ≤ mc) (hs : slots + 6 ≤ ms) :
    W p l e R s m args below meth c H locs cells slots (vx_MQ below Qc XC args s mc ms free) (F0 m pc ls rest) := by
  intro T hT X
  have htr : e.platform.stackTraces = false := (show e.platform.stackTraces = l.stackTraces by rw [X.admits.platform]).trans hl
  have Y := vx_rebase X (R' := { frames := R.frames, locals := R.locals, cells := 1, slots := 6 }) (Nat.le_refl _) (Nat.le_refl _) hRcells hRslots
  obtain ⟨s', hA⟩ : ∃ z, z = (T.setVm s.vm).setFrames (.invoking m args :: below) := ⟨_, rfl⟩
  rw [← hA] at Y
  have hvm : s'.vm = s.vm := by rw [hA]; rfl
  have hhp : s'.heap = H := by rw [hA]; exact hT
  have hW0 : s.WarmedH s'.vm := by rw [hvm]; exact State.WarmedH.refl s
  have hat' : ∀ w ∈ vx_atS own ic cls names, w.before args s' = true := fun w hw => vx_ot_at hW0 hvm.symm (hgood w (List.mem_cons_of_mem _ (List.mem_cons_of_mem _ hw))) (hat w hw)
  have hk' : (Cond.classLink own ik cls).before args s' = true := vx_ot_at hW0 hvm.symm (hgood _ List.mem_cons_self) hk
  have hini' : (Cond.initialized cls).before args s' = true := vx_ot_at hW0 hvm.symm (hgood _ (List.mem_cons_of_mem _ List.mem_cons_self)) hini
  have hU' : vx_Zq Bundle.tN "UNASSIGNED_STACK" Bundle.steD A s' s'.heap := by rw [hhp]; exact vx_Zq.moved hW0.alike (hU.kept hS.2.1)
  have hN' : vx_Zq Bundle.tN "SUPPRESSED_SENTINEL" Bundle.listD A s' s'.heap := by rw [hhp]; exact vx_Zq.moved hW0.alike (hN.kept hS.2.1)
  have h : ∀ w ∈ Bundle.ownAtoms own ic cls names, w.before args s' = true := vx_own hat' (vx_isRefq hU'.1) (vx_isRefq hN'.1) hU'.2.word hN'.2.word
  have hown' : s'.vm.findClass own = some m.cls := by rw [hvm]; exact hown
  have hins : (Cond.instantiable cls 6).before args s' = true := h _ (by simp [Bundle.ownAtoms])
  obtain ⟨vm₁, cX, kX, hfX, hkX, -, -, X₁, st1⟩ := Y.newCold hexec (own := own) (C := cls) (index := ik) (n := 6) hown' hk' hins hini'
    (g := F0 m pc ls rest) rfl (by rw [hb]; exact d0) (Nat.le_refl _) (Nat.le_refl _)
  generalize hT1 : (T.setVm vm₁).pushCell { cls := cX, slots := kX.instanceTypes.map defaultValue, vm := .none } = T1 at X₁ st1
  have hcat : (Value.ref T.heap.size).category = 1 := rfl
  have hcellA : T1.heap[T.heap.size]? = some (freshCell cX kX) := by rw [← hT1]; exact State.heap_pushCell_size _ _
  have d3' : decode c.code (pc + 3) = .ok (.dup, 1) := by rw [hb]; exact d3
  have d4' : decode c.code (pc + 4) = .ok (.ldc_w is, 3) := by rw [hb]; exact d4
  have hstr' : vk_R own is text sa s' := vk_R.warm hW0 hstr
  obtain ⟨U, hsteps, hrun, hend, hW, hsame, ce, hce, hO⟩ := X₁.ctorThrowS hexec htr (own := own) (cls := cls) (names := names) (ic := ic) hown' hcls hnames h (fun x hx => nomatch hx) hfX hkX hcellA (by rw [hhp, hT]; exact Nat.le_refl _) (msg := .ref sa) rfl
    (g := { method := m, pc := pc + 7, locals := ls, stack := .ref sa :: .ref T.heap.size :: .ref T.heap.size :: rest, locked := none }) rfl hsize rfl rfl (rest := rest) rfl
    (by rw [hb]; exact d7) (by rw [hb]; exact d10) hout hRframes (by simp only [List.map_cons, List.sum_cons, hcat]; omega) hlocks
  obtain ⟨f1, f2⟩ := vx_frame hsame
  rw [hhp] at f1 f2
  have hWs : s.WarmedH U.vm := State.WarmedH.trans hW0 hW
  have hcl : s.vm.findClass cls = some ce.cls := by
    have h9 := hO.cls
    rw [hvm] at h9
    exact h9
  have hall : s.sameButNew ({ U with vm := s.vm } : State) locs mc ms := by
    subst hA
    obtain ⟨e1, e2⟩ := hsame
    rw [State.setFrames_setFrames] at e1
    have h2 : (T.setVm s.vm).sameButNew ({ U with vm := s.vm } : State) [] (0 + 1) (0 + 6) := ⟨e1, e2⟩
    have h3 := X.same.trans h2
    rw [List.append_nil] at h3
    exact h3.mono hc hs
  refine ⟨U, ?_, .threw T.heap.size, hrun, hend, Or.inr ⟨T.heap.size, rfl, cls, ce, locs, hx U hWs.alike f1 (fun q hq => f2 q hq (fun z hz => nomatch hz)), hce, hO.vm, hcl, hWs, hall, hf⟩⟩
  refine st1 _ ?_
  show Steps p.tables e below (T1.setTop { method := m, pc := pc + 3, locals := ls, stack := .ref T.heap.size :: rest, locked := none }) _
  jvm_step X₁.here [X₁.here.top, hexec, d3', Value.category]
  exact X₁.ldcStringW hexec (own := own) (text := text) (index := is) (a := sa) hown' hstr'.1 hstr'.2
    (g := { method := m, pc := pc + 4, locals := ls, stack := .ref T.heap.size :: .ref T.heap.size :: rest, locked := none }) rfl d4' _ hsteps
end Ends
section Bodies
variable {l : Launch}
theorem vx_ofW {y : MethodName} {ws ws' : List Cond} {rm : Room} {Pc : Array Value → State → Prop} {Qc : Array Value → State → Outcome → State → Prop} {XC : String → State → State → Prop} {mc ms : Nat} {free : Addr → Prop} {cc : ByteArray} {maxL : Nat} {ret : Option FieldType}
    (hy : plainName y.cls = true) (hw : ws = Cond.code y cc maxL ret :: ws')
    (body : ∀ p e s m args below meth c s₁, BodyLoose p l y (headSpec ws rm) cc maxL ret e s m args below meth c s₁ → c.maxLocals = maxL → (∀ x ∈ c.exceptionTable.toList, False) → Pc args s →
      W p l e (headSpec ws rm).room s m args below meth c s.heap [] 0 0 (vx_MQ below Qc XC args s mc ms free) (entryFrame m args maxL)) : vx_Met l y ws rm Pc Qc XC mc ms free := by
  refine MetFree.of_bodyS (code := cc) (maxLocals := maxL) (ret := ret) hy ?_ ?_
  · intro args s m h hn
    obtain ⟨meth, c, h1, h2, h3, h4, h5, h6, -, -⟩ := Cond.code_spec hn (atoms_spec (ws := ws) h _ (by rw [hw]; exact List.mem_cons_self))
    exact ⟨meth, c, h1, h2, h3, h4, h5, h6⟩
  · intro p e s m args below meth c s₁ B hml hP _
    have hh0 : s₁.heap = s.heap := by rw [B.state]; rfl
    have ht : ∀ x ∈ c.exceptionTable.toList, False := by
      obtain ⟨meth9, c9, h1, h2, -, -, -, -, h7, -⟩ := Cond.code_spec B.named (atoms_spec (ws := ws) B.pre _ (by rw [hw]; exact List.mem_cons_self))
      cases Option.some.inj (h1.symm.trans B.method)
      cases Option.some.inj (h2.symm.trans (Stand.of_body B).code)
      intro x hx
      rw [Array.isEmpty_iff.mp h7] at hx
      cases hx
    obtain ⟨t, a1, o, b1, b2, b3⟩ := body p e s m args below meth c s₁ B hml ht hP s₁ hh0 (Stand.of_body B)
    exact ⟨t, o, a1, b1, b2, b3⟩
/-- the table of a body with handlers -/
theorem vx_table {p : Program} {x y : MethodName} {S : Spec} {cc bytes : ByteArray} {maxL maxL' : Nat} {ret ret' : Option FieldType} {e : Env} {s s₁ : State} {m : MethodId} {args : Array Value} {below : List Frame} {meth : Method} {c : Code} {hh : List (Nat × Nat × Nat × Nat)}
    (B : BodyLoose p l y S cc maxL ret e s m args below meth c s₁) (h : (Cond.codeWith y bytes maxL' ret' hh).before args s = true) : c.exceptionTable.toList = tableOf hh := by
  obtain ⟨m9, meth9, c9, hn9, h1, h2, -, -, h6, -⟩ := Cond.codeWith_spec h
  cases Option.some.inj (hn9.symm.trans B.named)
  cases Option.some.inj (h1.symm.trans B.method)
  cases Option.some.inj (h2.symm.trans (Stand.of_body B).code)
  rw [← h6, table_eq]
end Bodies
end VXA
/-! ===== END ===== -/
/-! ===== BEGIN a static call of a method with an exception table ===== -/
section VXS
variable {p : Program} {l : Launch} {e : Env} {R : Room} {s : State} {m : MethodId} {args : Array Value} {below : List Frame} {meth : Method} {c : Code} {T : State} {H : Heap} {locs : List Loc} {cells slots : Nat}
abbrev vx_CSW (R : Room) (s : State) (args : Array Value) (own : String) (index : Nat) (y : MethodName) (bytes : ByteArray) (maxL : Nat) (ret : Option FieldType) (hh : List (Nat × Nat × Nat × Nat)) (ws : List Cond) (rm : Room) (mc ms n : Nat) : Prop :=
  (rm.cells = mc ∧ rm.slots = ms ∧ rm.frames + 1 ≤ R.frames ∧ 8 + (maxL + 11) + rm.locals ≤ R.locals ∧ (∀ w ∈ ws, ∀ (a' : Array Value) (U : State), s.WarmedH U.vm → w.before a' U = true) ∧ Cond.codeWith y bytes maxL ret hh ∈ ws) ∧
  (Cond.codeWith y bytes maxL ret hh).before args s = true ∧ (Cond.initialized y.cls).before args s = true ∧ (y.cls ≠ "java/lang/invoke/MethodHandle" ∧ y.cls ≠ "java/lang/invoke/VarHandle") ∧
  (∀ sig, parseMethodDescriptor y.desc = some sig → n = sig.parameters.length) ∧ (Cond.methodLink own index y).before args s = true ∧ (Cond.static y).before args s = true
theorem vx_cwSW {own : String} {index maxL mc ms : Nat} {y : MethodName} {bytes : ByteArray} {ret : Option FieldType} {hh : List (Nat × Nat × Nat × Nat)} {Ts ws ws' : List Cond} {rm : Room} (n : Nat) (ht : ∀ w ∈ Ts, w.before args s = true) (hT : GoodIn Ts (va_wsS own index y ws)) (hw : ws = Cond.codeWith y bytes maxL ret hh :: ws') (hrc : rm.cells = mc) (hrs : rm.slots = ms)
    (hd : y.cls ≠ "java/lang/invoke/MethodHandle" ∧ y.cls ≠ "java/lang/invoke/VarHandle" ∧ (parseMethodDescriptor y.desc).map (fun d => d.parameters.length) = some n) (hR : rm.frames + 1 ≤ R.frames ∧ 8 + (maxL + 11) + rm.locals ≤ R.locals) :
    vx_CSW R s args own index y bytes maxL ret hh ws rm mc ms n := by
  have ok : ∀ w ∈ va_wsS own index y ws, w.before args s = true := fun w h => ht w (hT w h).1
  have hG : GoodIn Ts ws := fun w h => hT w (by unfold va_wsS; exact List.mem_append_right _ h)
  have hc : Cond.codeWith y bytes maxL ret hh ∈ ws := by rw [hw]; exact List.mem_cons_self
  refine ⟨⟨hrc, hrs, hR.1, hR.2, pay_in ht hG, hc⟩, ht _ (hG _ hc).1, ok _ (by simp [va_wsS]), ⟨hd.1, hd.2.1⟩, fun sig h => ?_, ok _ (by simp [va_wsS]), ok _ (by simp [va_wsS])⟩
  have h2 := hd.2.2
  rw [h] at h2
  exact (Option.some.inj h2).symm
theorem vx_callSW (X : Stand p l e R s m args below meth c T locs cells slots) (hexec : p.tables.exec = Jvm.exec) {own : String} {index : Nat} {y : MethodName} {bytes : ByteArray} {maxL : Nat} {ret : Option FieldType} {hh : List (Nat × Nat × Nat × Nat)}
    (hown : s.vm.findClass own = some m.cls) (hlink : (Cond.methodLink own index y).before args s = true) (hstat : (Cond.static y).before args s = true) (hinit : (Cond.initialized y.cls).before args s = true)
    (hcode : (Cond.codeWith y bytes maxL ret hh).before args s = true) (hy : y.cls ≠ "java/lang/invoke/MethodHandle" ∧ y.cls ≠ "java/lang/invoke/VarHandle")
    {W9 : Nat} {Pre : Pt → Array Value → Prop} {Post : Pt → Array Value → Option Value → Pt → Prop} (hK : Back l R p e below s args y 3 W9 Pre Post)
    {g : JFrame} (hg : g.method = m) (hsize : g.locals.size = c.maxLocals) {argsL rest : List Value} (hlen : ∀ sig, parseMethodDescriptor y.desc = some sig → argsL.length = sig.parameters.length)
    (hstack : g.stack = argsL.reverse ++ rest) (hW : 2 * g.monitorRoom + (rest.map fun v => v.category).sum ≤ W9) (hdg : decode c.code g.pc = .ok (.invokestatic index, 3))
    (hpre : ∀ vm₁, s.WarmedH vm₁ → Pre ⟨T.setVm vm₁, locs, cells, slots⟩ argsL.toArray) :
    ∃ (v : Option Value) (vm₁ : Vm) (B : Pt), s.WarmedH vm₁ ∧ Stand p l e R s m args below meth c B.U B.locs B.cells B.slots ∧ Post ⟨T.setVm vm₁, locs, cells, slots⟩ argsL.toArray v B ∧
      ∀ target, Steps p.tables e below (B.U.setTop { g with pc := g.pc + 3, stack := v.toList ++ rest }) target → Steps p.tables e below (T.setTop g) target := by
  obtain ⟨mk, methM, cM, hnamed, hmethM, -, -, -, -, -, -, hsigM⟩ := Cond.codeWith_spec hcode
  have hstatic : methM.isStatic = true := Cond.static_spec hnamed hmethM hstat
  obtain ⟨kP, hkP, -⟩ := className_of_methodNamed hnamed
  have hinitP : kP.init = .initialized := Cond.initialized_spec (findClass_of_methodNamed hnamed) hkP hinit
  obtain ⟨vm₁, X₁, hstep₁⟩ := X.invokestatic hexec hown hlink hnamed hmethM hstatic hkP hinitP hy (g := g) hg (argsL := argsL) (rest := rest) (hlen _ hsigM) hstack hdg
  obtain ⟨v, B, X', hpost, hsteps⟩ := hK m meth c ⟨T.setVm vm₁, locs, cells, slots⟩ { g with stack := rest } (.invokestatic index) mk argsL.toArray X₁ hg hsize hdg hW (X₁.named hnamed) (hpre vm₁ X₁.warmed)
  exact ⟨v, vm₁, B, X₁.warmed, X', hpost, fun target h => hstep₁ _ fun acts => by rw [doInvoke_state]; exact hsteps.trans h⟩
theorem vx_runSW {y : MethodName} {bytes cc : ByteArray} {maxL nL mc ms n index : Nat} {ret : Option FieldType} {hh : List (Nat × Nat × Nat × Nat)} {ws : List Cond} {rm : Room} {Pc : Array Value → State → Prop} {Qc : Array Value → State → Outcome → State → Prop} {free : Addr → Prop} {Ts : List Cond} {own : String} {As rest : List Value} {g : JFrame}
    (S : CallFix p m c cc nL s args Ts own) (hM : Met l y ws rm Pc Qc mc ms free) (cw : vx_CSW R s args own index y bytes maxL ret hh ws rm mc ms n) (hp : PreS s H Pc As)
    (hg : g.method = m) (hn : As.length = n) (hsize : g.locals.size = nL) (hstack : g.stack = As.reverse ++ rest) (hW : 2 * g.monitorRoom + (rest.map fun v => v.category).sum ≤ 8) (hdg : decode cc g.pc = .ok (.invokestatic index, 3)) (hf : cells + mc ≤ R.cells ∧ slots + ms ≤ R.slots) :
    va_Run p l e R s m args below meth c H locs cells slots mc ms g rest (Qc As.toArray) (free) := by
  obtain ⟨⟨hrc, hrs, hfr, hlo, hws, hcw⟩, hcode, hini, hy, hlen, hl, hstt⟩ := cw
  have hK : Back l R p e below s args y 3 8 (PreOf R mc ms Pc) (PostOf Qc mc ms free) := va_backW (hh := hh) (bytes := bytes) (maxL := maxL) (ret := ret) hM hp.1 hrc hrs hfr hlo hws hcw (fun a' U hW => word_at hW (Or.inl (by first | rfl | simp [Cond.onTables, Cond.keeps, Cond.steady])) hini)
  obtain ⟨hx, hb, hml, ho, -⟩ := S
  intro T hT X
  obtain ⟨v, vm₁, ⟨U', l2, c2, s2⟩, hW₁, X', ⟨g', mk, t, L, e1, e2, hq, h1, hL, h2, h3⟩, st⟩ := vx_callSW X hx (hh := hh) (bytes := bytes) (maxL := maxL) (ret := ret) ho hl hstt hini hcode hy hK hg (hsize.trans hml.symm) (argsL := As) (rest := rest) (fun sig h => hn.trans (hlen sig h)) hstack hW (by rw [hb]; exact hdg)
    (fun vm₁ hW₁ => ⟨hf.1, hf.2, hp.2 (T.setVm vm₁) hT hW₁⟩)
  dsimp only [Pt.U, Pt.locs, Pt.cells, Pt.slots] at X' e1 e2 h1 h2 h3 st
  subst h1; subst h2; subst h3
  exact ⟨v, (T.setVm vm₁).calling g' mk As.toArray, t, U', L, hT, X', hL, e1, e2, hq, st⟩
/-- not caught here, past rows that name other classes: it goes on to the caller -/
theorem vx_outP {p : Program} {l : Launch} {e : Env} {R : Room} {s : State} {m : MethodId} {args : Array Value} {below : List Frame} {meth : Method} {c : Code} {H : Heap} {locs : List Loc} {cells slots : Nat} {free : Addr → Prop} {ls : Array Slot} {rest : List Value} {Qc : Array Value → State → Outcome → State → Prop} {XC : String → State → State → Prop}
    {pc : Nat} {own E : String} {ce : Cell} {q : Addr} {mc ms : Nat} (hown : s.vm.findClass own = some m.cls) (hlocks : meth.locks = false)
    (hpass : ∀ z ∈ c.exceptionTable.toList, covers z pc = false ∨ (z.catchType ≠ 0 ∧ ∃ nm : String, (Cond.classLink own z.catchType nm).before args s = true ∧ va_Nc E nm s)) (hcell : H[q]? = some ce) (hv : ce.vm = .none) (hcl : s.vm.findClass E = some ce.cls)
    (hx : ∀ t : State, t.heap = H → s.vm.Alike t.vm → XC E s t) (hf : ∀ z ∈ locs, free z.base) (hc : cells ≤ mc) (hs : slots ≤ ms) :
    vx_W p l e R s m args below meth c H locs cells slots (vx_MQ below Qc XC args s mc ms free) (F0 m pc ls rest) q := by
  intro T hT X
  have hpl : e.platform.magicAccessors = ({} : Platform).magicAccessors := by rw [X.admits.platform]
  obtain ⟨vm', hW', X', st⟩ := Stand.outThrough X hlocks q (g := F0 m pc ls rest) rfl rfl rfl (cell := ce) (by rw [hT]; exact hcell) (by rw [hv]; rfl)
    (by obtain ⟨k9, h9, -⟩ := Vm.findClass_spec hcl; exact ⟨k9, h9⟩) (fun z hz => by
      rcases hpass z hz with h | ⟨hz0, nm, hl1, hn1⟩
      · exact Or.inl h
      · obtain ⟨c6, hc6, hcl6⟩ := Cond.classLink_spec hown hl1 e.platform hpl
        obtain ⟨a8, b8, h1, h2, h3⟩ := hn1
        cases Option.some.inj (h1.symm.trans hcl)
        cases Option.some.inj (h2.symm.trans hc6)
        exact Or.inr ⟨hz0, _, hcl6, h3⟩)
  obtain ⟨g₀, hfr⟩ := X'.frames_eq
  have hcell9 : ((T.setVm vm').setFrames (.throwing q :: below)).heap[q]? = some ce := by
    show T.heap[q]? = some ce
    rw [hT]; exact hcell
  have hend : Ended ((T.setVm vm').setFrames (.throwing q :: below)) below (.threw q) := State.frames_setFrames _ (State.cur_lt_of_frames hfr)
  refine ⟨(T.setVm vm').setFrames (.throwing q :: below), ?_, .threw q, X'.here.running, hend, Or.inr ⟨q, rfl, E, ce, locs, hx _ hT (X'.ends _).1.alike, hcell9, hv, hcl, (X'.ends _).1, (X'.ends _).2.mono hc hs, hf⟩⟩
  rw [X.pushThrowing_eq]
  exact st
/-- a thing of a world lies in the heap -/
theorem vx_lt {D : va_G} {cl : List vw_C} {ws : va_W} {H1 : Heap} (h : va_P D cl ws H1) {k : Nat} {q : Nat × va_E} (hk : ws[k]? = some q) : q.1 < H1.size := (h k q hk).lt
end VXS
/-! ===== END ===== -/
/-! ===== BEGIN methods with a table of their own: called by a name, returning or throwing ===== -/
section VXH
/-! vx_backW, vx_callVX, vx_callSX, vx_callVW, vx_runVW, vx_runVX, vx_runSX, vx_ofWH follow the same proofs as their sisters above (Free/Laws.lean, Shelf42/LK1.lean); vx_outP calls Shelf42/NT130.lean (outThrough). -/
section
variable {l : Launch} {R : Room} {p : Program} {e : Env} {below : List Frame} {s : State} {sargs : Array Value} {y : MethodName} {len W9 : Nat}
theorem vx_backW {ws : List Cond} {rm : Room} {Pc : Array Value → State → Prop} {Qc : Array Value → State → Outcome → State → Prop} {XC : String → State → State → Prop} {mc ms : Nat} {free : Addr → Prop} {bytes : ByteArray} {maxL : Nat} {ret : Option FieldType} {hh : List (Nat × Nat × Nat × Nat)}
    (hM : vx_Met l y ws rm Pc Qc XC mc ms free) (hblind : FrameBlind Pc) (hrc : rm.cells = mc) (hrs : rm.slots = ms)
    (hframes : rm.frames + 1 ≤ R.frames) (hlocals : W9 + (maxL + 11) + rm.locals ≤ R.locals)
    (hws : ∀ w ∈ ws, ∀ a' U, s.WarmedH U.vm → w.before a' U = true) (hcode : Cond.codeWith y bytes maxL ret hh ∈ ws) (hinit : ∀ a' U, s.WarmedH U.vm → (Cond.initialized y.cls).before a' U = true) :
    vx_Back l R p e below s sargs y len W9 (PreOf R mc ms Pc) (PostOf Qc mc ms free) (vx_Post XC mc ms free) := by
  intro m meth c A g ig mk a X hg hsize hdg hW hn hp
  have h1 : (headSpec ws rm).pre.before a A.U = true := atoms_intro fun w hw => hws w hw _ _ X.warmed
  have h2 : (Cond.codeWith y bytes maxL ret hh).before a A.U = true := hws _ hcode _ _ X.warmed
  have h3 : (Cond.initialized y.cls).before a A.U = true := hinit _ _ X.warmed
  have h4 : A.cells + (headSpec ws rm).room.cells ≤ R.cells := by rw [show (headSpec ws rm).room.cells = mc from hrc]; exact hp.1
  have h5 : A.slots + (headSpec ws rm).room.slots ≤ R.slots := by rw [show (headSpec ws rm).room.slots = ms from hrs]; exact hp.2.1
  have hPc : Pc a (A.U.calling g mk a) := hblind _ _ _ _ hp.2.2
  obtain ⟨U, Ls, c0, s0⟩ := A
  dsimp only [Pt.U, Pt.locs, Pt.cells, Pt.slots] at h1 h2 h3 h4 h5 X hn hPc ⊢
  obtain ⟨m9, methY, cY, hn9, hmY, hcY, -, hlY, -⟩ := Cond.codeWith_spec h2
  cases Option.some.inj (hn9.symm.trans hn)
  obtain ⟨kY, hkY, -⟩ := className_of_methodNamed hn
  have hinitY : kY.init = .initialized := Cond.initialized_spec (findClass_of_methodNamed hn) hkY h3
  have h : At U g.method c below := by rw [hg]; exact X.here
  have hlocals9 : W9 + (maxL + 11) + (headSpec ws rm).room.locals ≤ R.locals := hlocals
  have happ : (headSpec ws rm).appliesLoose y e.platform (U.calling g mk a) = true :=
    Spec.appliesLoose_calling (g := g) h hdg hn hkY hinitY
      (X.room_calling (g := g) (R' := (headSpec ws rm).room) hsize hmY hcY hframes (by rw [hlY]; omega) h4 h5) h1
  obtain ⟨mid, hmid⟩ := h.above
  have hfr : (U.setTop g).frames = (.java g :: mid) ++ below := by rw [State.frames_setTop' g h.top, hmid]; rfl
  obtain ⟨o, s₂, hsteps, -, hend, hq⟩ := Steps.callFree hM p X.admits X.cas X.clock (acts := []) hfr happ hPc trivial
  have hq' : vx_Q Qc XC mc ms free a (U.calling g mk a) o s₂ := hq
  rw [State.frames_setTop' g h.top] at hend
  obtain ⟨g₀, hg0⟩ := Option.isSome_iff_exists.mp h.top
  obtain ⟨r, hr⟩ := State.topJava?_eq_some.mp hg0
  have hr' : (({ U with heap := s₂.heap, slotsUsed := s₂.slotsUsed } : State).setVm s₂.vm).frames = .java g₀ :: r := hr
  rcases hq' with ⟨hqc, L, hfe, hL⟩ | ⟨q, rfl, E, ce, L, hx, hce, hcv, hcl, hW₂, hsm, hL⟩
  · obtain ⟨⟨v, rfl⟩, hW₂, e2, q2, q3, q4, q5, q6⟩ := id hfe
    have e3 : s₂ = ({ (U.calling g mk a).setFrames s₂.frames with heap := s₂.heap, slotsUsed := s₂.slotsUsed } : State).setVm s₂.vm := by
      have : s₂ = ({ s₂ with vm := (U.calling g mk a).vm } : State).setVm s₂.vm := rfl
      rw [e2] at this
      exact this
    obtain ⟨c₂, i₂, len₂, hc₂, hd₂, hf₂⟩ := hend
    have hW' : U.WarmedH s₂.vm := hW₂
    have hcc : c₂ = c := by
      have h1 : s₂.code? g.method = U.code? g.method := by
        rw [State.code?_eq, State.code?_eq, hW'.alike.method?]
      exact Option.some.inj (hc₂.symm.trans (h1.trans h.code))
    subst hcc
    have hlen : len₂ = len := by rw [hdg] at hd₂; cases hd₂; rfl
    subst hlen
    have hs₂ : s₂ = (({ U with heap := s₂.heap, slotsUsed := s₂.slotsUsed } : State).setVm s₂.vm).setTop { g with pc := g.pc + len₂, stack := v.toList ++ g.stack } := by
      refine e3.trans ?_
      rw [hf₂, State.calling_eq h.top, State.setFrames_setFrames, State.setTop_of_frames _ hr', hr]
      rfl
    have hsame : U.sameButNew ({ U with heap := s₂.heap, slotsUsed := s₂.slotsUsed } : State) L mc ms := by
      refine ⟨?_, q2, q3, q4, q5, q6⟩
      obtain ⟨t, ht, -⟩ := State.frames_cons hr
      show ({ U with heap := s₂.heap, slotsUsed := s₂.slotsUsed } : State) = { U.setFrames U.frames with heap := s₂.heap, slotsUsed := s₂.slotsUsed }
      rw [State.setFrames_self ht]
    subst hg
    refine Or.inl ⟨v, ⟨(({ U with heap := s₂.heap, slotsUsed := s₂.slotsUsed } : State).setVm s₂.vm), Ls ++ L, c0 + mc, s0 + ms⟩,
      ⟨X.admits, X.cas, X.clock, X.frames, X.room, X.hears, X.method, X.code, (X.here.setHeapUsed s₂.heap s₂.slotsUsed).setVm hW'.alike, X.tail, State.WarmedH.trans X.warmed hW', X.limits, X.bytes, X.same.trans (hsame.setVm s.vm)⟩,
      ⟨g, mk, s₂, L, rfl, rfl, hqc, rfl, hL, rfl, rfl⟩, ?_⟩
    show Steps p.tables e below _ ((({ U with heap := s₂.heap, slotsUsed := s₂.slotsUsed } : State).setVm s₂.vm).setTop { g with pc := g.pc + len₂, stack := v.toList ++ g.stack })
    rw [← hs₂]
    exact hsteps
  · obtain ⟨e2, q2, q3, q4, q5, q6⟩ := id hsm
    have e3 : s₂ = ({ (U.calling g mk a).setFrames s₂.frames with heap := s₂.heap, slotsUsed := s₂.slotsUsed } : State).setVm s₂.vm := by
      have : s₂ = ({ s₂ with vm := (U.calling g mk a).vm } : State).setVm s₂.vm := rfl
      rw [e2] at this
      exact this
    have hf₂ : s₂.frames = .throwing q :: .java g :: U.frames.tail := hend
    have hW' : U.WarmedH s₂.vm := hW₂
    have hs₂ : s₂ = ((({ U with heap := s₂.heap, slotsUsed := s₂.slotsUsed } : State).setVm s₂.vm).setTop g).pushFrame (.throwing q) := by
      refine e3.trans ?_
      rw [hf₂, State.calling_eq h.top, State.setFrames_setFrames, State.pushFrame, State.frames_setTop _ hr', State.setTop_of_frames _ hr', State.setFrames_setFrames, hr]
      rfl
    have hsame : U.sameButNew ({ U with heap := s₂.heap, slotsUsed := s₂.slotsUsed } : State) L mc ms := by
      refine ⟨?_, q2, q3, q4, q5, q6⟩
      obtain ⟨t, ht, -⟩ := State.frames_cons hr
      show ({ U with heap := s₂.heap, slotsUsed := s₂.slotsUsed } : State) = { U.setFrames U.frames with heap := s₂.heap, slotsUsed := s₂.slotsUsed }
      rw [State.setFrames_self ht]
    subst hg
    refine Or.inr ⟨q, ⟨(({ U with heap := s₂.heap, slotsUsed := s₂.slotsUsed } : State).setVm s₂.vm), Ls ++ L, c0 + mc, s0 + ms⟩,
      ⟨X.admits, X.cas, X.clock, X.frames, X.room, X.hears, X.method, X.code, (X.here.setHeapUsed s₂.heap s₂.slotsUsed).setVm hW'.alike, X.tail, State.WarmedH.trans X.warmed hW', X.limits, X.bytes, X.same.trans (hsame.setVm s.vm)⟩,
      ⟨g, mk, s₂, L, E, ce, rfl, rfl, hx, hce, hcv, hcl, rfl, hL, rfl, rfl⟩, ?_⟩
    show Steps p.tables e below _ (((({ U with heap := s₂.heap, slotsUsed := s₂.slotsUsed } : State).setVm s₂.vm).setTop g).pushFrame (.throwing q))
    rw [← hs₂]
    exact hsteps
end
variable {p : Program} {l : Launch} {e : Env} {R : Room} {s : State} {m : MethodId} {args : Array Value} {below : List Frame} {meth : Method} {c : Code} {T : State} {H : Heap} {locs : List Loc} {cells slots : Nat}
theorem vx_callVX (X : Stand p l e R s m args below meth c T locs cells slots) (hexec : p.tables.exec = Jvm.exec) {own C : String} {index : Nat} {y : MethodName} {bytes : ByteArray} {maxL : Nat} {ret : Option FieldType} {hh : List (Nat × Nat × Nat × Nat)}
    (hown : s.vm.findClass own = some m.cls) (hlink : (Cond.methodLink own index y).before args s = true) (hinst : (Cond.instanceMethod y).before args s = true) (hsel : (Cond.selects C y y).before args s = true)
    (hcode : (Cond.codeWith y bytes maxL ret hh).before args s = true) (hy : y.cls ≠ "java/lang/invoke/MethodHandle" ∧ y.cls ≠ "java/lang/invoke/VarHandle")
    {W9 : Nat} {Pre : Pt → Array Value → Prop} {Post : Pt → Array Value → Option Value → Pt → Prop} {PostX : Pt → Array Value → Addr → Pt → Prop} (hK : vx_Back l R p e below s args y 3 W9 Pre Post PostX)
    {b : Addr} {cellB : Cell} (hcell : T.heap[b]? = some cellB) (hobj : cellB.vm.isStatics = false) (hcls : s.vm.findClass C = some cellB.cls)
    {g : JFrame} (hg : g.method = m) (hsize : g.locals.size = c.maxLocals) {argsL rest : List Value} (hlen : ∀ sig, parseMethodDescriptor y.desc = some sig → argsL.length = sig.parameters.length)
    (hstack : g.stack = argsL.reverse ++ .ref b :: rest) (hW : 2 * g.monitorRoom + (rest.map fun v => v.category).sum ≤ W9) (hdg : decode c.code g.pc = .ok (.invokevirtual index, 3))
    (hpre : ∀ vm₁, s.WarmedH vm₁ → Pre ⟨T.setVm vm₁, locs, cells, slots⟩ (Value.ref b :: argsL).toArray) :
    (∃ (v : Option Value) (vm₁ : Vm) (B : Pt), s.WarmedH vm₁ ∧ Stand p l e R s m args below meth c B.U B.locs B.cells B.slots ∧ Post ⟨T.setVm vm₁, locs, cells, slots⟩ (Value.ref b :: argsL).toArray v B ∧
      ∀ target, Steps p.tables e below (B.U.setTop { g with pc := g.pc + 3, stack := v.toList ++ rest }) target → Steps p.tables e below (T.setTop g) target) ∨
    (∃ (q : Addr) (vm₁ : Vm) (B : Pt), s.WarmedH vm₁ ∧ Stand p l e R s m args below meth c B.U B.locs B.cells B.slots ∧ PostX ⟨T.setVm vm₁, locs, cells, slots⟩ (Value.ref b :: argsL).toArray q B ∧
      Steps p.tables e below (T.setTop g) ((B.U.setTop { g with stack := rest }).pushFrame (.throwing q))) := by
  obtain ⟨mk, methM, hnamed, hmethM, hstM, habM⟩ := Cond.instanceMethod_spec hinst
  obtain ⟨m8, methM', cM, hn8, hmethM', -, -, -, -, -, -, hsigM⟩ := Cond.codeWith_spec hcode
  cases Option.some.inj (hn8.symm.trans hnamed)
  cases hmethM.symm.trans hmethM'
  obtain ⟨c2, r2, m2, q1, q2, q3, q4, kP, hkP, hkPi⟩ := Cond.selects_spec hsel
  cases hcls.symm.trans q1
  cases (State.methodFound?_of_named hnamed hy).symm.trans q2
  cases hnamed.symm.trans q3
  have hselP : selectMethod e.platform s.vm cellB.cls mk = .method mk := by rw [Launch.admits_selectMethod X.admits]; exact q4
  obtain ⟨vm₁, X₁, hstep₁⟩ := X.invokevirtual hexec hown hlink hnamed hmethM hstM hkP hkPi hy (a := b) (cell := cellB) hcell
    (fun z h => by rw [h] at hobj; cases hobj) hselP hmethM habM hkP hkPi (g := g) hg (argsL := argsL) (rest := rest) (hlen _ hsigM) hstack hdg
  rcases hK m meth c ⟨T.setVm vm₁, locs, cells, slots⟩ { g with stack := rest } (.invokevirtual index) mk (Value.ref b :: argsL).toArray X₁ hg hsize hdg hW (X₁.named hnamed) (hpre vm₁ X₁.warmed) with ⟨v, B, X', hpost, hsteps⟩ | ⟨q, B, X', hpost, hsteps⟩
  · exact Or.inl ⟨v, vm₁, B, X₁.warmed, X', hpost, fun target h => hstep₁ _ fun acts => by rw [doInvoke_state]; exact hsteps.trans h⟩
  · exact Or.inr ⟨q, vm₁, B, X₁.warmed, X', hpost, hstep₁ _ fun acts => by rw [doInvoke_state]; exact hsteps⟩
theorem vx_callSX (X : Stand p l e R s m args below meth c T locs cells slots) (hexec : p.tables.exec = Jvm.exec) {own : String} {index : Nat} {y : MethodName} {bytes : ByteArray} {maxL : Nat} {ret : Option FieldType} {hh : List (Nat × Nat × Nat × Nat)}
    (hown : s.vm.findClass own = some m.cls) (hlink : (Cond.methodLink own index y).before args s = true) (hstat : (Cond.static y).before args s = true) (hinit : (Cond.initialized y.cls).before args s = true)
    (hcode : (Cond.codeWith y bytes maxL ret hh).before args s = true) (hy : y.cls ≠ "java/lang/invoke/MethodHandle" ∧ y.cls ≠ "java/lang/invoke/VarHandle")
    {W9 : Nat} {Pre : Pt → Array Value → Prop} {Post : Pt → Array Value → Option Value → Pt → Prop} {PostX : Pt → Array Value → Addr → Pt → Prop} (hK : vx_Back l R p e below s args y 3 W9 Pre Post PostX)
    {g : JFrame} (hg : g.method = m) (hsize : g.locals.size = c.maxLocals) {argsL rest : List Value} (hlen : ∀ sig, parseMethodDescriptor y.desc = some sig → argsL.length = sig.parameters.length)
    (hstack : g.stack = argsL.reverse ++ rest) (hW : 2 * g.monitorRoom + (rest.map fun v => v.category).sum ≤ W9) (hdg : decode c.code g.pc = .ok (.invokestatic index, 3))
    (hpre : ∀ vm₁, s.WarmedH vm₁ → Pre ⟨T.setVm vm₁, locs, cells, slots⟩ argsL.toArray) :
    (∃ (v : Option Value) (vm₁ : Vm) (B : Pt), s.WarmedH vm₁ ∧ Stand p l e R s m args below meth c B.U B.locs B.cells B.slots ∧ Post ⟨T.setVm vm₁, locs, cells, slots⟩ argsL.toArray v B ∧
      ∀ target, Steps p.tables e below (B.U.setTop { g with pc := g.pc + 3, stack := v.toList ++ rest }) target → Steps p.tables e below (T.setTop g) target) ∨
    (∃ (q : Addr) (vm₁ : Vm) (B : Pt), s.WarmedH vm₁ ∧ Stand p l e R s m args below meth c B.U B.locs B.cells B.slots ∧ PostX ⟨T.setVm vm₁, locs, cells, slots⟩ argsL.toArray q B ∧
      Steps p.tables e below (T.setTop g) ((B.U.setTop { g with stack := rest }).pushFrame (.throwing q))) := by
  obtain ⟨mk, methM, cM, hnamed, hmethM, -, -, -, -, -, -, hsigM⟩ := Cond.codeWith_spec hcode
  have hstatic : methM.isStatic = true := Cond.static_spec hnamed hmethM hstat
  obtain ⟨kP, hkP, -⟩ := className_of_methodNamed hnamed
  have hinitP : kP.init = .initialized := Cond.initialized_spec (findClass_of_methodNamed hnamed) hkP hinit
  obtain ⟨vm₁, X₁, hstep₁⟩ := X.invokestatic hexec hown hlink hnamed hmethM hstatic hkP hinitP hy (g := g) hg (argsL := argsL) (rest := rest) (hlen _ hsigM) hstack hdg
  rcases hK m meth c ⟨T.setVm vm₁, locs, cells, slots⟩ { g with stack := rest } (.invokestatic index) mk argsL.toArray X₁ hg hsize hdg hW (X₁.named hnamed) (hpre vm₁ X₁.warmed) with ⟨v, B, X', hpost, hsteps⟩ | ⟨q, B, X', hpost, hsteps⟩
  · exact Or.inl ⟨v, vm₁, B, X₁.warmed, X', hpost, fun target h => hstep₁ _ fun acts => by rw [doInvoke_state]; exact hsteps.trans h⟩
  · exact Or.inr ⟨q, vm₁, B, X₁.warmed, X', hpost, hstep₁ _ fun acts => by rw [doInvoke_state]; exact hsteps⟩
theorem vx_callVW (X : Stand p l e R s m args below meth c T locs cells slots) (hexec : p.tables.exec = Jvm.exec) {own C : String} {index : Nat} {y : MethodName} {bytes : ByteArray} {maxL : Nat} {ret : Option FieldType} {hh : List (Nat × Nat × Nat × Nat)}
    (hown : s.vm.findClass own = some m.cls) (hlink : (Cond.methodLink own index y).before args s = true) (hinst : (Cond.instanceMethod y).before args s = true) (hsel : (Cond.selects C y y).before args s = true)
    (hcode : (Cond.codeWith y bytes maxL ret hh).before args s = true) (hy : y.cls ≠ "java/lang/invoke/MethodHandle" ∧ y.cls ≠ "java/lang/invoke/VarHandle")
    {W9 : Nat} {Pre : Pt → Array Value → Prop} {Post : Pt → Array Value → Option Value → Pt → Prop} (hK : Back l R p e below s args y 3 W9 Pre Post)
    {b : Addr} {cellB : Cell} (hcell : T.heap[b]? = some cellB) (hobj : cellB.vm.isStatics = false) (hcls : s.vm.findClass C = some cellB.cls)
    {g : JFrame} (hg : g.method = m) (hsize : g.locals.size = c.maxLocals) {argsL rest : List Value} (hlen : ∀ sig, parseMethodDescriptor y.desc = some sig → argsL.length = sig.parameters.length)
    (hstack : g.stack = argsL.reverse ++ .ref b :: rest) (hW : 2 * g.monitorRoom + (rest.map fun v => v.category).sum ≤ W9) (hdg : decode c.code g.pc = .ok (.invokevirtual index, 3))
    (hpre : ∀ vm₁, s.WarmedH vm₁ → Pre ⟨T.setVm vm₁, locs, cells, slots⟩ (Value.ref b :: argsL).toArray) :
    ∃ (v : Option Value) (vm₁ : Vm) (B : Pt), s.WarmedH vm₁ ∧ Stand p l e R s m args below meth c B.U B.locs B.cells B.slots ∧ Post ⟨T.setVm vm₁, locs, cells, slots⟩ (Value.ref b :: argsL).toArray v B ∧
      ∀ target, Steps p.tables e below (B.U.setTop { g with pc := g.pc + 3, stack := v.toList ++ rest }) target → Steps p.tables e below (T.setTop g) target := by
  obtain ⟨mk, methM, hnamed, hmethM, hstM, habM⟩ := Cond.instanceMethod_spec hinst
  obtain ⟨m8, methM', cM, hn8, hmethM', -, -, -, -, -, -, hsigM⟩ := Cond.codeWith_spec hcode
  cases Option.some.inj (hn8.symm.trans hnamed)
  cases hmethM.symm.trans hmethM'
  obtain ⟨c2, r2, m2, q1, q2, q3, q4, kP, hkP, hkPi⟩ := Cond.selects_spec hsel
  cases hcls.symm.trans q1
  cases (State.methodFound?_of_named hnamed hy).symm.trans q2
  cases hnamed.symm.trans q3
  have hselP : selectMethod e.platform s.vm cellB.cls mk = .method mk := by rw [Launch.admits_selectMethod X.admits]; exact q4
  obtain ⟨vm₁, X₁, hstep₁⟩ := X.invokevirtual hexec hown hlink hnamed hmethM hstM hkP hkPi hy (a := b) (cell := cellB) hcell
    (fun z h => by rw [h] at hobj; cases hobj) hselP hmethM habM hkP hkPi (g := g) hg (argsL := argsL) (rest := rest) (hlen _ hsigM) hstack hdg
  obtain ⟨v, B, X', hpost, hsteps⟩ := hK m meth c ⟨T.setVm vm₁, locs, cells, slots⟩ { g with stack := rest } (.invokevirtual index) mk (Value.ref b :: argsL).toArray X₁ hg hsize hdg hW (X₁.named hnamed) (hpre vm₁ X₁.warmed)
  exact ⟨v, vm₁, B, X₁.warmed, X', hpost, fun target h => hstep₁ _ fun acts => by rw [doInvoke_state]; exact hsteps.trans h⟩
abbrev vx_CVW (R : Room) (s : State) (args : Array Value) (own C : String) (index : Nat) (y : MethodName) (bytes : ByteArray) (maxL : Nat) (ret : Option FieldType) (hh : List (Nat × Nat × Nat × Nat)) (ws : List Cond) (rm : Room) (mc ms n : Nat) : Prop :=
  (rm.cells = mc ∧ rm.slots = ms ∧ rm.frames + 1 ≤ R.frames ∧ 8 + (maxL + 11) + rm.locals ≤ R.locals ∧ (∀ w ∈ ws, ∀ (a' : Array Value) (U : State), s.WarmedH U.vm → w.before a' U = true) ∧ Cond.codeWith y bytes maxL ret hh ∈ ws) ∧
  (Cond.codeWith y bytes maxL ret hh).before args s = true ∧ (Cond.initialized y.cls).before args s = true ∧ (y.cls ≠ "java/lang/invoke/MethodHandle" ∧ y.cls ≠ "java/lang/invoke/VarHandle") ∧
  (∀ sig, parseMethodDescriptor y.desc = some sig → n = sig.parameters.length) ∧ (Cond.methodLink own index y).before args s = true ∧ (Cond.instanceMethod y).before args s = true ∧ (Cond.selects C y y).before args s = true
theorem vx_cwVW {own C : String} {index maxL mc ms : Nat} {y : MethodName} {bytes : ByteArray} {ret : Option FieldType} {hh : List (Nat × Nat × Nat × Nat)} {Ts ws ws' : List Cond} {rm : Room} (n : Nat) (ht : ∀ w ∈ Ts, w.before args s = true) (hT : GoodIn Ts (wsV own index C y ws)) (hw : ws = Cond.codeWith y bytes maxL ret hh :: ws') (hrc : rm.cells = mc) (hrs : rm.slots = ms)
    (hd : y.cls = C ∧ y.cls ≠ "java/lang/invoke/MethodHandle" ∧ y.cls ≠ "java/lang/invoke/VarHandle" ∧ (parseMethodDescriptor y.desc).map (fun d => d.parameters.length) = some n) (hR : rm.frames + 1 ≤ R.frames ∧ 8 + (maxL + 11) + rm.locals ≤ R.locals) :
    vx_CVW R s args own C index y bytes maxL ret hh ws rm mc ms n := by
  obtain ⟨hC, hd⟩ := hd
  subst hC
  have ok : ∀ w ∈ wsV own index y.cls y ws, w.before args s = true := fun w h => ht w (hT w h).1
  have hG : GoodIn Ts ws := fun w h => hT w (by unfold wsV; exact List.mem_append_right _ h)
  have hc : Cond.codeWith y bytes maxL ret hh ∈ ws := by rw [hw]; exact List.mem_cons_self
  refine ⟨⟨hrc, hrs, hR.1, hR.2, pay_in ht hG, hc⟩, ht _ (hG _ hc).1, ok _ (by simp [wsV]), ⟨hd.1, hd.2.1⟩, fun sig h => ?_, ok _ (by simp [wsV]), ok _ (by simp [wsV]), ok _ (by simp [wsV])⟩
  have h2 := hd.2.2
  rw [h] at h2
  exact (Option.some.inj h2).symm
theorem vx_runVW {y : MethodName} {bytes cc : ByteArray} {maxL nL mc ms n index : Nat} {ret : Option FieldType} {hh : List (Nat × Nat × Nat × Nat)} {ws : List Cond} {rm : Room} {Pc : Array Value → State → Prop} {Qc : Array Value → State → Outcome → State → Prop} {free : Addr → Prop} {Ts : List Cond} {own C : String} {b : Addr} {As rest : List Value} {g : JFrame}
    (S : CallFix p m c cc nL s args Ts own) (hM : Met l y ws rm Pc Qc mc ms free) (cw : vx_CVW R s args own C index y bytes maxL ret hh ws rm mc ms n) (hp : PreV s H C b Pc As)
    (hg : g.method = m) (hn : As.length = n) (hsize : g.locals.size = nL) (hstack : g.stack = As.reverse ++ .ref b :: rest) (hW : 2 * g.monitorRoom + (rest.map fun v => v.category).sum ≤ 8) (hdg : decode cc g.pc = .ok (.invokevirtual index, 3)) (hf : cells + mc ≤ R.cells ∧ slots + ms ≤ R.slots) :
    va_Run p l e R s m args below meth c H locs cells slots mc ms g rest (Qc (Value.ref b :: As).toArray) free := by
  obtain ⟨⟨hrc, hrs, hfr, hlo, hws, hcw⟩, hcode, hini, hy, hlen, hl, hin, hse⟩ := cw
  have hK : Back l R p e below s args y 3 8 (PreOf R mc ms Pc) (PostOf Qc mc ms free) := va_backW (hh := hh) (bytes := bytes) (maxL := maxL) (ret := ret) hM hp.1 hrc hrs hfr hlo hws hcw (fun a' U hW => word_at hW (Or.inl (by first | rfl | simp [Cond.onTables, Cond.keeps, Cond.steady])) hini)
  obtain ⟨hx, hb, hml, ho, -⟩ := S
  obtain ⟨-, ⟨cellB, hcB, hoB, hclB⟩, hPc⟩ := hp
  intro T hT X
  obtain ⟨v, vm₁, ⟨U', l2, c2, s2⟩, hW₁, X', ⟨g', mk, t, L, e1, e2, hq, h1, hL, h2, h3⟩, st⟩ := vx_callVW X hx (C := C) (hh := hh) (bytes := bytes) (maxL := maxL) (ret := ret) ho hl hin hse hcode hy hK (by rw [hT]; exact hcB) hoB hclB hg (hsize.trans hml.symm) (argsL := As) (rest := rest) (fun sig h => hn.trans (hlen sig h)) hstack hW (by rw [hb]; exact hdg)
    (fun vm₁ hW₁ => ⟨hf.1, hf.2, hPc (T.setVm vm₁) hT hW₁⟩)
  dsimp only [Pt.U, Pt.locs, Pt.cells, Pt.slots] at X' e1 e2 h1 h2 h3 st
  subst h1; subst h2; subst h3
  exact ⟨v, (T.setVm vm₁).calling g' mk (Value.ref b :: As).toArray, t, U', L, hT, X', hL, e1, e2, hq, st⟩
section
variable {y : MethodName} {bytes cc : ByteArray} {maxL nL mc ms n index : Nat} {ret : Option FieldType} {ws : List Cond} {rm : Room} {Pc : Array Value → State → Prop} {Qc : Array Value → State → Outcome → State → Prop} {XC : String → State → State → Prop} {free : Addr → Prop} {Ts : List Cond} {own C : String} {b : Addr} {As rest : List Value} {g : JFrame}
theorem vx_runVX {hh : List (Nat × Nat × Nat × Nat)} (S : CallFix p m c cc nL s args Ts own) (hM : vx_Met l y ws rm Pc Qc XC mc ms free) (cw : vx_CVW R s args own C index y bytes maxL ret hh ws rm mc ms n) (hp : PreV s H C b Pc As)
    (hg : g.method = m) (hn : As.length = n) (hsize : g.locals.size = nL) (hstack : g.stack = As.reverse ++ .ref b :: rest) (hW : 2 * g.monitorRoom + (rest.map fun v => v.category).sum ≤ 8) (hdg : decode cc g.pc = .ok (.invokevirtual index, 3)) (hf : cells + mc ≤ R.cells ∧ slots + ms ≤ R.slots) :
    vx_Run p l e R s m args below meth c H locs cells slots mc ms g rest (Qc (Value.ref b :: As).toArray) XC free := by
  obtain ⟨⟨hrc, hrs, hfr, hlo, hws, hcw⟩, hcode, hini, hy, hlen, hl, hin, hse⟩ := cw
  have hK : vx_Back l R p e below s args y 3 8 (PreOf R mc ms Pc) (PostOf Qc mc ms free) (vx_Post XC mc ms free) := vx_backW (hh := hh) (bytes := bytes) (maxL := maxL) (ret := ret) hM hp.1 hrc hrs hfr hlo hws hcw (fun a' U hW => word_at hW (Or.inl (by first | rfl | simp [Cond.onTables, Cond.keeps, Cond.steady])) hini)
  obtain ⟨hx, hb, hml, ho, -⟩ := S
  obtain ⟨-, ⟨cellB, hcB, hoB, hclB⟩, hPc⟩ := hp
  intro T hT X
  rcases vx_callVX X hx (C := C) (hh := hh) (bytes := bytes) (maxL := maxL) (ret := ret) ho hl hin hse hcode hy hK (by rw [hT]; exact hcB) hoB hclB hg (hsize.trans hml.symm) (argsL := As) (rest := rest) (fun sig h => hn.trans (hlen sig h)) hstack hW (by rw [hb]; exact hdg)
    (fun vm₁ hW₁ => ⟨hf.1, hf.2, hPc (T.setVm vm₁) hT hW₁⟩) with ⟨v, vm₁, ⟨U', l2, c2, s2⟩, hW₁, X', ⟨g', mk, t, L, e1, e2, hq, h1, hL, h2, h3⟩, st⟩ | ⟨q, vm₁, ⟨U', l2, c2, s2⟩, hW₁, X', ⟨g', mk, t, L, E, ce, e1, e2, hq, hce, hcv, hcl, h1, hL, h2, h3⟩, st⟩
  · dsimp only [Pt.U, Pt.locs, Pt.cells, Pt.slots] at X' e1 e2 h1 h2 h3 st
    subst h1; subst h2; subst h3
    exact Or.inl ⟨v, (T.setVm vm₁).calling g' mk (Value.ref b :: As).toArray, t, U', L, hT, X', hL, e1, e2, hq, st⟩
  · dsimp only [Pt.U, Pt.locs, Pt.cells, Pt.slots] at X' e1 e2 h1 h2 h3 st hcl
    subst h1; subst h2; subst h3
    exact Or.inr ⟨q, (T.setVm vm₁).calling g' mk (Value.ref b :: As).toArray, t, U', L, E, ce, hT, X', hL, e1, e2, hq, hce, hcv, vx_cls hW₁ hcl, st⟩
theorem vx_runSX {hh : List (Nat × Nat × Nat × Nat)} (S : CallFix p m c cc nL s args Ts own) (hM : vx_Met l y ws rm Pc Qc XC mc ms free) (cw : vx_CSW R s args own index y bytes maxL ret hh ws rm mc ms n) (hp : PreS s H Pc As)
    (hg : g.method = m) (hn : As.length = n) (hsize : g.locals.size = nL) (hstack : g.stack = As.reverse ++ rest) (hW : 2 * g.monitorRoom + (rest.map fun v => v.category).sum ≤ 8) (hdg : decode cc g.pc = .ok (.invokestatic index, 3)) (hf : cells + mc ≤ R.cells ∧ slots + ms ≤ R.slots) :
    vx_Run p l e R s m args below meth c H locs cells slots mc ms g rest (Qc As.toArray) XC free := by
  obtain ⟨⟨hrc, hrs, hfr, hlo, hws, hcw⟩, hcode, hini, hy, hlen, hl, hstt⟩ := cw
  have hK : vx_Back l R p e below s args y 3 8 (PreOf R mc ms Pc) (PostOf Qc mc ms free) (vx_Post XC mc ms free) := vx_backW (hh := hh) (bytes := bytes) (maxL := maxL) (ret := ret) hM hp.1 hrc hrs hfr hlo hws hcw (fun a' U hW => word_at hW (Or.inl (by first | rfl | simp [Cond.onTables, Cond.keeps, Cond.steady])) hini)
  obtain ⟨hx, hb, hml, ho, -⟩ := S
  intro T hT X
  rcases vx_callSX X hx (hh := hh) (bytes := bytes) (maxL := maxL) (ret := ret) ho hl hstt hini hcode hy hK hg (hsize.trans hml.symm) (argsL := As) (rest := rest) (fun sig h => hn.trans (hlen sig h)) hstack hW (by rw [hb]; exact hdg)
    (fun vm₁ hW₁ => ⟨hf.1, hf.2, hp.2 (T.setVm vm₁) hT hW₁⟩) with ⟨v, vm₁, ⟨U', l2, c2, s2⟩, hW₁, X', ⟨g', mk, t, L, e1, e2, hq, h1, hL, h2, h3⟩, st⟩ | ⟨q, vm₁, ⟨U', l2, c2, s2⟩, hW₁, X', ⟨g', mk, t, L, E, ce, e1, e2, hq, hce, hcv, hcl, h1, hL, h2, h3⟩, st⟩
  · dsimp only [Pt.U, Pt.locs, Pt.cells, Pt.slots] at X' e1 e2 h1 h2 h3 st
    subst h1; subst h2; subst h3
    exact Or.inl ⟨v, (T.setVm vm₁).calling g' mk As.toArray, t, U', L, hT, X', hL, e1, e2, hq, st⟩
  · dsimp only [Pt.U, Pt.locs, Pt.cells, Pt.slots] at X' e1 e2 h1 h2 h3 st hcl
    subst h1; subst h2; subst h3
    exact Or.inr ⟨q, (T.setVm vm₁).calling g' mk As.toArray, t, U', L, E, ce, hT, X', hL, e1, e2, hq, hce, hcv, vx_cls hW₁ hcl, st⟩
end
end VXH
theorem vx_ofWH {l : Launch} {y : MethodName} {ws ws' : List Cond} {rm : Room} {Pc : Array Value → State → Prop} {Qc : Array Value → State → Outcome → State → Prop} {XC : String → State → State → Prop} {mc ms : Nat} {free : Addr → Prop} {cc : ByteArray} {maxL : Nat} {ret : Option FieldType} {hh : List (Nat × Nat × Nat × Nat)}
    (hy : plainName y.cls = true) (hw : ws = Cond.codeWith y cc maxL ret hh :: ws')
    (body : ∀ p e s m args below meth c s₁, BodyLoose p l y (headSpec ws rm) cc maxL ret e s m args below meth c s₁ → c.maxLocals = maxL → Pc args s →
      W p l e (headSpec ws rm).room s m args below meth c s.heap [] 0 0 (vx_MQ below Qc XC args s mc ms free) (entryFrame m args maxL)) : vx_Met l y ws rm Pc Qc XC mc ms free := by
  refine MetFree.of_bodyS (code := cc) (maxLocals := maxL) (ret := ret) hy ?_ ?_
  · intro args s m h hn
    obtain ⟨m9, meth, c, hn9, h1, h2, h3, h4, -, h5, h6, -⟩ := Cond.codeWith_spec (atoms_spec (ws := ws) h _ (by rw [hw]; exact List.mem_cons_self))
    cases hn.symm.trans hn9
    exact ⟨meth, c, h1, h2, h3, h4, h5, h6⟩
  · intro p e s m args below meth c s₁ B hml hP _
    have hh0 : s₁.heap = s.heap := by rw [B.state]; rfl
    obtain ⟨t, a1, o, b1, b2, b3⟩ := body p e s m args below meth c s₁ B hml hP s₁ hh0 (Stand.of_body B)
    exact ⟨t, o, a1, b1, b2, b3⟩
/-! ===== END ===== -/

/-! ===== BEGIN printed: names, fields, word lists, decode rows ===== -/
end
section
def RX0 : String := "PartsDesk$Draft"
def TX0 : u_T := fun k => match k with
  | 0 => ("PartsDesk$Draft", "characters", "[C", true)
  | 1 => ("PartsDesk$Draft", "length", "I", false)
  | _ => ("PartsDesk$Draft", "next", "I", false)
def tyX0 : Nat → FieldType := fun k => match k with
  | 0 => .array .char
  | 1 => .int
  | _ => .int
abbrev wsX00 : List Cond := u_ws RX0 TX0 3
theorem nmX0 : ∀ a, a < 3 → ∀ b, b < 3 → a ≠ b → (TX0 a).2.1 ≠ (TX0 b).2.1 := by decide +kernel
theorem tyX0_ok : ∀ k, k < 3 → parseFieldDescriptor (TX0 k).2.2.1 = some (tyX0 k) := by decide +kernel
abbrev cX0_init : ByteArray := prog_2_method_1_code
def yX0_init : MethodName := ⟨RX0, "<init>", "()V"⟩
abbrev cX0_append : ByteArray := prog_2_method_2_code
def yX0_append : MethodName := ⟨RX0, "append", "(C)Z"⟩
abbrev cX0_empty : ByteArray := prog_2_method_3_code
def yX0_empty : MethodName := ⟨RX0, "empty", "()V"⟩
abbrev cX0_isAtEnd : ByteArray := prog_2_method_4_code
def yX0_isAtEnd : MethodName := ⟨RX0, "isAtEnd", "()Z"⟩
abbrev cX0_takes : ByteArray := prog_2_method_5_code
def yX0_takes : MethodName := ⟨RX0, "takes", "(C)Z"⟩
abbrev cX0_takeDigit : ByteArray := prog_2_method_6_code
def yX0_takeDigit : MethodName := ⟨RX0, "takeDigit", "(II)I"⟩
def RX1 : String := "PartsDesk$Polynomial"
def TX1 : u_T := fun k => match k with
  | _ => ("PartsDesk$Polynomial", "coefficients", "[J", true)
def tyX1 : Nat → FieldType := fun k => match k with
  | _ => .array .long
abbrev wsX10 : List Cond := u_ws RX1 TX1 1
theorem nmX1 : ∀ a, a < 1 → ∀ b, b < 1 → a ≠ b → (TX1 a).2.1 ≠ (TX1 b).2.1 := by decide +kernel
theorem tyX1_ok : ∀ k, k < 1 → parseFieldDescriptor (TX1 k).2.2.1 = some (tyX1 k) := by decide +kernel
abbrev cX1_init : ByteArray := prog_3_method_1_code
def yX1_init : MethodName := ⟨RX1, "<init>", "()V"⟩
abbrev cX1_becomeZero : ByteArray := prog_3_method_2_code
def yX1_becomeZero : MethodName := ⟨RX1, "becomeZero", "()V"⟩
abbrev cX1_becomeOne : ByteArray := prog_3_method_3_code
def yX1_becomeOne : MethodName := ⟨RX1, "becomeOne", "()V"⟩
abbrev cX1_become : ByteArray := prog_3_method_4_code
def yX1_become : MethodName := ⟨RX1, "become", "(LPartsDesk$Polynomial;)V"⟩
abbrev cX1_get : ByteArray := prog_3_method_5_code
def yX1_get : MethodName := ⟨RX1, "get", "(I)J"⟩
abbrev cX1_add : ByteArray := prog_3_method_6_code
def yX1_add : MethodName := ⟨RX1, "add", "(JI)V"⟩
abbrev cX1_degree : ByteArray := prog_3_method_7_code
def yX1_degree : MethodName := ⟨RX1, "degree", "()I"⟩
abbrev cX1_multiplyByFactorOf : ByteArray := prog_3_method_8_code
def yX1_multiplyByFactorOf : MethodName := ⟨RX1, "multiplyByFactorOf", "(I)V"⟩
abbrev cX1_divideByFactorOf : ByteArray := prog_3_method_9_code
def yX1_divideByFactorOf : MethodName := ⟨RX1, "divideByFactorOf", "(I)J"⟩
abbrev cX1_mix : ByteArray := prog_3_method_10_code
def yX1_mix : MethodName := ⟨RX1, "mix", "(JJLPartsDesk$Polynomial;)V"⟩
abbrev cX1_exactlyAt : ByteArray := prog_3_method_11_code
def yX1_exactlyAt : MethodName := ⟨RX1, "exactlyAt", "(I)J"⟩
abbrev cX1_inDoublesAt : ByteArray := prog_3_method_12_code
def yX1_inDoublesAt : MethodName := ⟨RX1, "inDoublesAt", "(D)D"⟩
def RX2 : String := "PartsDesk"
def TX2 : u_T := fun k => match k with
  | 0 => ("PartsDesk", "draft", "LPartsDesk$Draft;", true)
  | 1 => ("PartsDesk", "above", "LPartsDesk$Polynomial;", true)
  | 2 => ("PartsDesk", "below", "LPartsDesk$Polynomial;", true)
  | 3 => ("PartsDesk", "quotient", "LPartsDesk$Polynomial;", true)
  | 4 => ("PartsDesk", "often", "[I", true)
  | 5 => ("PartsDesk", "partsAbove", "[J", true)
  | 6 => ("PartsDesk", "partsBelow", "[J", true)
  | 7 => ("PartsDesk", "readTerms", "LPartsDesk$Polynomial;", true)
  | 8 => ("PartsDesk", "readOften", "[I", true)
  | 9 => ("PartsDesk", "rest", "LPartsDesk$Polynomial;", true)
  | _ => ("PartsDesk", "otherFactors", "LPartsDesk$Polynomial;", true)
def tyX2 : Nat → FieldType := fun k => match k with
  | 0 => .object "PartsDesk$Draft"
  | 1 => .object "PartsDesk$Polynomial"
  | 2 => .object "PartsDesk$Polynomial"
  | 3 => .object "PartsDesk$Polynomial"
  | 4 => .array .int
  | 5 => .array .long
  | 6 => .array .long
  | 7 => .object "PartsDesk$Polynomial"
  | 8 => .array .int
  | 9 => .object "PartsDesk$Polynomial"
  | _ => .object "PartsDesk$Polynomial"
abbrev wsX20 : List Cond := u_ws RX2 TX2 11
theorem nmX2 : ∀ a, a < 11 → ∀ b, b < 11 → a ≠ b → (TX2 a).2.1 ≠ (TX2 b).2.1 := by decide +kernel
theorem tyX2_ok : ∀ k, k < 11 → parseFieldDescriptor (TX2 k).2.2.1 = some (tyX2 k) := by decide +kernel
abbrev cX2_init : ByteArray := prog_1_method_1_code
def yX2_init : MethodName := ⟨RX2, "<init>", "()V"⟩
abbrev cX2_write : ByteArray := prog_1_method_2_code
def yX2_write : MethodName := ⟨RX2, "write", "(C)Z"⟩
abbrev cX2_numerator : ByteArray := prog_1_method_3_code
def yX2_numerator : MethodName := ⟨RX2, "numerator", "()I"⟩
abbrev cX2_denominator : ByteArray := prog_1_method_4_code
def yX2_denominator : MethodName := ⟨RX2, "denominator", "()I"⟩
abbrev cX2_coefficient : ByteArray := prog_1_method_5_code
def yX2_coefficient : MethodName := ⟨RX2, "coefficient", "(II)J"⟩
abbrev cX2_many : ByteArray := prog_1_method_6_code
def yX2_many : MethodName := ⟨RX2, "many", "(I)I"⟩
abbrev cX2_part : ByteArray := prog_1_method_7_code
def yX2_part : MethodName := ⟨RX2, "part", "(III)J"⟩
abbrev cX2_integral : ByteArray := prog_1_method_8_code
def yX2_integral : MethodName := ⟨RX2, "integral", "(III)J"⟩
abbrev cX2_value : ByteArray := prog_1_method_9_code
def yX2_value : MethodName := ⟨RX2, "value", "(II)J"⟩
abbrev cX2_at : ByteArray := prog_1_method_10_code
def yX2_at : MethodName := ⟨RX2, "at", "(D)D"⟩
abbrev cX2_byParts : ByteArray := prog_1_method_11_code
def yX2_byParts : MethodName := ⟨RX2, "byParts", "(D)D"⟩
abbrev cX2_withPartsOf : ByteArray := prog_1_method_12_code
def yX2_withPartsOf : MethodName := ⟨RX2, "withPartsOf", "(IDD)D"⟩
abbrev cX2_isPossibleRoot : ByteArray := prog_1_method_13_code
def yX2_isPossibleRoot : MethodName := ⟨RX2, "isPossibleRoot", "(I)Z"⟩
abbrev cX2_isSide : ByteArray := prog_1_method_14_code
def yX2_isSide : MethodName := ⟨RX2, "isSide", "(I)Z"⟩
abbrev cX2_isNear : ByteArray := prog_1_method_15_code
def yX2_isNear : MethodName := ⟨RX2, "isNear", "(D)Z"⟩
abbrev cX2_isInIntegral : ByteArray := prog_1_method_16_code
def yX2_isInIntegral : MethodName := ⟨RX2, "isInIntegral", "(II)Z"⟩
abbrev cX2_placeOfPart : ByteArray := prog_1_method_17_code
def yX2_placeOfPart : MethodName := ⟨RX2, "placeOfPart", "(II)I"⟩
abbrev cX2_partAbove : ByteArray := prog_1_method_18_code
def yX2_partAbove : MethodName := ⟨RX2, "partAbove", "(II)J"⟩
abbrev cX2_partBelow : ByteArray := prog_1_method_19_code
def yX2_partBelow : MethodName := ⟨RX2, "partBelow", "(II)J"⟩
abbrev cX2_keepPart : ByteArray := prog_1_method_20_code
def yX2_keepPart : MethodName := ⟨RX2, "keepPart", "(IIJJ)V"⟩
abbrev cX2_inLowestTerms : ByteArray := prog_1_method_21_code
def yX2_inLowestTerms : MethodName := ⟨RX2, "inLowestTerms", "(JJI)J"⟩
abbrev cX2_commonDivisor : ByteArray := prog_1_method_22_code
def yX2_commonDivisor : MethodName := ⟨RX2, "commonDivisor", "(JJ)J"⟩
abbrev cX2_sum : ByteArray := prog_1_method_23_code
def yX2_sum : MethodName := ⟨RX2, "sum", "([I)I"⟩
abbrev cX2_takeApart : ByteArray := prog_1_method_24_code
def yX2_takeApart : MethodName := ⟨RX2, "takeApart", "()V"⟩
abbrev cX2_makePartsOf : ByteArray := prog_1_method_25_code
def yX2_makePartsOf : MethodName := ⟨RX2, "makePartsOf", "(I)V"⟩
abbrev cX2_multiplyOtherFactors : ByteArray := prog_1_method_26_code
def yX2_multiplyOtherFactors : MethodName := ⟨RX2, "multiplyOtherFactors", "(I)V"⟩
abbrev cX2_readPolynomial : ByteArray := prog_1_method_27_code
def yX2_readPolynomial : MethodName := ⟨RX2, "readPolynomial", "()Z"⟩
abbrev cX2_readTerm : ByteArray := prog_1_method_28_code
def yX2_readTerm : MethodName := ⟨RX2, "readTerm", "(Z)Z"⟩
abbrev cX2_readNumber : ByteArray := prog_1_method_29_code
def yX2_readNumber : MethodName := ⟨RX2, "readNumber", "()I"⟩
abbrev cX2_readPowerOfX : ByteArray := prog_1_method_30_code
def yX2_readPowerOfX : MethodName := ⟨RX2, "readPowerOfX", "()I"⟩
abbrev cX2_readProduct : ByteArray := prog_1_method_31_code
def yX2_readProduct : MethodName := ⟨RX2, "readProduct", "()Z"⟩
abbrev cX2_readFactor : ByteArray := prog_1_method_32_code
def yX2_readFactor : MethodName := ⟨RX2, "readFactor", "()Z"⟩
abbrev cX2_readRoot : ByteArray := prog_1_method_33_code
def yX2_readRoot : MethodName := ⟨RX2, "readRoot", "()I"⟩
def RX3 : String := "PartsDeskModel"
def TX3 : u_T := fun k => match k with
  | 0 => ("PartsDeskModel", "fault", "I", false)
  | 1 => ("PartsDeskModel", "draft", "[C", true)
  | 2 => ("PartsDeskModel", "drafted", "I", false)
  | 3 => ("PartsDeskModel", "top", "[J", true)
  | 4 => ("PartsDeskModel", "low", "[J", true)
  | 5 => ("PartsDeskModel", "quotient", "[J", true)
  | 6 => ("PartsDeskModel", "degree", "I", false)
  | 7 => ("PartsDeskModel", "many", "[I", true)
  | 8 => ("PartsDeskModel", "fresh", "[I", true)
  | 9 => ("PartsDeskModel", "over", "J", false)
  | 10 => ("PartsDeskModel", "under", "J", false)
  | 11 => ("PartsDeskModel", "near", "[J", true)
  | 12 => ("PartsDeskModel", "rest", "[J", true)
  | 13 => ("PartsDeskModel", "row", "[J", true)
  | 14 => ("PartsDeskModel", "read", "[J", true)
  | _ => ("PartsDeskModel", "at", "I", false)
def tyX3 : Nat → FieldType := fun k => match k with
  | 0 => .int
  | 1 => .array .char
  | 2 => .int
  | 3 => .array .long
  | 4 => .array .long
  | 5 => .array .long
  | 6 => .int
  | 7 => .array .int
  | 8 => .array .int
  | 9 => .long
  | 10 => .long
  | 11 => .array .long
  | 12 => .array .long
  | 13 => .array .long
  | 14 => .array .long
  | _ => .int
abbrev wsX30 : List Cond := u_ws RX3 TX3 16
theorem nmX3 : ∀ a, a < 16 → ∀ b, b < 16 → a ≠ b → (TX3 a).2.1 ≠ (TX3 b).2.1 := by decide +kernel
theorem tyX3_ok : ∀ k, k < 16 → parseFieldDescriptor (TX3 k).2.2.1 = some (tyX3 k) := by decide +kernel
abbrev cX3_init : ByteArray := prog_5_method_1_code
def yX3_init : MethodName := ⟨RX3, "<init>", "()V"⟩
abbrev cX3_thrown : ByteArray := prog_5_method_2_code
def yX3_thrown : MethodName := ⟨RX3, "thrown", "()I"⟩
abbrev cX3_fails : ByteArray := prog_5_method_3_code
def yX3_fails : MethodName := ⟨RX3, "fails", "(I)I"⟩
abbrev cX3_write : ByteArray := prog_5_method_4_code
def yX3_write : MethodName := ⟨RX3, "write", "(C)Z"⟩
abbrev cX3_look : ByteArray := prog_5_method_5_code
def yX3_look : MethodName := ⟨RX3, "look", "()C"⟩
abbrev cX3_pass : ByteArray := prog_5_method_6_code
def yX3_pass : MethodName := ⟨RX3, "pass", "(C)Z"⟩
abbrev cX3_isDigit : ByteArray := prog_5_method_7_code
def yX3_isDigit : MethodName := ⟨RX3, "isDigit", "()Z"⟩
abbrev cX3_digit : ByteArray := prog_5_method_8_code
def yX3_digit : MethodName := ⟨RX3, "digit", "()I"⟩
abbrev cX3_readTerm : ByteArray := prog_5_method_9_code
def yX3_readTerm : MethodName := ⟨RX3, "readTerm", "(J)Z"⟩
abbrev cX3_readPolynomial : ByteArray := prog_5_method_10_code
def yX3_readPolynomial : MethodName := ⟨RX3, "readPolynomial", "()Z"⟩
abbrev cX3_numerator : ByteArray := prog_5_method_11_code
def yX3_numerator : MethodName := ⟨RX3, "numerator", "()I"⟩
abbrev cX3_readFactor : ByteArray := prog_5_method_12_code
def yX3_readFactor : MethodName := ⟨RX3, "readFactor", "()Z"⟩
abbrev cX3_denominator : ByteArray := prog_5_method_13_code
def yX3_denominator : MethodName := ⟨RX3, "denominator", "()I"⟩
abbrev cX3_times : ByteArray := prog_5_method_14_code
def yX3_times : MethodName := ⟨RX3, "times", "([JI)V"⟩
abbrev cX3_divide : ByteArray := prog_5_method_15_code
def yX3_divide : MethodName := ⟨RX3, "divide", "()V"⟩
abbrev cX3_coefficient : ByteArray := prog_5_method_16_code
def yX3_coefficient : MethodName := ⟨RX3, "coefficient", "(II)J"⟩
abbrev cX3_many : ByteArray := prog_5_method_17_code
def yX3_many : MethodName := ⟨RX3, "many", "(I)I"⟩
abbrev cX3_around : ByteArray := prog_5_method_18_code
def yX3_around : MethodName := ⟨RX3, "around", "(I)V"⟩
abbrev cX3_tell : ByteArray := prog_5_method_19_code
def yX3_tell : MethodName := ⟨RX3, "tell", "(JJ)V"⟩
abbrev cX3_work : ByteArray := prog_5_method_20_code
def yX3_work : MethodName := ⟨RX3, "work", "(II)V"⟩
abbrev cX3_isPart : ByteArray := prog_5_method_21_code
def yX3_isPart : MethodName := ⟨RX3, "isPart", "(II)Z"⟩
abbrev cX3_part : ByteArray := prog_5_method_22_code
def yX3_part : MethodName := ⟨RX3, "part", "(III)J"⟩
abbrev cX3_integral : ByteArray := prog_5_method_23_code
def yX3_integral : MethodName := ⟨RX3, "integral", "(III)J"⟩
abbrev cX3_valueOf : ByteArray := prog_5_method_24_code
def yX3_valueOf : MethodName := ⟨RX3, "valueOf", "([JIJ)J"⟩
abbrev cX3_value : ByteArray := prog_5_method_25_code
def yX3_value : MethodName := ⟨RX3, "value", "(II)J"⟩
abbrev cX3_valueAt : ByteArray := prog_5_method_26_code
def yX3_valueAt : MethodName := ⟨RX3, "valueAt", "([JID)D"⟩
abbrev cX3_isPlace : ByteArray := prog_5_method_27_code
def yX3_isPlace : MethodName := ⟨RX3, "isPlace", "(D)Z"⟩
abbrev cX3_at : ByteArray := prog_5_method_28_code
def yX3_at : MethodName := ⟨RX3, "at", "(D)D"⟩
abbrev cX3_byParts : ByteArray := prog_5_method_29_code
def yX3_byParts : MethodName := ⟨RX3, "byParts", "(D)D"⟩
def RJ9 : String := "java/lang/Math"
def TJ9 : u_T := fun k => match k with
  | _ => ("", "", "", false)
def tyJ9 : Nat → FieldType := fun k => match k with
  | _ => .int
abbrev wsJ90 : List Cond := u_ws RJ9 TJ9 0
theorem nmJ9 : ∀ a, a < 0 → ∀ b, b < 0 → a ≠ b → (TJ9 a).2.1 ≠ (TJ9 b).2.1 := by decide +kernel
theorem tyJ9_ok : ∀ k, k < 0 → parseFieldDescriptor (TJ9 k).2.2.1 = some (tyJ9 k) := by decide +kernel
abbrev cJ9_abs_067f4 : ByteArray := prog_9_method_61_code
def yJ9_abs_067f4 : MethodName := ⟨RJ9, "abs", "(J)J"⟩
def RJ0 : String := "java/lang/String"
def TJ0 : u_T := fun k => match k with
  | _ => ("", "", "", false)
def tyJ0 : Nat → FieldType := fun k => match k with
  | _ => .int
abbrev wsJ00 : List Cond := u_ws RJ0 TJ0 0
theorem nmJ0 : ∀ a, a < 0 → ∀ b, b < 0 → a ≠ b → (TJ0 a).2.1 ≠ (TJ0 b).2.1 := by decide +kernel
theorem tyJ0_ok : ∀ k, k < 0 → parseFieldDescriptor (TJ0 k).2.2.1 = some (tyJ0 k) := by decide +kernel
def RJ10 : String := "java/lang/System"
def TJ10 : u_T := fun k => match k with
  | _ => ("", "", "", false)
def tyJ10 : Nat → FieldType := fun k => match k with
  | _ => .int
abbrev wsJ100 : List Cond := u_ws RJ10 TJ10 0
theorem nmJ10 : ∀ a, a < 0 → ∀ b, b < 0 → a ≠ b → (TJ10 a).2.1 ≠ (TJ10 b).2.1 := by decide +kernel
theorem tyJ10_ok : ∀ k, k < 0 → parseFieldDescriptor (TJ10 k).2.2.1 = some (tyJ10 k) := by decide +kernel
def RJ7 : String := "java/util/Arrays"
def TJ7 : u_T := fun k => match k with
  | _ => ("", "", "", false)
def tyJ7 : Nat → FieldType := fun k => match k with
  | _ => .int
abbrev wsJ70 : List Cond := u_ws RJ7 TJ7 0
theorem nmJ7 : ∀ a, a < 0 → ∀ b, b < 0 → a ≠ b → (TJ7 a).2.1 ≠ (TJ7 b).2.1 := by decide +kernel
theorem tyJ7_ok : ∀ k, k < 0 → parseFieldDescriptor (TJ7 k).2.2.1 = some (tyJ7 k) := by decide +kernel
abbrev cJ7_fill_d0a16 : ByteArray := prog_14_method_101_code
def yJ7_fill_d0a16 : MethodName := ⟨RJ7, "fill", "([JJ)V"⟩
abbrev cJ7_fill_53178 : ByteArray := prog_14_method_103_code
def yJ7_fill_53178 : MethodName := ⟨RJ7, "fill", "([II)V"⟩
def RL : String := "PartsDeskLaw"
abbrev cL_numerator : ByteArray := method_3_code
def yL_numerator : MethodName := ⟨RL, "numerator", "(LPartsDesk;[J)I"⟩
abbrev cL_denominator : ByteArray := method_4_code
def yL_denominator : MethodName := ⟨RL, "denominator", "(LPartsDesk;[J)I"⟩
abbrev cL_part : ByteArray := method_5_code
def yL_part : MethodName := ⟨RL, "part", "(LPartsDesk;III[J)I"⟩
abbrev cL_integral : ByteArray := method_6_code
def yL_integral : MethodName := ⟨RL, "integral", "(LPartsDesk;III[J)I"⟩
abbrev cL_value : ByteArray := method_7_code
def yL_value : MethodName := ⟨RL, "value", "(LPartsDesk;II[J)I"⟩
abbrev cL_at : ByteArray := method_8_code
def yL_at : MethodName := ⟨RL, "at", "(LPartsDesk;D[D)I"⟩
abbrev cL_byParts : ByteArray := method_9_code
def yL_byParts : MethodName := ⟨RL, "byParts", "(LPartsDesk;D[D)I"⟩
abbrev cL_law : ByteArray := code
def yL_law : MethodName := ⟨RL, "law", "([I)Z"⟩
def wsX0_init : List Cond := .code yX0_init cX0_init 1 none :: ([.methodLink RX0 3 objectInit, .instanceMethod objectInit, .code objectInit ⟨#[0xb1]⟩ 1 none, .arrayClass .char, .fieldLink RX0 9 "PartsDesk$Draft" "characters" "[C"] ++ wsX00)
def wsX0_append : List Cond := .code yX0_append cX0_append 2 (some .boolean) :: ([.fieldLink RX0 15 "PartsDesk$Draft" "length" "I", .fieldLink RX0 9 "PartsDesk$Draft" "characters" "[C"] ++ wsX00)
def wsX0_empty : List Cond := .code yX0_empty cX0_empty 1 none :: ([.fieldLink RX0 15 "PartsDesk$Draft" "length" "I", .fieldLink RX0 19 "PartsDesk$Draft" "next" "I"] ++ wsX00)
def wsX0_isAtEnd : List Cond := .code yX0_isAtEnd cX0_isAtEnd 1 (some .boolean) :: ([.fieldLink RX0 19 "PartsDesk$Draft" "next" "I", .fieldLink RX0 15 "PartsDesk$Draft" "length" "I"] ++ wsX00)
def wsX0_takes : List Cond := .code yX0_takes cX0_takes 3 (some .boolean) :: ([.fieldLink RX0 9 "PartsDesk$Draft" "characters" "[C", .fieldLink RX0 19 "PartsDesk$Draft" "next" "I", .methodLink RX0 22 yX0_isAtEnd, .instanceMethod yX0_isAtEnd, .selects RX0 yX0_isAtEnd yX0_isAtEnd, .initialized RX0, .code yX0_isAtEnd cX0_isAtEnd 1 (some .boolean), .fieldLink RX0 15 "PartsDesk$Draft" "length" "I"] ++ wsX00)
def wsX0_takeDigit : List Cond := .code yX0_takeDigit cX0_takeDigit 4 (some .int) :: ([.fieldLink RX0 9 "PartsDesk$Draft" "characters" "[C", .fieldLink RX0 19 "PartsDesk$Draft" "next" "I", .methodLink RX0 22 yX0_isAtEnd, .instanceMethod yX0_isAtEnd, .selects RX0 yX0_isAtEnd yX0_isAtEnd, .initialized RX0, .code yX0_isAtEnd cX0_isAtEnd 1 (some .boolean), .fieldLink RX0 15 "PartsDesk$Draft" "length" "I"] ++ wsX00)
def wsX1_init : List Cond := .code yX1_init cX1_init 1 none :: ([.methodLink RX1 3 objectInit, .instanceMethod objectInit, .code objectInit ⟨#[0xb1]⟩ 1 none, .arrayClass .long, .fieldLink RX1 9 "PartsDesk$Polynomial" "coefficients" "[J"] ++ wsX10)
def wsJ7_fill_d0a16 : List Cond := .code yJ7_fill_d0a16 cJ7_fill_d0a16 5 none :: ([])
def wsX1_becomeZero : List Cond := .code yX1_becomeZero cX1_becomeZero 1 none :: ([.fieldLink RX1 9 "PartsDesk$Polynomial" "coefficients" "[J", .methodLink RX1 15 yJ7_fill_d0a16, .static yJ7_fill_d0a16, .initialized RJ7, .code yJ7_fill_d0a16 cJ7_fill_d0a16 5 none] ++ wsX10)
def wsX1_becomeOne : List Cond := .code yX1_becomeOne cX1_becomeOne 1 none :: ([.fieldLink RX1 9 "PartsDesk$Polynomial" "coefficients" "[J", .methodLink RX1 21 yX1_becomeZero, .instanceMethod yX1_becomeZero, .selects RX1 yX1_becomeZero yX1_becomeZero, .initialized RX1, .code yX1_becomeZero cX1_becomeZero 1 none, .methodLink RX1 15 yJ7_fill_d0a16, .static yJ7_fill_d0a16, .initialized RJ7, .code yJ7_fill_d0a16 cJ7_fill_d0a16 5 none] ++ wsX10)
def wsX1_become : List Cond := .code yX1_become cX1_become 2 none :: ([.fieldLink RX1 9 "PartsDesk$Polynomial" "coefficients" "[J", .methodLink RX1 24 arraycopyName, .native arraycopyName, .static arraycopyName, .initialized "java/lang/System"] ++ wsX10)
def wsX1_get : List Cond := .code yX1_get cX1_get 2 (some .long) :: ([.fieldLink RX1 9 "PartsDesk$Polynomial" "coefficients" "[J"] ++ wsX10)
def wsX1_add : List Cond := .code yX1_add cX1_add 4 none :: ([.fieldLink RX1 9 "PartsDesk$Polynomial" "coefficients" "[J"] ++ wsX10)
def wsX1_degree : List Cond := .code yX1_degree cX1_degree 2 (some .int) :: ([.fieldLink RX1 9 "PartsDesk$Polynomial" "coefficients" "[J"] ++ wsX10)
def wsX1_multiplyByFactorOf : List Cond := .code yX1_multiplyByFactorOf cX1_multiplyByFactorOf 3 none :: ([.fieldLink RX1 9 "PartsDesk$Polynomial" "coefficients" "[J"] ++ wsX10)
def wsX1_divideByFactorOf : List Cond := .code yX1_divideByFactorOf cX1_divideByFactorOf 7 (some .long) :: ([.fieldLink RX1 9 "PartsDesk$Polynomial" "coefficients" "[J"] ++ wsX10)
def wsX1_mix : List Cond := .code yX1_mix cX1_mix 7 none :: ([.fieldLink RX1 9 "PartsDesk$Polynomial" "coefficients" "[J"] ++ wsX10)
def wsX1_exactlyAt : List Cond := .code yX1_exactlyAt cX1_exactlyAt 5 (some .long) :: ([.fieldLink RX1 9 "PartsDesk$Polynomial" "coefficients" "[J"] ++ wsX10)
def wsX1_inDoublesAt : List Cond := .code yX1_inDoublesAt cX1_inDoublesAt 6 (some .double) :: ([.fieldLink RX1 9 "PartsDesk$Polynomial" "coefficients" "[J"] ++ wsX10)
def wsX2_isPossibleRoot : List Cond := .code yX2_isPossibleRoot cX2_isPossibleRoot 1 (some .boolean) :: ([])
def wsX2_many : List Cond := .code yX2_many cX2_many 2 (some .int) :: ([.fieldLink RX2 29 "PartsDesk" "often" "[I", .methodLink RX2 105 yX2_isPossibleRoot, .static yX2_isPossibleRoot, .initialized RX2, .code yX2_isPossibleRoot cX2_isPossibleRoot 1 (some .boolean)] ++ wsX20)
def wsX2_multiplyOtherFactors_r1 : List Cond := [Cond.fieldLink RX2 49 "PartsDesk" "otherFactors" "LPartsDesk$Polynomial;", Cond.methodLink RX2 172 yX1_becomeOne, Cond.instanceMethod yX1_becomeOne, Cond.selects RX1 yX1_becomeOne yX1_becomeOne, Cond.initialized RX1, Cond.code yX1_becomeOne cX1_becomeOne 1 none, Cond.fieldLink RX1 9 "PartsDesk$Polynomial" "coefficients" "[J", Cond.methodLink RX1 21 yX1_becomeZero, Cond.instanceMethod yX1_becomeZero, Cond.selects RX1 yX1_becomeZero yX1_becomeZero, Cond.code yX1_becomeZero cX1_becomeZero 1 none, Cond.methodLink RX1 15 yJ7_fill_d0a16, Cond.static yJ7_fill_d0a16, Cond.initialized RJ7, Cond.code yJ7_fill_d0a16 cJ7_fill_d0a16 5 none, Cond.methodLink RX2 109 yX2_many, Cond.instanceMethod yX2_many, Cond.selects RX2 yX2_many yX2_many, Cond.initialized RX2, Cond.code yX2_many cX2_many 2 (some .int), Cond.fieldLink RX2 29 "PartsDesk" "often" "[I", Cond.methodLink RX2 105 yX2_isPossibleRoot, Cond.static yX2_isPossibleRoot, Cond.code yX2_isPossibleRoot cX2_isPossibleRoot 1 (some .boolean)]
def wsX2_multiplyOtherFactors_r2 : List Cond := [Cond.methodLink RX2 181 yX1_multiplyByFactorOf, Cond.instanceMethod yX1_multiplyByFactorOf, Cond.selects RX1 yX1_multiplyByFactorOf yX1_multiplyByFactorOf, Cond.code yX1_multiplyByFactorOf cX1_multiplyByFactorOf 3 none]
def wsX2_multiplyOtherFactors : List Cond := .code yX2_multiplyOtherFactors cX2_multiplyOtherFactors 5 none :: ((wsX2_multiplyOtherFactors_r1 ++ wsX2_multiplyOtherFactors_r2) ++ wsX20 ++ wsX10)
def wsX2_placeOfPart : List Cond := .code yX2_placeOfPart cX2_placeOfPart 3 (some .int) :: ([.methodLink RX2 105 yX2_isPossibleRoot, .static yX2_isPossibleRoot, .initialized RX2, .code yX2_isPossibleRoot cX2_isPossibleRoot 1 (some .boolean)])
def wsX2_commonDivisor : List Cond := .code yX2_commonDivisor cX2_commonDivisor 11 (some .long) :: ([.methodLink RX2 166 Lib.MathLoose.abs_long.x, .static Lib.MathLoose.abs_long.x, .initialized "java/lang/Math", .code Lib.MathLoose.abs_long.x Lib.MathLoose.abs_long.code 2 (some .long)])
def wsX2_inLowestTerms : List Cond := .code yX2_inLowestTerms cX2_inLowestTerms 9 (some .long) :: ([.methodLink RX2 162 yX2_commonDivisor, .static yX2_commonDivisor, .initialized RX2, .code yX2_commonDivisor cX2_commonDivisor 11 (some .long), .methodLink RX2 166 Lib.MathLoose.abs_long.x, .static Lib.MathLoose.abs_long.x, .initialized "java/lang/Math", .code Lib.MathLoose.abs_long.x Lib.MathLoose.abs_long.code 2 (some .long)])
def wsX2_keepPart : List Cond := .code yX2_keepPart cX2_keepPart 8 none :: ([.fieldLink RX2 33 "PartsDesk" "partsAbove" "[J", .fieldLink RX2 37 "PartsDesk" "partsBelow" "[J", .methodLink RX2 158 yX2_placeOfPart, .static yX2_placeOfPart, .initialized RX2, .code yX2_placeOfPart cX2_placeOfPart 3 (some .int), .methodLink RX2 105 yX2_isPossibleRoot, .static yX2_isPossibleRoot, .code yX2_isPossibleRoot cX2_isPossibleRoot 1 (some .boolean), .methodLink RX2 131 yX2_inLowestTerms, .static yX2_inLowestTerms, .code yX2_inLowestTerms cX2_inLowestTerms 9 (some .long), .methodLink RX2 162 yX2_commonDivisor, .static yX2_commonDivisor, .code yX2_commonDivisor cX2_commonDivisor 11 (some .long), .methodLink RX2 166 Lib.MathLoose.abs_long.x, .static Lib.MathLoose.abs_long.x, .initialized "java/lang/Math", .code Lib.MathLoose.abs_long.x Lib.MathLoose.abs_long.code 2 (some .long)] ++ wsX20)
def wsX2_makePartsOf_r1 : List Cond := [Cond.fieldLink RX2 46 "PartsDesk" "rest" "LPartsDesk$Polynomial;", Cond.fieldLink RX2 19 "PartsDesk" "above" "LPartsDesk$Polynomial;", Cond.fieldLink RX2 49 "PartsDesk" "otherFactors" "LPartsDesk$Polynomial;", Cond.methodLink RX2 73 yX1_become, Cond.instanceMethod yX1_become, Cond.selects RX1 yX1_become yX1_become, Cond.initialized RX1, Cond.code yX1_become cX1_become 2 none, Cond.fieldLink RX1 9 "PartsDesk$Polynomial" "coefficients" "[J", Cond.methodLink RX1 24 arraycopyName, Cond.native arraycopyName, Cond.static arraycopyName, Cond.initialized "java/lang/System", Cond.methodLink RX2 191 yX2_multiplyOtherFactors, Cond.instanceMethod yX2_multiplyOtherFactors, Cond.selects RX2 yX2_multiplyOtherFactors yX2_multiplyOtherFactors, Cond.initialized RX2, Cond.code yX2_multiplyOtherFactors cX2_multiplyOtherFactors 5 none, Cond.methodLink RX2 172 yX1_becomeOne, Cond.instanceMethod yX1_becomeOne, Cond.selects RX1 yX1_becomeOne yX1_becomeOne, Cond.code yX1_becomeOne cX1_becomeOne 1 none, Cond.methodLink RX1 21 yX1_becomeZero, Cond.instanceMethod yX1_becomeZero]
def wsX2_makePartsOf_r2 : List Cond := [Cond.selects RX1 yX1_becomeZero yX1_becomeZero, Cond.code yX1_becomeZero cX1_becomeZero 1 none, Cond.methodLink RX1 15 yJ7_fill_d0a16, Cond.static yJ7_fill_d0a16, Cond.initialized RJ7, Cond.code yJ7_fill_d0a16 cJ7_fill_d0a16 5 none, Cond.methodLink RX2 109 yX2_many, Cond.instanceMethod yX2_many, Cond.selects RX2 yX2_many yX2_many, Cond.code yX2_many cX2_many 2 (some .int), Cond.fieldLink RX2 29 "PartsDesk" "often" "[I", Cond.methodLink RX2 105 yX2_isPossibleRoot, Cond.static yX2_isPossibleRoot, Cond.code yX2_isPossibleRoot cX2_isPossibleRoot 1 (some .boolean), Cond.methodLink RX2 181 yX1_multiplyByFactorOf, Cond.instanceMethod yX1_multiplyByFactorOf, Cond.selects RX1 yX1_multiplyByFactorOf yX1_multiplyByFactorOf, Cond.code yX1_multiplyByFactorOf cX1_multiplyByFactorOf 3 none, Cond.methodLink RX2 185 yX1_divideByFactorOf, Cond.instanceMethod yX1_divideByFactorOf, Cond.selects RX1 yX1_divideByFactorOf yX1_divideByFactorOf, Cond.code yX1_divideByFactorOf cX1_divideByFactorOf 7 (some .long), Cond.methodLink RX2 194 yX2_keepPart, Cond.instanceMethod yX2_keepPart]
def wsX2_makePartsOf_r3 : List Cond := [Cond.selects RX2 yX2_keepPart yX2_keepPart, Cond.code yX2_keepPart cX2_keepPart 8 none, Cond.fieldLink RX2 33 "PartsDesk" "partsAbove" "[J", Cond.fieldLink RX2 37 "PartsDesk" "partsBelow" "[J", Cond.methodLink RX2 158 yX2_placeOfPart, Cond.static yX2_placeOfPart, Cond.code yX2_placeOfPart cX2_placeOfPart 3 (some .int), Cond.methodLink RX2 131 yX2_inLowestTerms, Cond.static yX2_inLowestTerms, Cond.code yX2_inLowestTerms cX2_inLowestTerms 9 (some .long), Cond.methodLink RX2 162 yX2_commonDivisor, Cond.static yX2_commonDivisor, Cond.code yX2_commonDivisor cX2_commonDivisor 11 (some .long), Cond.methodLink RX2 166 Lib.MathLoose.abs_long.x, Cond.static Lib.MathLoose.abs_long.x, Cond.initialized "java/lang/Math", Cond.code Lib.MathLoose.abs_long.x Lib.MathLoose.abs_long.code 2 (some .long), Cond.methodLink RX2 198 yX1_mix, Cond.instanceMethod yX1_mix, Cond.selects RX1 yX1_mix yX1_mix, Cond.code yX1_mix cX1_mix 7 none]
def wsX2_makePartsOf : List Cond := .code yX2_makePartsOf cX2_makePartsOf 9 none :: ((wsX2_makePartsOf_r1 ++ (wsX2_makePartsOf_r2 ++ wsX2_makePartsOf_r3)) ++ wsX20 ++ wsX10)
def wsX2_takeApart_r1 : List Cond := [Cond.fieldLink RX2 23 "PartsDesk" "below" "LPartsDesk$Polynomial;", Cond.fieldLink RX2 26 "PartsDesk" "quotient" "LPartsDesk$Polynomial;", Cond.fieldLink RX2 19 "PartsDesk" "above" "LPartsDesk$Polynomial;", Cond.fieldLink RX2 33 "PartsDesk" "partsAbove" "[J", Cond.fieldLink RX2 37 "PartsDesk" "partsBelow" "[J", Cond.methodLink RX2 172 yX1_becomeOne, Cond.instanceMethod yX1_becomeOne, Cond.selects RX1 yX1_becomeOne yX1_becomeOne, Cond.initialized RX1, Cond.code yX1_becomeOne cX1_becomeOne 1 none, Cond.fieldLink RX1 9 "PartsDesk$Polynomial" "coefficients" "[J", Cond.methodLink RX1 21 yX1_becomeZero, Cond.instanceMethod yX1_becomeZero, Cond.selects RX1 yX1_becomeZero yX1_becomeZero, Cond.code yX1_becomeZero cX1_becomeZero 1 none, Cond.methodLink RX1 15 yJ7_fill_d0a16, Cond.static yJ7_fill_d0a16, Cond.initialized RJ7, Cond.code yJ7_fill_d0a16 cJ7_fill_d0a16 5 none, Cond.methodLink RX2 73 yX1_become, Cond.instanceMethod yX1_become, Cond.selects RX1 yX1_become yX1_become, Cond.code yX1_become cX1_become 2 none, Cond.methodLink RX1 24 arraycopyName]
def wsX2_takeApart_r2 : List Cond := [Cond.native arraycopyName, Cond.static arraycopyName, Cond.initialized "java/lang/System", Cond.methodLink RX2 175 yJ7_fill_d0a16, Cond.methodLink RX2 109 yX2_many, Cond.instanceMethod yX2_many, Cond.selects RX2 yX2_many yX2_many, Cond.initialized RX2, Cond.code yX2_many cX2_many 2 (some .int), Cond.fieldLink RX2 29 "PartsDesk" "often" "[I", Cond.methodLink RX2 105 yX2_isPossibleRoot, Cond.static yX2_isPossibleRoot, Cond.code yX2_isPossibleRoot cX2_isPossibleRoot 1 (some .boolean), Cond.methodLink RX2 181 yX1_multiplyByFactorOf, Cond.instanceMethod yX1_multiplyByFactorOf, Cond.selects RX1 yX1_multiplyByFactorOf yX1_multiplyByFactorOf, Cond.code yX1_multiplyByFactorOf cX1_multiplyByFactorOf 3 none, Cond.methodLink RX2 185 yX1_divideByFactorOf, Cond.instanceMethod yX1_divideByFactorOf, Cond.selects RX1 yX1_divideByFactorOf yX1_divideByFactorOf, Cond.code yX1_divideByFactorOf cX1_divideByFactorOf 7 (some .long), Cond.methodLink RX2 188 yX2_makePartsOf, Cond.instanceMethod yX2_makePartsOf, Cond.selects RX2 yX2_makePartsOf yX2_makePartsOf]
def wsX2_takeApart_r3 : List Cond := [Cond.code yX2_makePartsOf cX2_makePartsOf 9 none, Cond.fieldLink RX2 46 "PartsDesk" "rest" "LPartsDesk$Polynomial;", Cond.fieldLink RX2 49 "PartsDesk" "otherFactors" "LPartsDesk$Polynomial;", Cond.methodLink RX2 191 yX2_multiplyOtherFactors, Cond.instanceMethod yX2_multiplyOtherFactors, Cond.selects RX2 yX2_multiplyOtherFactors yX2_multiplyOtherFactors, Cond.code yX2_multiplyOtherFactors cX2_multiplyOtherFactors 5 none, Cond.methodLink RX2 194 yX2_keepPart, Cond.instanceMethod yX2_keepPart, Cond.selects RX2 yX2_keepPart yX2_keepPart, Cond.code yX2_keepPart cX2_keepPart 8 none, Cond.methodLink RX2 158 yX2_placeOfPart, Cond.static yX2_placeOfPart, Cond.code yX2_placeOfPart cX2_placeOfPart 3 (some .int), Cond.methodLink RX2 131 yX2_inLowestTerms, Cond.static yX2_inLowestTerms, Cond.code yX2_inLowestTerms cX2_inLowestTerms 9 (some .long), Cond.methodLink RX2 162 yX2_commonDivisor, Cond.static yX2_commonDivisor, Cond.code yX2_commonDivisor cX2_commonDivisor 11 (some .long), Cond.methodLink RX2 166 Lib.MathLoose.abs_long.x, Cond.static Lib.MathLoose.abs_long.x, Cond.initialized "java/lang/Math", Cond.code Lib.MathLoose.abs_long.x Lib.MathLoose.abs_long.code 2 (some .long)]
def wsX2_takeApart_r4 : List Cond := [Cond.methodLink RX2 198 yX1_mix, Cond.instanceMethod yX1_mix, Cond.selects RX1 yX1_mix yX1_mix, Cond.code yX1_mix cX1_mix 7 none]
def wsX2_takeApart : List Cond := .code yX2_takeApart cX2_takeApart 4 none :: ((wsX2_takeApart_r1 ++ (wsX2_takeApart_r2 ++ (wsX2_takeApart_r3 ++ wsX2_takeApart_r4))) ++ wsX20 ++ wsX10)
def wsX2_init_r1 : List Cond := [Cond.methodLink RX2 3 objectInit, Cond.instanceMethod objectInit, Cond.code objectInit ⟨#[0xb1]⟩ 1 none, Cond.classLink RX2 9 RX0, Cond.instantiable RX0 3, Cond.initialized RX0, Cond.fieldLink RX2 12 "PartsDesk" "draft" "LPartsDesk$Draft;", Cond.classLink RX2 16 RX1, Cond.instantiable RX1 1, Cond.initialized RX1, Cond.fieldLink RX2 19 "PartsDesk" "above" "LPartsDesk$Polynomial;", Cond.fieldLink RX2 23 "PartsDesk" "below" "LPartsDesk$Polynomial;", Cond.fieldLink RX2 26 "PartsDesk" "quotient" "LPartsDesk$Polynomial;", Cond.arrayClass .int, Cond.fieldLink RX2 29 "PartsDesk" "often" "[I", Cond.arrayClass .long, Cond.fieldLink RX2 33 "PartsDesk" "partsAbove" "[J", Cond.fieldLink RX2 37 "PartsDesk" "partsBelow" "[J", Cond.fieldLink RX2 40 "PartsDesk" "readTerms" "LPartsDesk$Polynomial;", Cond.fieldLink RX2 43 "PartsDesk" "readOften" "[I", Cond.fieldLink RX2 46 "PartsDesk" "rest" "LPartsDesk$Polynomial;", Cond.fieldLink RX2 49 "PartsDesk" "otherFactors" "LPartsDesk$Polynomial;", Cond.instanceMethod yX0_init, Cond.code yX0_init cX0_init 1 none]
def wsX2_init_r2 : List Cond := [Cond.methodLink RX0 3 objectInit, Cond.arrayClass .char, Cond.fieldLink RX0 9 "PartsDesk$Draft" "characters" "[C", Cond.instanceMethod yX1_init, Cond.code yX1_init cX1_init 1 none, Cond.methodLink RX1 3 objectInit, Cond.fieldLink RX1 9 "PartsDesk$Polynomial" "coefficients" "[J", Cond.methodLink RX2 52 yX2_takeApart, Cond.instanceMethod yX2_takeApart, Cond.selects RX2 yX2_takeApart yX2_takeApart, Cond.initialized RX2, Cond.code yX2_takeApart cX2_takeApart 4 none, Cond.methodLink RX2 172 yX1_becomeOne, Cond.instanceMethod yX1_becomeOne, Cond.selects RX1 yX1_becomeOne yX1_becomeOne, Cond.code yX1_becomeOne cX1_becomeOne 1 none, Cond.methodLink RX1 21 yX1_becomeZero, Cond.instanceMethod yX1_becomeZero, Cond.selects RX1 yX1_becomeZero yX1_becomeZero, Cond.code yX1_becomeZero cX1_becomeZero 1 none, Cond.methodLink RX1 15 yJ7_fill_d0a16, Cond.static yJ7_fill_d0a16, Cond.initialized RJ7, Cond.code yJ7_fill_d0a16 cJ7_fill_d0a16 5 none]
def wsX2_init_r3 : List Cond := [Cond.methodLink RX2 73 yX1_become, Cond.instanceMethod yX1_become, Cond.selects RX1 yX1_become yX1_become, Cond.code yX1_become cX1_become 2 none, Cond.methodLink RX1 24 arraycopyName, Cond.native arraycopyName, Cond.static arraycopyName, Cond.initialized "java/lang/System", Cond.methodLink RX2 175 yJ7_fill_d0a16, Cond.methodLink RX2 109 yX2_many, Cond.instanceMethod yX2_many, Cond.selects RX2 yX2_many yX2_many, Cond.code yX2_many cX2_many 2 (some .int), Cond.methodLink RX2 105 yX2_isPossibleRoot, Cond.static yX2_isPossibleRoot, Cond.code yX2_isPossibleRoot cX2_isPossibleRoot 1 (some .boolean), Cond.methodLink RX2 181 yX1_multiplyByFactorOf, Cond.instanceMethod yX1_multiplyByFactorOf, Cond.selects RX1 yX1_multiplyByFactorOf yX1_multiplyByFactorOf, Cond.code yX1_multiplyByFactorOf cX1_multiplyByFactorOf 3 none, Cond.methodLink RX2 185 yX1_divideByFactorOf, Cond.instanceMethod yX1_divideByFactorOf, Cond.selects RX1 yX1_divideByFactorOf yX1_divideByFactorOf, Cond.code yX1_divideByFactorOf cX1_divideByFactorOf 7 (some .long)]
def wsX2_init_r4 : List Cond := [Cond.methodLink RX2 188 yX2_makePartsOf, Cond.instanceMethod yX2_makePartsOf, Cond.selects RX2 yX2_makePartsOf yX2_makePartsOf, Cond.code yX2_makePartsOf cX2_makePartsOf 9 none, Cond.methodLink RX2 191 yX2_multiplyOtherFactors, Cond.instanceMethod yX2_multiplyOtherFactors, Cond.selects RX2 yX2_multiplyOtherFactors yX2_multiplyOtherFactors, Cond.code yX2_multiplyOtherFactors cX2_multiplyOtherFactors 5 none, Cond.methodLink RX2 194 yX2_keepPart, Cond.instanceMethod yX2_keepPart, Cond.selects RX2 yX2_keepPart yX2_keepPart, Cond.code yX2_keepPart cX2_keepPart 8 none, Cond.methodLink RX2 158 yX2_placeOfPart, Cond.static yX2_placeOfPart, Cond.code yX2_placeOfPart cX2_placeOfPart 3 (some .int), Cond.methodLink RX2 131 yX2_inLowestTerms, Cond.static yX2_inLowestTerms, Cond.code yX2_inLowestTerms cX2_inLowestTerms 9 (some .long), Cond.methodLink RX2 162 yX2_commonDivisor, Cond.static yX2_commonDivisor, Cond.code yX2_commonDivisor cX2_commonDivisor 11 (some .long), Cond.methodLink RX2 166 Lib.MathLoose.abs_long.x, Cond.static Lib.MathLoose.abs_long.x, Cond.initialized "java/lang/Math"]
def wsX2_init_r5 : List Cond := [Cond.code Lib.MathLoose.abs_long.x Lib.MathLoose.abs_long.code 2 (some .long), Cond.methodLink RX2 198 yX1_mix, Cond.instanceMethod yX1_mix, Cond.selects RX1 yX1_mix yX1_mix, Cond.code yX1_mix cX1_mix 7 none]
def wsX2_init : List Cond := .code yX2_init cX2_init 1 none :: ((wsX2_init_r1 ++ (wsX2_init_r2 ++ (wsX2_init_r3 ++ (wsX2_init_r4 ++ wsX2_init_r5)))) ++ wsX00 ++ wsX20 ++ wsX10)
def wsX2_write : List Cond := .code yX2_write cX2_write 2 (some .boolean) :: ([.fieldLink RX2 12 "PartsDesk" "draft" "LPartsDesk$Draft;", .methodLink RX2 55 yX0_append, .instanceMethod yX0_append, .selects RX0 yX0_append yX0_append, .initialized RX0, .code yX0_append cX0_append 2 (some .boolean), .fieldLink RX0 15 "PartsDesk$Draft" "length" "I", .fieldLink RX0 9 "PartsDesk$Draft" "characters" "[C"] ++ wsX20 ++ wsX00)
def wsX2_readNumber : List Cond := .code yX2_readNumber cX2_readNumber 3 (some .int) :: ([.fieldLink RX2 12 "PartsDesk" "draft" "LPartsDesk$Draft;", .methodLink RX2 225 yX0_takeDigit, .instanceMethod yX0_takeDigit, .selects RX0 yX0_takeDigit yX0_takeDigit, .initialized RX0, .code yX0_takeDigit cX0_takeDigit 4 (some .int), .fieldLink RX0 9 "PartsDesk$Draft" "characters" "[C", .fieldLink RX0 19 "PartsDesk$Draft" "next" "I", .methodLink RX0 22 yX0_isAtEnd, .instanceMethod yX0_isAtEnd, .selects RX0 yX0_isAtEnd yX0_isAtEnd, .code yX0_isAtEnd cX0_isAtEnd 1 (some .boolean), .fieldLink RX0 15 "PartsDesk$Draft" "length" "I"] ++ wsX20 ++ wsX00)
def wsX2_readPowerOfX : List Cond := .code yX2_readPowerOfX cX2_readPowerOfX 1 (some .int) :: ([.fieldLink RX2 12 "PartsDesk" "draft" "LPartsDesk$Draft;", .methodLink RX2 212 yX0_takes, .instanceMethod yX0_takes, .selects RX0 yX0_takes yX0_takes, .initialized RX0, .code yX0_takes cX0_takes 3 (some .boolean), .fieldLink RX0 9 "PartsDesk$Draft" "characters" "[C", .fieldLink RX0 19 "PartsDesk$Draft" "next" "I", .methodLink RX0 22 yX0_isAtEnd, .instanceMethod yX0_isAtEnd, .selects RX0 yX0_isAtEnd yX0_isAtEnd, .code yX0_isAtEnd cX0_isAtEnd 1 (some .boolean), .fieldLink RX0 15 "PartsDesk$Draft" "length" "I", .methodLink RX2 225 yX0_takeDigit, .instanceMethod yX0_takeDigit, .selects RX0 yX0_takeDigit yX0_takeDigit, .code yX0_takeDigit cX0_takeDigit 4 (some .int)] ++ wsX20 ++ wsX00)
def wsX2_readTerm_r1 : List Cond := [Cond.fieldLink RX2 12 "PartsDesk" "draft" "LPartsDesk$Draft;", Cond.fieldLink RX2 40 "PartsDesk" "readTerms" "LPartsDesk$Polynomial;", Cond.methodLink RX2 212 yX0_takes, Cond.instanceMethod yX0_takes, Cond.selects RX0 yX0_takes yX0_takes, Cond.initialized RX0, Cond.code yX0_takes cX0_takes 3 (some .boolean), Cond.fieldLink RX0 9 "PartsDesk$Draft" "characters" "[C", Cond.fieldLink RX0 19 "PartsDesk$Draft" "next" "I", Cond.methodLink RX0 22 yX0_isAtEnd, Cond.instanceMethod yX0_isAtEnd, Cond.selects RX0 yX0_isAtEnd yX0_isAtEnd, Cond.code yX0_isAtEnd cX0_isAtEnd 1 (some .boolean), Cond.fieldLink RX0 15 "PartsDesk$Draft" "length" "I", Cond.methodLink RX2 215 yX2_readNumber, Cond.instanceMethod yX2_readNumber, Cond.selects RX2 yX2_readNumber yX2_readNumber, Cond.initialized RX2, Cond.code yX2_readNumber cX2_readNumber 3 (some .int), Cond.methodLink RX2 225 yX0_takeDigit, Cond.instanceMethod yX0_takeDigit, Cond.selects RX0 yX0_takeDigit yX0_takeDigit, Cond.code yX0_takeDigit cX0_takeDigit 4 (some .int), Cond.methodLink RX2 218 yX2_readPowerOfX]
def wsX2_readTerm_r2 : List Cond := [Cond.instanceMethod yX2_readPowerOfX, Cond.selects RX2 yX2_readPowerOfX yX2_readPowerOfX, Cond.code yX2_readPowerOfX cX2_readPowerOfX 1 (some .int), Cond.methodLink RX2 221 yX1_add, Cond.instanceMethod yX1_add, Cond.selects RX1 yX1_add yX1_add, Cond.initialized RX1, Cond.code yX1_add cX1_add 4 none, Cond.fieldLink RX1 9 "PartsDesk$Polynomial" "coefficients" "[J"]
def wsX2_readTerm : List Cond := .code yX2_readTerm cX2_readTerm 7 (some .boolean) :: ((wsX2_readTerm_r1 ++ wsX2_readTerm_r2) ++ wsX20 ++ wsX00 ++ wsX10)
def wsX2_readPolynomial_r1 : List Cond := [Cond.fieldLink RX2 40 "PartsDesk" "readTerms" "LPartsDesk$Polynomial;", Cond.fieldLink RX2 12 "PartsDesk" "draft" "LPartsDesk$Draft;", Cond.methodLink RX2 202 yX1_becomeZero, Cond.instanceMethod yX1_becomeZero, Cond.selects RX1 yX1_becomeZero yX1_becomeZero, Cond.initialized RX1, Cond.code yX1_becomeZero cX1_becomeZero 1 none, Cond.fieldLink RX1 9 "PartsDesk$Polynomial" "coefficients" "[J", Cond.methodLink RX1 15 yJ7_fill_d0a16, Cond.static yJ7_fill_d0a16, Cond.initialized RJ7, Cond.code yJ7_fill_d0a16 cJ7_fill_d0a16 5 none, Cond.methodLink RX2 205 yX2_readTerm, Cond.instanceMethod yX2_readTerm, Cond.selects RX2 yX2_readTerm yX2_readTerm, Cond.initialized RX2, Cond.code yX2_readTerm cX2_readTerm 7 (some .boolean), Cond.methodLink RX2 212 yX0_takes, Cond.instanceMethod yX0_takes, Cond.selects RX0 yX0_takes yX0_takes, Cond.initialized RX0, Cond.code yX0_takes cX0_takes 3 (some .boolean), Cond.fieldLink RX0 9 "PartsDesk$Draft" "characters" "[C", Cond.fieldLink RX0 19 "PartsDesk$Draft" "next" "I"]
def wsX2_readPolynomial_r2 : List Cond := [Cond.methodLink RX0 22 yX0_isAtEnd, Cond.instanceMethod yX0_isAtEnd, Cond.selects RX0 yX0_isAtEnd yX0_isAtEnd, Cond.code yX0_isAtEnd cX0_isAtEnd 1 (some .boolean), Cond.fieldLink RX0 15 "PartsDesk$Draft" "length" "I", Cond.methodLink RX2 215 yX2_readNumber, Cond.instanceMethod yX2_readNumber, Cond.selects RX2 yX2_readNumber yX2_readNumber, Cond.code yX2_readNumber cX2_readNumber 3 (some .int), Cond.methodLink RX2 225 yX0_takeDigit, Cond.instanceMethod yX0_takeDigit, Cond.selects RX0 yX0_takeDigit yX0_takeDigit, Cond.code yX0_takeDigit cX0_takeDigit 4 (some .int), Cond.methodLink RX2 218 yX2_readPowerOfX, Cond.instanceMethod yX2_readPowerOfX, Cond.selects RX2 yX2_readPowerOfX yX2_readPowerOfX, Cond.code yX2_readPowerOfX cX2_readPowerOfX 1 (some .int), Cond.methodLink RX2 221 yX1_add, Cond.instanceMethod yX1_add, Cond.selects RX1 yX1_add yX1_add, Cond.code yX1_add cX1_add 4 none, Cond.methodLink RX2 209 yX0_isAtEnd]
def wsX2_readPolynomial : List Cond := .code yX2_readPolynomial cX2_readPolynomial 3 (some .boolean) :: ((wsX2_readPolynomial_r1 ++ wsX2_readPolynomial_r2) ++ wsX20 ++ wsX10 ++ wsX00)
def wsX2_numerator_r1 : List Cond := [Cond.classLink RX2 66 "java/lang/IllegalArgumentException", Cond.initialized "java/lang/IllegalArgumentException", Cond.fieldLink RX2 12 "PartsDesk" "draft" "LPartsDesk$Draft;", Cond.fieldLink RX2 19 "PartsDesk" "above" "LPartsDesk$Polynomial;", Cond.fieldLink RX2 40 "PartsDesk" "readTerms" "LPartsDesk$Polynomial;", Cond.methodLink RX2 59 yX2_readPolynomial, Cond.instanceMethod yX2_readPolynomial, Cond.selects RX2 yX2_readPolynomial yX2_readPolynomial, Cond.initialized RX2, Cond.code yX2_readPolynomial cX2_readPolynomial 3 (some .boolean), Cond.methodLink RX2 202 yX1_becomeZero, Cond.instanceMethod yX1_becomeZero, Cond.selects RX1 yX1_becomeZero yX1_becomeZero, Cond.initialized RX1, Cond.code yX1_becomeZero cX1_becomeZero 1 none, Cond.fieldLink RX1 9 "PartsDesk$Polynomial" "coefficients" "[J", Cond.methodLink RX1 15 yJ7_fill_d0a16, Cond.static yJ7_fill_d0a16, Cond.initialized RJ7, Cond.code yJ7_fill_d0a16 cJ7_fill_d0a16 5 none, Cond.methodLink RX2 205 yX2_readTerm, Cond.instanceMethod yX2_readTerm, Cond.selects RX2 yX2_readTerm yX2_readTerm, Cond.code yX2_readTerm cX2_readTerm 7 (some .boolean)]
def wsX2_numerator_r2 : List Cond := [Cond.methodLink RX2 212 yX0_takes, Cond.instanceMethod yX0_takes, Cond.selects RX0 yX0_takes yX0_takes, Cond.initialized RX0, Cond.code yX0_takes cX0_takes 3 (some .boolean), Cond.fieldLink RX0 9 "PartsDesk$Draft" "characters" "[C", Cond.fieldLink RX0 19 "PartsDesk$Draft" "next" "I", Cond.methodLink RX0 22 yX0_isAtEnd, Cond.instanceMethod yX0_isAtEnd, Cond.selects RX0 yX0_isAtEnd yX0_isAtEnd, Cond.code yX0_isAtEnd cX0_isAtEnd 1 (some .boolean), Cond.fieldLink RX0 15 "PartsDesk$Draft" "length" "I", Cond.methodLink RX2 215 yX2_readNumber, Cond.instanceMethod yX2_readNumber, Cond.selects RX2 yX2_readNumber yX2_readNumber, Cond.code yX2_readNumber cX2_readNumber 3 (some .int), Cond.methodLink RX2 225 yX0_takeDigit, Cond.instanceMethod yX0_takeDigit, Cond.selects RX0 yX0_takeDigit yX0_takeDigit, Cond.code yX0_takeDigit cX0_takeDigit 4 (some .int), Cond.methodLink RX2 218 yX2_readPowerOfX, Cond.instanceMethod yX2_readPowerOfX, Cond.selects RX2 yX2_readPowerOfX yX2_readPowerOfX, Cond.code yX2_readPowerOfX cX2_readPowerOfX 1 (some .int)]
def wsX2_numerator_r3 : List Cond := [Cond.methodLink RX2 221 yX1_add, Cond.instanceMethod yX1_add, Cond.selects RX1 yX1_add yX1_add, Cond.code yX1_add cX1_add 4 none, Cond.methodLink RX2 209 yX0_isAtEnd, Cond.methodLink RX2 63 yX0_empty, Cond.instanceMethod yX0_empty, Cond.selects RX0 yX0_empty yX0_empty, Cond.code yX0_empty cX0_empty 1 none, Cond.methodLink RX2 73 yX1_become, Cond.instanceMethod yX1_become, Cond.selects RX1 yX1_become yX1_become, Cond.code yX1_become cX1_become 2 none, Cond.methodLink RX1 24 arraycopyName, Cond.native arraycopyName, Cond.static arraycopyName, Cond.initialized "java/lang/System", Cond.methodLink RX2 52 yX2_takeApart, Cond.instanceMethod yX2_takeApart, Cond.selects RX2 yX2_takeApart yX2_takeApart, Cond.code yX2_takeApart cX2_takeApart 4 none, Cond.fieldLink RX2 23 "PartsDesk" "below" "LPartsDesk$Polynomial;", Cond.fieldLink RX2 26 "PartsDesk" "quotient" "LPartsDesk$Polynomial;", Cond.fieldLink RX2 33 "PartsDesk" "partsAbove" "[J"]
def wsX2_numerator_r4 : List Cond := [Cond.fieldLink RX2 37 "PartsDesk" "partsBelow" "[J", Cond.methodLink RX2 172 yX1_becomeOne, Cond.instanceMethod yX1_becomeOne, Cond.selects RX1 yX1_becomeOne yX1_becomeOne, Cond.code yX1_becomeOne cX1_becomeOne 1 none, Cond.methodLink RX1 21 yX1_becomeZero, Cond.methodLink RX2 175 yJ7_fill_d0a16, Cond.methodLink RX2 109 yX2_many, Cond.instanceMethod yX2_many, Cond.selects RX2 yX2_many yX2_many, Cond.code yX2_many cX2_many 2 (some .int), Cond.fieldLink RX2 29 "PartsDesk" "often" "[I", Cond.methodLink RX2 105 yX2_isPossibleRoot, Cond.static yX2_isPossibleRoot, Cond.code yX2_isPossibleRoot cX2_isPossibleRoot 1 (some .boolean), Cond.methodLink RX2 181 yX1_multiplyByFactorOf, Cond.instanceMethod yX1_multiplyByFactorOf, Cond.selects RX1 yX1_multiplyByFactorOf yX1_multiplyByFactorOf, Cond.code yX1_multiplyByFactorOf cX1_multiplyByFactorOf 3 none, Cond.methodLink RX2 185 yX1_divideByFactorOf, Cond.instanceMethod yX1_divideByFactorOf, Cond.selects RX1 yX1_divideByFactorOf yX1_divideByFactorOf, Cond.code yX1_divideByFactorOf cX1_divideByFactorOf 7 (some .long), Cond.methodLink RX2 188 yX2_makePartsOf]
def wsX2_numerator_r5 : List Cond := [Cond.instanceMethod yX2_makePartsOf, Cond.selects RX2 yX2_makePartsOf yX2_makePartsOf, Cond.code yX2_makePartsOf cX2_makePartsOf 9 none, Cond.fieldLink RX2 46 "PartsDesk" "rest" "LPartsDesk$Polynomial;", Cond.fieldLink RX2 49 "PartsDesk" "otherFactors" "LPartsDesk$Polynomial;", Cond.methodLink RX2 191 yX2_multiplyOtherFactors, Cond.instanceMethod yX2_multiplyOtherFactors, Cond.selects RX2 yX2_multiplyOtherFactors yX2_multiplyOtherFactors, Cond.code yX2_multiplyOtherFactors cX2_multiplyOtherFactors 5 none, Cond.methodLink RX2 194 yX2_keepPart, Cond.instanceMethod yX2_keepPart, Cond.selects RX2 yX2_keepPart yX2_keepPart, Cond.code yX2_keepPart cX2_keepPart 8 none, Cond.methodLink RX2 158 yX2_placeOfPart, Cond.static yX2_placeOfPart, Cond.code yX2_placeOfPart cX2_placeOfPart 3 (some .int), Cond.methodLink RX2 131 yX2_inLowestTerms, Cond.static yX2_inLowestTerms, Cond.code yX2_inLowestTerms cX2_inLowestTerms 9 (some .long), Cond.methodLink RX2 162 yX2_commonDivisor, Cond.static yX2_commonDivisor, Cond.code yX2_commonDivisor cX2_commonDivisor 11 (some .long), Cond.methodLink RX2 166 Lib.MathLoose.abs_long.x, Cond.static Lib.MathLoose.abs_long.x]
def wsX2_numerator_r6 : List Cond := [Cond.initialized "java/lang/Math", Cond.code Lib.MathLoose.abs_long.x Lib.MathLoose.abs_long.code 2 (some .long), Cond.methodLink RX2 198 yX1_mix, Cond.instanceMethod yX1_mix, Cond.selects RX1 yX1_mix yX1_mix, Cond.code yX1_mix cX1_mix 7 none, Cond.methodLink RX2 77 yX1_degree, Cond.instanceMethod yX1_degree, Cond.selects RX1 yX1_degree yX1_degree, Cond.code yX1_degree cX1_degree 2 (some .int)]
def wsX2_numerator : List Cond := .code yX2_numerator cX2_numerator 2 (some .int) :: ((wsX2_numerator_r1 ++ (wsX2_numerator_r2 ++ (wsX2_numerator_r3 ++ (wsX2_numerator_r4 ++ (wsX2_numerator_r5 ++ wsX2_numerator_r6))))) ++ wsX20 ++ wsX10 ++ wsX00 ++ (vx_atS RX2 70 "java/lang/IllegalArgumentException" ["java/lang/RuntimeException", "java/lang/Exception"]).filter goodWord)
def wsJ7_fill_53178 : List Cond := .code yJ7_fill_53178 cJ7_fill_53178 4 none :: ([])
def wsX2_readRoot : List Cond := .code yX2_readRoot cX2_readRoot 3 (some .int) :: ([.fieldLink RX2 12 "PartsDesk" "draft" "LPartsDesk$Draft;", .methodLink RX2 212 yX0_takes, .instanceMethod yX0_takes, .selects RX0 yX0_takes yX0_takes, .initialized RX0, .code yX0_takes cX0_takes 3 (some .boolean), .fieldLink RX0 9 "PartsDesk$Draft" "characters" "[C", .fieldLink RX0 19 "PartsDesk$Draft" "next" "I", .methodLink RX0 22 yX0_isAtEnd, .instanceMethod yX0_isAtEnd, .selects RX0 yX0_isAtEnd yX0_isAtEnd, .code yX0_isAtEnd cX0_isAtEnd 1 (some .boolean), .fieldLink RX0 15 "PartsDesk$Draft" "length" "I", .methodLink RX2 225 yX0_takeDigit, .instanceMethod yX0_takeDigit, .selects RX0 yX0_takeDigit yX0_takeDigit, .code yX0_takeDigit cX0_takeDigit 4 (some .int)] ++ wsX20 ++ wsX00)
def wsX2_readFactor_r1 : List Cond := [Cond.fieldLink RX2 12 "PartsDesk" "draft" "LPartsDesk$Draft;", Cond.fieldLink RX2 43 "PartsDesk" "readOften" "[I", Cond.methodLink RX2 212 yX0_takes, Cond.instanceMethod yX0_takes, Cond.selects RX0 yX0_takes yX0_takes, Cond.initialized RX0, Cond.code yX0_takes cX0_takes 3 (some .boolean), Cond.fieldLink RX0 9 "PartsDesk$Draft" "characters" "[C", Cond.fieldLink RX0 19 "PartsDesk$Draft" "next" "I", Cond.methodLink RX0 22 yX0_isAtEnd, Cond.instanceMethod yX0_isAtEnd, Cond.selects RX0 yX0_isAtEnd yX0_isAtEnd, Cond.code yX0_isAtEnd cX0_isAtEnd 1 (some .boolean), Cond.fieldLink RX0 15 "PartsDesk$Draft" "length" "I", Cond.methodLink RX2 234 yX2_readRoot, Cond.instanceMethod yX2_readRoot, Cond.selects RX2 yX2_readRoot yX2_readRoot, Cond.initialized RX2, Cond.code yX2_readRoot cX2_readRoot 3 (some .int), Cond.methodLink RX2 225 yX0_takeDigit, Cond.instanceMethod yX0_takeDigit, Cond.selects RX0 yX0_takeDigit yX0_takeDigit, Cond.code yX0_takeDigit cX0_takeDigit 4 (some .int), Cond.methodLink RX2 105 yX2_isPossibleRoot]
def wsX2_readFactor_r2 : List Cond := [Cond.static yX2_isPossibleRoot, Cond.code yX2_isPossibleRoot cX2_isPossibleRoot 1 (some .boolean)]
def wsX2_readFactor : List Cond := .code yX2_readFactor cX2_readFactor 3 (some .boolean) :: ((wsX2_readFactor_r1 ++ wsX2_readFactor_r2) ++ wsX20 ++ wsX00)
def wsX2_readProduct_r1 : List Cond := [Cond.fieldLink RX2 43 "PartsDesk" "readOften" "[I", Cond.fieldLink RX2 12 "PartsDesk" "draft" "LPartsDesk$Draft;", Cond.methodLink RX2 228 yJ7_fill_53178, Cond.static yJ7_fill_53178, Cond.initialized RJ7, Cond.code yJ7_fill_53178 cJ7_fill_53178 4 none, Cond.methodLink RX2 231 yX2_readFactor, Cond.instanceMethod yX2_readFactor, Cond.selects RX2 yX2_readFactor yX2_readFactor, Cond.initialized RX2, Cond.code yX2_readFactor cX2_readFactor 3 (some .boolean), Cond.methodLink RX2 212 yX0_takes, Cond.instanceMethod yX0_takes, Cond.selects RX0 yX0_takes yX0_takes, Cond.initialized RX0, Cond.code yX0_takes cX0_takes 3 (some .boolean), Cond.fieldLink RX0 9 "PartsDesk$Draft" "characters" "[C", Cond.fieldLink RX0 19 "PartsDesk$Draft" "next" "I", Cond.methodLink RX0 22 yX0_isAtEnd, Cond.instanceMethod yX0_isAtEnd, Cond.selects RX0 yX0_isAtEnd yX0_isAtEnd, Cond.code yX0_isAtEnd cX0_isAtEnd 1 (some .boolean), Cond.fieldLink RX0 15 "PartsDesk$Draft" "length" "I", Cond.methodLink RX2 234 yX2_readRoot]
def wsX2_readProduct_r2 : List Cond := [Cond.instanceMethod yX2_readRoot, Cond.selects RX2 yX2_readRoot yX2_readRoot, Cond.code yX2_readRoot cX2_readRoot 3 (some .int), Cond.methodLink RX2 225 yX0_takeDigit, Cond.instanceMethod yX0_takeDigit, Cond.selects RX0 yX0_takeDigit yX0_takeDigit, Cond.code yX0_takeDigit cX0_takeDigit 4 (some .int), Cond.methodLink RX2 105 yX2_isPossibleRoot, Cond.static yX2_isPossibleRoot, Cond.code yX2_isPossibleRoot cX2_isPossibleRoot 1 (some .boolean), Cond.methodLink RX2 209 yX0_isAtEnd]
def wsX2_readProduct : List Cond := .code yX2_readProduct cX2_readProduct 3 (some .boolean) :: ((wsX2_readProduct_r1 ++ wsX2_readProduct_r2) ++ wsX20 ++ wsX00)
def wsX2_sum : List Cond := .code yX2_sum cX2_sum 6 (some .int) :: ([])
def wsX2_denominator_r1 : List Cond := [Cond.classLink RX2 66 "java/lang/IllegalArgumentException", Cond.initialized "java/lang/IllegalArgumentException", Cond.classLink RX2 90 "java/lang/IllegalStateException", Cond.initialized "java/lang/IllegalStateException", Cond.fieldLink RX2 12 "PartsDesk" "draft" "LPartsDesk$Draft;", Cond.fieldLink RX2 43 "PartsDesk" "readOften" "[I", Cond.fieldLink RX2 29 "PartsDesk" "often" "[I", Cond.methodLink RX2 95 arraycopyName, Cond.native arraycopyName, Cond.static arraycopyName, Cond.initialized "java/lang/System", Cond.fieldLink RX2 23 "PartsDesk" "below" "LPartsDesk$Polynomial;", Cond.methodLink RX2 81 yX2_readProduct, Cond.instanceMethod yX2_readProduct, Cond.selects RX2 yX2_readProduct yX2_readProduct, Cond.initialized RX2, Cond.code yX2_readProduct cX2_readProduct 3 (some .boolean), Cond.methodLink RX2 228 yJ7_fill_53178, Cond.static yJ7_fill_53178, Cond.initialized RJ7, Cond.code yJ7_fill_53178 cJ7_fill_53178 4 none, Cond.methodLink RX2 231 yX2_readFactor, Cond.instanceMethod yX2_readFactor, Cond.selects RX2 yX2_readFactor yX2_readFactor]
def wsX2_denominator_r2 : List Cond := [Cond.code yX2_readFactor cX2_readFactor 3 (some .boolean), Cond.methodLink RX2 212 yX0_takes, Cond.instanceMethod yX0_takes, Cond.selects RX0 yX0_takes yX0_takes, Cond.initialized RX0, Cond.code yX0_takes cX0_takes 3 (some .boolean), Cond.fieldLink RX0 9 "PartsDesk$Draft" "characters" "[C", Cond.fieldLink RX0 19 "PartsDesk$Draft" "next" "I", Cond.methodLink RX0 22 yX0_isAtEnd, Cond.instanceMethod yX0_isAtEnd, Cond.selects RX0 yX0_isAtEnd yX0_isAtEnd, Cond.code yX0_isAtEnd cX0_isAtEnd 1 (some .boolean), Cond.fieldLink RX0 15 "PartsDesk$Draft" "length" "I", Cond.methodLink RX2 234 yX2_readRoot, Cond.instanceMethod yX2_readRoot, Cond.selects RX2 yX2_readRoot yX2_readRoot, Cond.code yX2_readRoot cX2_readRoot 3 (some .int), Cond.methodLink RX2 225 yX0_takeDigit, Cond.instanceMethod yX0_takeDigit, Cond.selects RX0 yX0_takeDigit yX0_takeDigit, Cond.code yX0_takeDigit cX0_takeDigit 4 (some .int), Cond.methodLink RX2 105 yX2_isPossibleRoot, Cond.static yX2_isPossibleRoot, Cond.code yX2_isPossibleRoot cX2_isPossibleRoot 1 (some .boolean)]
def wsX2_denominator_r3 : List Cond := [Cond.methodLink RX2 209 yX0_isAtEnd, Cond.methodLink RX2 63 yX0_empty, Cond.instanceMethod yX0_empty, Cond.selects RX0 yX0_empty yX0_empty, Cond.code yX0_empty cX0_empty 1 none, Cond.methodLink RX2 86 yX2_sum, Cond.static yX2_sum, Cond.code yX2_sum cX2_sum 6 (some .int), Cond.methodLink RX2 52 yX2_takeApart, Cond.instanceMethod yX2_takeApart, Cond.selects RX2 yX2_takeApart yX2_takeApart, Cond.code yX2_takeApart cX2_takeApart 4 none, Cond.fieldLink RX2 26 "PartsDesk" "quotient" "LPartsDesk$Polynomial;", Cond.fieldLink RX2 19 "PartsDesk" "above" "LPartsDesk$Polynomial;", Cond.fieldLink RX2 33 "PartsDesk" "partsAbove" "[J", Cond.fieldLink RX2 37 "PartsDesk" "partsBelow" "[J", Cond.methodLink RX2 172 yX1_becomeOne, Cond.instanceMethod yX1_becomeOne, Cond.selects RX1 yX1_becomeOne yX1_becomeOne, Cond.initialized RX1, Cond.code yX1_becomeOne cX1_becomeOne 1 none, Cond.fieldLink RX1 9 "PartsDesk$Polynomial" "coefficients" "[J", Cond.methodLink RX1 21 yX1_becomeZero, Cond.instanceMethod yX1_becomeZero]
def wsX2_denominator_r4 : List Cond := [Cond.selects RX1 yX1_becomeZero yX1_becomeZero, Cond.code yX1_becomeZero cX1_becomeZero 1 none, Cond.methodLink RX1 15 yJ7_fill_d0a16, Cond.static yJ7_fill_d0a16, Cond.code yJ7_fill_d0a16 cJ7_fill_d0a16 5 none, Cond.methodLink RX2 73 yX1_become, Cond.instanceMethod yX1_become, Cond.selects RX1 yX1_become yX1_become, Cond.code yX1_become cX1_become 2 none, Cond.methodLink RX1 24 arraycopyName, Cond.methodLink RX2 175 yJ7_fill_d0a16, Cond.methodLink RX2 109 yX2_many, Cond.instanceMethod yX2_many, Cond.selects RX2 yX2_many yX2_many, Cond.code yX2_many cX2_many 2 (some .int), Cond.methodLink RX2 181 yX1_multiplyByFactorOf, Cond.instanceMethod yX1_multiplyByFactorOf, Cond.selects RX1 yX1_multiplyByFactorOf yX1_multiplyByFactorOf, Cond.code yX1_multiplyByFactorOf cX1_multiplyByFactorOf 3 none, Cond.methodLink RX2 185 yX1_divideByFactorOf, Cond.instanceMethod yX1_divideByFactorOf, Cond.selects RX1 yX1_divideByFactorOf yX1_divideByFactorOf, Cond.code yX1_divideByFactorOf cX1_divideByFactorOf 7 (some .long), Cond.methodLink RX2 188 yX2_makePartsOf]
def wsX2_denominator_r5 : List Cond := [Cond.instanceMethod yX2_makePartsOf, Cond.selects RX2 yX2_makePartsOf yX2_makePartsOf, Cond.code yX2_makePartsOf cX2_makePartsOf 9 none, Cond.fieldLink RX2 46 "PartsDesk" "rest" "LPartsDesk$Polynomial;", Cond.fieldLink RX2 49 "PartsDesk" "otherFactors" "LPartsDesk$Polynomial;", Cond.methodLink RX2 191 yX2_multiplyOtherFactors, Cond.instanceMethod yX2_multiplyOtherFactors, Cond.selects RX2 yX2_multiplyOtherFactors yX2_multiplyOtherFactors, Cond.code yX2_multiplyOtherFactors cX2_multiplyOtherFactors 5 none, Cond.methodLink RX2 194 yX2_keepPart, Cond.instanceMethod yX2_keepPart, Cond.selects RX2 yX2_keepPart yX2_keepPart, Cond.code yX2_keepPart cX2_keepPart 8 none, Cond.methodLink RX2 158 yX2_placeOfPart, Cond.static yX2_placeOfPart, Cond.code yX2_placeOfPart cX2_placeOfPart 3 (some .int), Cond.methodLink RX2 131 yX2_inLowestTerms, Cond.static yX2_inLowestTerms, Cond.code yX2_inLowestTerms cX2_inLowestTerms 9 (some .long), Cond.methodLink RX2 162 yX2_commonDivisor, Cond.static yX2_commonDivisor, Cond.code yX2_commonDivisor cX2_commonDivisor 11 (some .long), Cond.methodLink RX2 166 Lib.MathLoose.abs_long.x, Cond.static Lib.MathLoose.abs_long.x]
def wsX2_denominator_r6 : List Cond := [Cond.initialized "java/lang/Math", Cond.code Lib.MathLoose.abs_long.x Lib.MathLoose.abs_long.code 2 (some .long), Cond.methodLink RX2 198 yX1_mix, Cond.instanceMethod yX1_mix, Cond.selects RX1 yX1_mix yX1_mix, Cond.code yX1_mix cX1_mix 7 none, Cond.methodLink RX2 77 yX1_degree, Cond.instanceMethod yX1_degree, Cond.selects RX1 yX1_degree yX1_degree, Cond.code yX1_degree cX1_degree 2 (some .int)]
def wsX2_denominator : List Cond := .code yX2_denominator cX2_denominator 2 (some .int) :: ((wsX2_denominator_r1 ++ (wsX2_denominator_r2 ++ (wsX2_denominator_r3 ++ (wsX2_denominator_r4 ++ (wsX2_denominator_r5 ++ wsX2_denominator_r6))))) ++ wsX20 ++ wsX00 ++ wsX10 ++ (vx_atS RX2 70 "java/lang/IllegalArgumentException" ["java/lang/RuntimeException", "java/lang/Exception"]).filter goodWord ++ (vx_atS RX2 94 "java/lang/IllegalStateException" ["java/lang/RuntimeException", "java/lang/Exception"]).filter goodWord)
def wsX2_coefficient : List Cond := .code yX2_coefficient cX2_coefficient 3 (some .long) :: ([.fieldLink RX2 19 "PartsDesk" "above" "LPartsDesk$Polynomial;", .fieldLink RX2 23 "PartsDesk" "below" "LPartsDesk$Polynomial;", .fieldLink RX2 26 "PartsDesk" "quotient" "LPartsDesk$Polynomial;", .methodLink RX2 101 yX1_get, .instanceMethod yX1_get, .selects RX1 yX1_get yX1_get, .initialized RX1, .code yX1_get cX1_get 2 (some .long), .fieldLink RX1 9 "PartsDesk$Polynomial" "coefficients" "[J"] ++ wsX20 ++ wsX10)
def wsX2_isSide : List Cond := .code yX2_isSide cX2_isSide 1 (some .boolean) :: ([])
def wsX2_partAbove : List Cond := .code yX2_partAbove cX2_partAbove 4 (some .long) :: ([.fieldLink RX2 33 "PartsDesk" "partsAbove" "[J", .methodLink RX2 158 yX2_placeOfPart, .static yX2_placeOfPart, .initialized RX2, .code yX2_placeOfPart cX2_placeOfPart 3 (some .int), .methodLink RX2 105 yX2_isPossibleRoot, .static yX2_isPossibleRoot, .code yX2_isPossibleRoot cX2_isPossibleRoot 1 (some .boolean)] ++ wsX20)
def wsX2_partBelow : List Cond := .code yX2_partBelow cX2_partBelow 4 (some .long) :: ([.fieldLink RX2 37 "PartsDesk" "partsBelow" "[J", .methodLink RX2 158 yX2_placeOfPart, .static yX2_placeOfPart, .initialized RX2, .code yX2_placeOfPart cX2_placeOfPart 3 (some .int), .methodLink RX2 105 yX2_isPossibleRoot, .static yX2_isPossibleRoot, .code yX2_isPossibleRoot cX2_isPossibleRoot 1 (some .boolean)] ++ wsX20)
def wsX2_part_r1 : List Cond := [Cond.classLink RX2 66 "java/lang/IllegalArgumentException", Cond.initialized "java/lang/IllegalArgumentException", Cond.methodLink RX2 109 yX2_many, Cond.instanceMethod yX2_many, Cond.selects RX2 yX2_many yX2_many, Cond.initialized RX2, Cond.code yX2_many cX2_many 2 (some .int), Cond.fieldLink RX2 29 "PartsDesk" "often" "[I", Cond.methodLink RX2 105 yX2_isPossibleRoot, Cond.static yX2_isPossibleRoot, Cond.code yX2_isPossibleRoot cX2_isPossibleRoot 1 (some .boolean), Cond.methodLink RX2 113 yX2_isSide, Cond.static yX2_isSide, Cond.code yX2_isSide cX2_isSide 1 (some .boolean), Cond.methodLink RX2 118 yX2_partAbove, Cond.instanceMethod yX2_partAbove, Cond.selects RX2 yX2_partAbove yX2_partAbove, Cond.code yX2_partAbove cX2_partAbove 4 (some .long), Cond.fieldLink RX2 33 "PartsDesk" "partsAbove" "[J", Cond.methodLink RX2 158 yX2_placeOfPart, Cond.static yX2_placeOfPart, Cond.code yX2_placeOfPart cX2_placeOfPart 3 (some .int), Cond.methodLink RX2 122 yX2_partBelow, Cond.instanceMethod yX2_partBelow]
def wsX2_part_r2 : List Cond := [Cond.selects RX2 yX2_partBelow yX2_partBelow, Cond.code yX2_partBelow cX2_partBelow 4 (some .long), Cond.fieldLink RX2 37 "PartsDesk" "partsBelow" "[J"]
def wsX2_part : List Cond := .code yX2_part cX2_part 4 (some .long) :: ((wsX2_part_r1 ++ wsX2_part_r2) ++ wsX20 ++ (vx_atS RX2 70 "java/lang/IllegalArgumentException" ["java/lang/RuntimeException", "java/lang/Exception"]).filter goodWord)
def wsX2_isInIntegral : List Cond := .code yX2_isInIntegral cX2_isInIntegral 3 (some .boolean) :: ([.methodLink RX2 109 yX2_many, .instanceMethod yX2_many, .selects RX2 yX2_many yX2_many, .initialized RX2, .code yX2_many cX2_many 2 (some .int), .fieldLink RX2 29 "PartsDesk" "often" "[I", .methodLink RX2 105 yX2_isPossibleRoot, .static yX2_isPossibleRoot, .code yX2_isPossibleRoot cX2_isPossibleRoot 1 (some .boolean)] ++ wsX20)
def wsX2_integral_r1 : List Cond := [Cond.classLink RX2 66 "java/lang/IllegalArgumentException", Cond.initialized "java/lang/IllegalArgumentException", Cond.fieldLink RX2 26 "PartsDesk" "quotient" "LPartsDesk$Polynomial;", Cond.methodLink RX2 125 yX2_isInIntegral, Cond.instanceMethod yX2_isInIntegral, Cond.selects RX2 yX2_isInIntegral yX2_isInIntegral, Cond.initialized RX2, Cond.code yX2_isInIntegral cX2_isInIntegral 3 (some .boolean), Cond.methodLink RX2 109 yX2_many, Cond.instanceMethod yX2_many, Cond.selects RX2 yX2_many yX2_many, Cond.code yX2_many cX2_many 2 (some .int), Cond.fieldLink RX2 29 "PartsDesk" "often" "[I", Cond.methodLink RX2 105 yX2_isPossibleRoot, Cond.static yX2_isPossibleRoot, Cond.code yX2_isPossibleRoot cX2_isPossibleRoot 1 (some .boolean), Cond.methodLink RX2 113 yX2_isSide, Cond.static yX2_isSide, Cond.code yX2_isSide cX2_isSide 1 (some .boolean), Cond.methodLink RX2 101 yX1_get, Cond.instanceMethod yX1_get, Cond.selects RX1 yX1_get yX1_get, Cond.initialized RX1, Cond.code yX1_get cX1_get 2 (some .long)]
def wsX2_integral_r2 : List Cond := [Cond.fieldLink RX1 9 "PartsDesk$Polynomial" "coefficients" "[J", Cond.methodLink RX2 131 yX2_inLowestTerms, Cond.static yX2_inLowestTerms, Cond.code yX2_inLowestTerms cX2_inLowestTerms 9 (some .long), Cond.methodLink RX2 162 yX2_commonDivisor, Cond.static yX2_commonDivisor, Cond.code yX2_commonDivisor cX2_commonDivisor 11 (some .long), Cond.methodLink RX2 166 Lib.MathLoose.abs_long.x, Cond.static Lib.MathLoose.abs_long.x, Cond.initialized "java/lang/Math", Cond.code Lib.MathLoose.abs_long.x Lib.MathLoose.abs_long.code 2 (some .long), Cond.methodLink RX2 118 yX2_partAbove, Cond.instanceMethod yX2_partAbove, Cond.selects RX2 yX2_partAbove yX2_partAbove, Cond.code yX2_partAbove cX2_partAbove 4 (some .long), Cond.fieldLink RX2 33 "PartsDesk" "partsAbove" "[J", Cond.methodLink RX2 158 yX2_placeOfPart, Cond.static yX2_placeOfPart, Cond.code yX2_placeOfPart cX2_placeOfPart 3 (some .int), Cond.methodLink RX2 122 yX2_partBelow, Cond.instanceMethod yX2_partBelow, Cond.selects RX2 yX2_partBelow yX2_partBelow, Cond.code yX2_partBelow cX2_partBelow 4 (some .long), Cond.fieldLink RX2 37 "PartsDesk" "partsBelow" "[J"]
def wsX2_integral : List Cond := .code yX2_integral cX2_integral 4 (some .long) :: ((wsX2_integral_r1 ++ wsX2_integral_r2) ++ wsX20 ++ wsX10 ++ (vx_atS RX2 70 "java/lang/IllegalArgumentException" ["java/lang/RuntimeException", "java/lang/Exception"]).filter goodWord)
def wsX2_value_r1 : List Cond := [Cond.classLink RX2 66 "java/lang/IllegalArgumentException", Cond.initialized "java/lang/IllegalArgumentException", Cond.fieldLink RX2 19 "PartsDesk" "above" "LPartsDesk$Polynomial;", Cond.fieldLink RX2 23 "PartsDesk" "below" "LPartsDesk$Polynomial;", Cond.methodLink RX2 109 yX2_many, Cond.instanceMethod yX2_many, Cond.selects RX2 yX2_many yX2_many, Cond.initialized RX2, Cond.code yX2_many cX2_many 2 (some .int), Cond.fieldLink RX2 29 "PartsDesk" "often" "[I", Cond.methodLink RX2 105 yX2_isPossibleRoot, Cond.static yX2_isPossibleRoot, Cond.code yX2_isPossibleRoot cX2_isPossibleRoot 1 (some .boolean), Cond.methodLink RX2 113 yX2_isSide, Cond.static yX2_isSide, Cond.code yX2_isSide cX2_isSide 1 (some .boolean), Cond.methodLink RX2 137 yX1_exactlyAt, Cond.instanceMethod yX1_exactlyAt, Cond.selects RX1 yX1_exactlyAt yX1_exactlyAt, Cond.initialized RX1, Cond.code yX1_exactlyAt cX1_exactlyAt 5 (some .long), Cond.fieldLink RX1 9 "PartsDesk$Polynomial" "coefficients" "[J", Cond.methodLink RX2 131 yX2_inLowestTerms, Cond.static yX2_inLowestTerms]
def wsX2_value_r2 : List Cond := [Cond.code yX2_inLowestTerms cX2_inLowestTerms 9 (some .long), Cond.methodLink RX2 162 yX2_commonDivisor, Cond.static yX2_commonDivisor, Cond.code yX2_commonDivisor cX2_commonDivisor 11 (some .long), Cond.methodLink RX2 166 Lib.MathLoose.abs_long.x, Cond.static Lib.MathLoose.abs_long.x, Cond.initialized "java/lang/Math", Cond.code Lib.MathLoose.abs_long.x Lib.MathLoose.abs_long.code 2 (some .long)]
def wsX2_value : List Cond := .code yX2_value cX2_value 3 (some .long) :: ((wsX2_value_r1 ++ wsX2_value_r2) ++ wsX20 ++ wsX10 ++ (vx_atS RX2 70 "java/lang/IllegalArgumentException" ["java/lang/RuntimeException", "java/lang/Exception"]).filter goodWord)
def wsX2_isNear : List Cond := .code yX2_isNear cX2_isNear 2 (some .boolean) :: ([.constantDouble RX2 154 (13860109328209412096), .constantDouble RX2 156 (4636737291354636288)])
def wsX2_at : List Cond := .code yX2_at cX2_at 5 (some .double) :: ([.classLink RX2 66 "java/lang/IllegalArgumentException", .initialized "java/lang/IllegalArgumentException", .fieldLink RX2 23 "PartsDesk" "below" "LPartsDesk$Polynomial;", .fieldLink RX2 19 "PartsDesk" "above" "LPartsDesk$Polynomial;", .methodLink RX2 140 yX2_isNear, .static yX2_isNear, .initialized RX2, .code yX2_isNear cX2_isNear 2 (some .boolean), .constantDouble RX2 154 (13860109328209412096), .constantDouble RX2 156 (4636737291354636288), .methodLink RX2 146 yX1_inDoublesAt, .instanceMethod yX1_inDoublesAt, .selects RX1 yX1_inDoublesAt yX1_inDoublesAt, .initialized RX1, .code yX1_inDoublesAt cX1_inDoublesAt 6 (some .double), .fieldLink RX1 9 "PartsDesk$Polynomial" "coefficients" "[J"] ++ wsX20 ++ wsX10 ++ (vx_atS RX2 70 "java/lang/IllegalArgumentException" ["java/lang/RuntimeException", "java/lang/Exception"]).filter goodWord)
def wsX2_withPartsOf : List Cond := .code yX2_withPartsOf cX2_withPartsOf 14 (some .double) :: ([.methodLink RX2 109 yX2_many, .instanceMethod yX2_many, .selects RX2 yX2_many yX2_many, .initialized RX2, .code yX2_many cX2_many 2 (some .int), .fieldLink RX2 29 "PartsDesk" "often" "[I", .methodLink RX2 105 yX2_isPossibleRoot, .static yX2_isPossibleRoot, .code yX2_isPossibleRoot cX2_isPossibleRoot 1 (some .boolean), .methodLink RX2 118 yX2_partAbove, .instanceMethod yX2_partAbove, .selects RX2 yX2_partAbove yX2_partAbove, .code yX2_partAbove cX2_partAbove 4 (some .long), .fieldLink RX2 33 "PartsDesk" "partsAbove" "[J", .methodLink RX2 158 yX2_placeOfPart, .static yX2_placeOfPart, .code yX2_placeOfPart cX2_placeOfPart 3 (some .int), .methodLink RX2 122 yX2_partBelow, .instanceMethod yX2_partBelow, .selects RX2 yX2_partBelow yX2_partBelow, .code yX2_partBelow cX2_partBelow 4 (some .long), .fieldLink RX2 37 "PartsDesk" "partsBelow" "[J"] ++ wsX20)
def wsX2_byParts_r1 : List Cond := [Cond.classLink RX2 66 "java/lang/IllegalArgumentException", Cond.initialized "java/lang/IllegalArgumentException", Cond.fieldLink RX2 26 "PartsDesk" "quotient" "LPartsDesk$Polynomial;", Cond.methodLink RX2 140 yX2_isNear, Cond.static yX2_isNear, Cond.initialized RX2, Cond.code yX2_isNear cX2_isNear 2 (some .boolean), Cond.constantDouble RX2 154 (13860109328209412096), Cond.constantDouble RX2 156 (4636737291354636288), Cond.methodLink RX2 146 yX1_inDoublesAt, Cond.instanceMethod yX1_inDoublesAt, Cond.selects RX1 yX1_inDoublesAt yX1_inDoublesAt, Cond.initialized RX1, Cond.code yX1_inDoublesAt cX1_inDoublesAt 6 (some .double), Cond.fieldLink RX1 9 "PartsDesk$Polynomial" "coefficients" "[J", Cond.methodLink RX2 150 yX2_withPartsOf, Cond.instanceMethod yX2_withPartsOf, Cond.selects RX2 yX2_withPartsOf yX2_withPartsOf, Cond.code yX2_withPartsOf cX2_withPartsOf 14 (some .double), Cond.methodLink RX2 109 yX2_many, Cond.instanceMethod yX2_many, Cond.selects RX2 yX2_many yX2_many, Cond.code yX2_many cX2_many 2 (some .int), Cond.fieldLink RX2 29 "PartsDesk" "often" "[I"]
def wsX2_byParts_r2 : List Cond := [Cond.methodLink RX2 105 yX2_isPossibleRoot, Cond.static yX2_isPossibleRoot, Cond.code yX2_isPossibleRoot cX2_isPossibleRoot 1 (some .boolean), Cond.methodLink RX2 118 yX2_partAbove, Cond.instanceMethod yX2_partAbove, Cond.selects RX2 yX2_partAbove yX2_partAbove, Cond.code yX2_partAbove cX2_partAbove 4 (some .long), Cond.fieldLink RX2 33 "PartsDesk" "partsAbove" "[J", Cond.methodLink RX2 158 yX2_placeOfPart, Cond.static yX2_placeOfPart, Cond.code yX2_placeOfPart cX2_placeOfPart 3 (some .int), Cond.methodLink RX2 122 yX2_partBelow, Cond.instanceMethod yX2_partBelow, Cond.selects RX2 yX2_partBelow yX2_partBelow, Cond.code yX2_partBelow cX2_partBelow 4 (some .long), Cond.fieldLink RX2 37 "PartsDesk" "partsBelow" "[J"]
def wsX2_byParts : List Cond := .code yX2_byParts cX2_byParts 6 (some .double) :: ((wsX2_byParts_r1 ++ wsX2_byParts_r2) ++ wsX20 ++ wsX10 ++ (vx_atS RX2 70 "java/lang/IllegalArgumentException" ["java/lang/RuntimeException", "java/lang/Exception"]).filter goodWord)
def wsX3_init : List Cond := .code yX3_init cX3_init 1 none :: ([.methodLink RX3 1 objectInit, .instanceMethod objectInit, .code objectInit ⟨#[0xb1]⟩ 1 none, .arrayClass .char, .fieldLink RX3 7 "PartsDeskModel" "draft" "[C", .arrayClass .long, .fieldLink RX3 13 "PartsDeskModel" "top" "[J", .fieldLink RX3 17 "PartsDeskModel" "low" "[J", .fieldLink RX3 20 "PartsDeskModel" "quotient" "[J", .fieldLink RX3 23 "PartsDeskModel" "degree" "I", .arrayClass .int, .fieldLink RX3 27 "PartsDeskModel" "many" "[I", .fieldLink RX3 31 "PartsDeskModel" "fresh" "[I", .fieldLink RX3 34 "PartsDeskModel" "near" "[J", .fieldLink RX3 37 "PartsDeskModel" "rest" "[J", .fieldLink RX3 40 "PartsDeskModel" "row" "[J", .fieldLink RX3 43 "PartsDeskModel" "read" "[J"] ++ wsX30)
def wsX3_thrown : List Cond := .code yX3_thrown cX3_thrown 1 (some .int) :: ([.fieldLink RX3 46 "PartsDeskModel" "fault" "I"] ++ wsX30)
def wsX3_fails : List Cond := .code yX3_fails cX3_fails 2 (some .int) :: ([.fieldLink RX3 46 "PartsDeskModel" "fault" "I"] ++ wsX30)
def wsX3_write : List Cond := .code yX3_write cX3_write 2 (some .boolean) :: ([.fieldLink RX3 46 "PartsDeskModel" "fault" "I", .fieldLink RX3 49 "PartsDeskModel" "drafted" "I", .fieldLink RX3 7 "PartsDeskModel" "draft" "[C"] ++ wsX30)
def wsX3_look : List Cond := .code yX3_look cX3_look 1 (some .char) :: ([.fieldLink RX3 52 "PartsDeskModel" "at" "I", .fieldLink RX3 49 "PartsDeskModel" "drafted" "I", .fieldLink RX3 7 "PartsDeskModel" "draft" "[C"] ++ wsX30)
def wsX3_pass : List Cond := .code yX3_pass cX3_pass 3 (some .boolean) :: ([.fieldLink RX3 52 "PartsDeskModel" "at" "I", .methodLink RX3 55 yX3_look, .instanceMethod yX3_look, .selects RX3 yX3_look yX3_look, .initialized RX3, .code yX3_look cX3_look 1 (some .char), .fieldLink RX3 49 "PartsDeskModel" "drafted" "I", .fieldLink RX3 7 "PartsDeskModel" "draft" "[C"] ++ wsX30)
def wsX3_isDigit : List Cond := .code yX3_isDigit cX3_isDigit 1 (some .boolean) :: ([.methodLink RX3 55 yX3_look, .instanceMethod yX3_look, .selects RX3 yX3_look yX3_look, .initialized RX3, .code yX3_look cX3_look 1 (some .char), .fieldLink RX3 52 "PartsDeskModel" "at" "I", .fieldLink RX3 49 "PartsDeskModel" "drafted" "I", .fieldLink RX3 7 "PartsDeskModel" "draft" "[C"] ++ wsX30)
def wsX3_digit : List Cond := .code yX3_digit cX3_digit 1 (some .int) :: ([.fieldLink RX3 52 "PartsDeskModel" "at" "I", .fieldLink RX3 7 "PartsDeskModel" "draft" "[C"] ++ wsX30)
def wsX3_readTerm : List Cond := .code yX3_readTerm cX3_readTerm 8 (some .boolean) :: ([.constantLong RX3 67 (10), .fieldLink RX3 43 "PartsDeskModel" "read" "[J", .methodLink RX3 59 yX3_isDigit, .instanceMethod yX3_isDigit, .selects RX3 yX3_isDigit yX3_isDigit, .initialized RX3, .code yX3_isDigit cX3_isDigit 1 (some .boolean), .methodLink RX3 55 yX3_look, .instanceMethod yX3_look, .selects RX3 yX3_look yX3_look, .code yX3_look cX3_look 1 (some .char), .fieldLink RX3 52 "PartsDeskModel" "at" "I", .fieldLink RX3 49 "PartsDeskModel" "drafted" "I", .fieldLink RX3 7 "PartsDeskModel" "draft" "[C", .methodLink RX3 63 yX3_digit, .instanceMethod yX3_digit, .selects RX3 yX3_digit yX3_digit, .code yX3_digit cX3_digit 1 (some .int), .methodLink RX3 69 yX3_pass, .instanceMethod yX3_pass, .selects RX3 yX3_pass yX3_pass, .code yX3_pass cX3_pass 3 (some .boolean)] ++ wsX30)
def wsX3_readPolynomial_r1 : List Cond := [Cond.fieldLink RX3 52 "PartsDeskModel" "at" "I", Cond.fieldLink RX3 43 "PartsDeskModel" "read" "[J", Cond.constantLong RX3 73 (-1), Cond.fieldLink RX3 49 "PartsDeskModel" "drafted" "I", Cond.methodLink RX3 69 yX3_pass, Cond.instanceMethod yX3_pass, Cond.selects RX3 yX3_pass yX3_pass, Cond.initialized RX3, Cond.code yX3_pass cX3_pass 3 (some .boolean), Cond.methodLink RX3 55 yX3_look, Cond.instanceMethod yX3_look, Cond.selects RX3 yX3_look yX3_look, Cond.code yX3_look cX3_look 1 (some .char), Cond.fieldLink RX3 7 "PartsDeskModel" "draft" "[C", Cond.methodLink RX3 75 yX3_readTerm, Cond.instanceMethod yX3_readTerm, Cond.selects RX3 yX3_readTerm yX3_readTerm, Cond.code yX3_readTerm cX3_readTerm 8 (some .boolean), Cond.constantLong RX3 67 (10), Cond.methodLink RX3 59 yX3_isDigit, Cond.instanceMethod yX3_isDigit, Cond.selects RX3 yX3_isDigit yX3_isDigit, Cond.code yX3_isDigit cX3_isDigit 1 (some .boolean), Cond.methodLink RX3 63 yX3_digit]
def wsX3_readPolynomial_r2 : List Cond := [Cond.instanceMethod yX3_digit, Cond.selects RX3 yX3_digit yX3_digit, Cond.code yX3_digit cX3_digit 1 (some .int)]
def wsX3_readPolynomial : List Cond := .code yX3_readPolynomial cX3_readPolynomial 3 (some .boolean) :: ((wsX3_readPolynomial_r1 ++ wsX3_readPolynomial_r2) ++ wsX30)
def wsX3_numerator_r1 : List Cond := [Cond.fieldLink RX3 46 "PartsDeskModel" "fault" "I", Cond.fieldLink RX3 49 "PartsDeskModel" "drafted" "I", Cond.fieldLink RX3 13 "PartsDeskModel" "top" "[J", Cond.fieldLink RX3 43 "PartsDeskModel" "read" "[J", Cond.methodLink RX3 79 yX3_readPolynomial, Cond.instanceMethod yX3_readPolynomial, Cond.selects RX3 yX3_readPolynomial yX3_readPolynomial, Cond.initialized RX3, Cond.code yX3_readPolynomial cX3_readPolynomial 3 (some .boolean), Cond.fieldLink RX3 52 "PartsDeskModel" "at" "I", Cond.constantLong RX3 73 (-1), Cond.methodLink RX3 69 yX3_pass, Cond.instanceMethod yX3_pass, Cond.selects RX3 yX3_pass yX3_pass, Cond.code yX3_pass cX3_pass 3 (some .boolean), Cond.methodLink RX3 55 yX3_look, Cond.instanceMethod yX3_look, Cond.selects RX3 yX3_look yX3_look, Cond.code yX3_look cX3_look 1 (some .char), Cond.fieldLink RX3 7 "PartsDeskModel" "draft" "[C", Cond.methodLink RX3 75 yX3_readTerm, Cond.instanceMethod yX3_readTerm, Cond.selects RX3 yX3_readTerm yX3_readTerm, Cond.code yX3_readTerm cX3_readTerm 8 (some .boolean)]
def wsX3_numerator_r2 : List Cond := [Cond.constantLong RX3 67 (10), Cond.methodLink RX3 59 yX3_isDigit, Cond.instanceMethod yX3_isDigit, Cond.selects RX3 yX3_isDigit yX3_isDigit, Cond.code yX3_isDigit cX3_isDigit 1 (some .boolean), Cond.methodLink RX3 63 yX3_digit, Cond.instanceMethod yX3_digit, Cond.selects RX3 yX3_digit yX3_digit, Cond.code yX3_digit cX3_digit 1 (some .int), Cond.methodLink RX3 82 yX3_fails, Cond.instanceMethod yX3_fails, Cond.selects RX3 yX3_fails yX3_fails, Cond.code yX3_fails cX3_fails 2 (some .int)]
def wsX3_numerator : List Cond := .code yX3_numerator cX3_numerator 4 (some .int) :: ((wsX3_numerator_r1 ++ wsX3_numerator_r2) ++ wsX30)
def wsX3_readFactor : List Cond := .code yX3_readFactor cX3_readFactor 4 (some .boolean) :: ([.fieldLink RX3 31 "PartsDeskModel" "fresh" "[I", .methodLink RX3 69 yX3_pass, .instanceMethod yX3_pass, .selects RX3 yX3_pass yX3_pass, .initialized RX3, .code yX3_pass cX3_pass 3 (some .boolean), .fieldLink RX3 52 "PartsDeskModel" "at" "I", .methodLink RX3 55 yX3_look, .instanceMethod yX3_look, .selects RX3 yX3_look yX3_look, .code yX3_look cX3_look 1 (some .char), .fieldLink RX3 49 "PartsDeskModel" "drafted" "I", .fieldLink RX3 7 "PartsDeskModel" "draft" "[C", .methodLink RX3 63 yX3_digit, .instanceMethod yX3_digit, .selects RX3 yX3_digit yX3_digit, .code yX3_digit cX3_digit 1 (some .int)] ++ wsX30)
def wsX3_times : List Cond := .code yX3_times cX3_times 3 none :: ([])
def wsX3_denominator_r1 : List Cond := [Cond.fieldLink RX3 46 "PartsDeskModel" "fault" "I", Cond.fieldLink RX3 52 "PartsDeskModel" "at" "I", Cond.fieldLink RX3 31 "PartsDeskModel" "fresh" "[I", Cond.fieldLink RX3 49 "PartsDeskModel" "drafted" "I", Cond.fieldLink RX3 23 "PartsDeskModel" "degree" "I", Cond.fieldLink RX3 17 "PartsDeskModel" "low" "[J", Cond.fieldLink RX3 27 "PartsDeskModel" "many" "[I", Cond.methodLink RX3 86 yX3_readFactor, Cond.instanceMethod yX3_readFactor, Cond.selects RX3 yX3_readFactor yX3_readFactor, Cond.initialized RX3, Cond.code yX3_readFactor cX3_readFactor 4 (some .boolean), Cond.methodLink RX3 69 yX3_pass, Cond.instanceMethod yX3_pass, Cond.selects RX3 yX3_pass yX3_pass, Cond.code yX3_pass cX3_pass 3 (some .boolean), Cond.methodLink RX3 55 yX3_look, Cond.instanceMethod yX3_look, Cond.selects RX3 yX3_look yX3_look, Cond.code yX3_look cX3_look 1 (some .char), Cond.fieldLink RX3 7 "PartsDeskModel" "draft" "[C", Cond.methodLink RX3 63 yX3_digit, Cond.instanceMethod yX3_digit, Cond.selects RX3 yX3_digit yX3_digit]
def wsX3_denominator_r2 : List Cond := [Cond.code yX3_digit cX3_digit 1 (some .int), Cond.methodLink RX3 82 yX3_fails, Cond.instanceMethod yX3_fails, Cond.selects RX3 yX3_fails yX3_fails, Cond.code yX3_fails cX3_fails 2 (some .int), Cond.methodLink RX3 89 yX3_times, Cond.static yX3_times, Cond.code yX3_times cX3_times 3 none]
def wsX3_denominator : List Cond := .code yX3_denominator cX3_denominator 5 (some .int) :: ((wsX3_denominator_r1 ++ wsX3_denominator_r2) ++ wsX30)
def wsX3_divide : List Cond := .code yX3_divide cX3_divide 5 none :: ([.fieldLink RX3 34 "PartsDeskModel" "near" "[J", .fieldLink RX3 13 "PartsDeskModel" "top" "[J", .fieldLink RX3 20 "PartsDeskModel" "quotient" "[J", .fieldLink RX3 23 "PartsDeskModel" "degree" "I", .fieldLink RX3 17 "PartsDeskModel" "low" "[J"] ++ wsX30)
def wsX3_coefficient : List Cond := .code yX3_coefficient cX3_coefficient 3 (some .long) :: ([.fieldLink RX3 46 "PartsDeskModel" "fault" "I", .fieldLink RX3 13 "PartsDeskModel" "top" "[J", .fieldLink RX3 17 "PartsDeskModel" "low" "[J", .fieldLink RX3 20 "PartsDeskModel" "quotient" "[J", .methodLink RX3 93 yX3_divide, .instanceMethod yX3_divide, .selects RX3 yX3_divide yX3_divide, .initialized RX3, .code yX3_divide cX3_divide 5 none, .fieldLink RX3 34 "PartsDeskModel" "near" "[J", .fieldLink RX3 23 "PartsDeskModel" "degree" "I"] ++ wsX30)
def wsX3_many : List Cond := .code yX3_many cX3_many 2 (some .int) :: ([.fieldLink RX3 46 "PartsDeskModel" "fault" "I", .fieldLink RX3 27 "PartsDeskModel" "many" "[I"] ++ wsX30)
def wsX3_around : List Cond := .code yX3_around cX3_around 4 none :: ([.fieldLink RX3 34 "PartsDeskModel" "near" "[J", .fieldLink RX3 13 "PartsDeskModel" "top" "[J", .fieldLink RX3 37 "PartsDeskModel" "rest" "[J", .fieldLink RX3 27 "PartsDeskModel" "many" "[I", .methodLink RX3 89 yX3_times, .static yX3_times, .initialized RX3, .code yX3_times cX3_times 3 none] ++ wsX30)
def wsX3_tell : List Cond := .code yX3_tell cX3_tell 11 none :: ([.fieldLink RX3 96 "PartsDeskModel" "over" "J", .fieldLink RX3 100 "PartsDeskModel" "under" "J"] ++ wsX30)
def wsX3_work : List Cond := .code yX3_work cX3_work 11 none :: ([.fieldLink RX3 27 "PartsDeskModel" "many" "[I", .fieldLink RX3 34 "PartsDeskModel" "near" "[J", .fieldLink RX3 37 "PartsDeskModel" "rest" "[J", .fieldLink RX3 40 "PartsDeskModel" "row" "[J", .methodLink RX3 103 yX3_around, .instanceMethod yX3_around, .selects RX3 yX3_around yX3_around, .initialized RX3, .code yX3_around cX3_around 4 none, .fieldLink RX3 13 "PartsDeskModel" "top" "[J", .methodLink RX3 89 yX3_times, .static yX3_times, .code yX3_times cX3_times 3 none, .methodLink RX3 107 yX3_tell, .instanceMethod yX3_tell, .selects RX3 yX3_tell yX3_tell, .code yX3_tell cX3_tell 11 none, .fieldLink RX3 96 "PartsDeskModel" "over" "J", .fieldLink RX3 100 "PartsDeskModel" "under" "J"] ++ wsX30)
def wsX3_isPart : List Cond := .code yX3_isPart cX3_isPart 3 (some .boolean) :: ([.methodLink RX3 111 yX3_many, .instanceMethod yX3_many, .selects RX3 yX3_many yX3_many, .initialized RX3, .code yX3_many cX3_many 2 (some .int), .fieldLink RX3 46 "PartsDeskModel" "fault" "I", .fieldLink RX3 27 "PartsDeskModel" "many" "[I"] ++ wsX30)
def wsX3_part_r1 : List Cond := [Cond.fieldLink RX3 46 "PartsDeskModel" "fault" "I", Cond.fieldLink RX3 96 "PartsDeskModel" "over" "J", Cond.fieldLink RX3 100 "PartsDeskModel" "under" "J", Cond.methodLink RX3 113 yX3_isPart, Cond.instanceMethod yX3_isPart, Cond.selects RX3 yX3_isPart yX3_isPart, Cond.initialized RX3, Cond.code yX3_isPart cX3_isPart 3 (some .boolean), Cond.methodLink RX3 111 yX3_many, Cond.instanceMethod yX3_many, Cond.selects RX3 yX3_many yX3_many, Cond.code yX3_many cX3_many 2 (some .int), Cond.fieldLink RX3 27 "PartsDeskModel" "many" "[I", Cond.methodLink RX3 117 yX3_work, Cond.instanceMethod yX3_work, Cond.selects RX3 yX3_work yX3_work, Cond.code yX3_work cX3_work 11 none, Cond.fieldLink RX3 34 "PartsDeskModel" "near" "[J", Cond.fieldLink RX3 37 "PartsDeskModel" "rest" "[J", Cond.fieldLink RX3 40 "PartsDeskModel" "row" "[J", Cond.methodLink RX3 103 yX3_around, Cond.instanceMethod yX3_around, Cond.selects RX3 yX3_around yX3_around, Cond.code yX3_around cX3_around 4 none]
def wsX3_part_r2 : List Cond := [Cond.fieldLink RX3 13 "PartsDeskModel" "top" "[J", Cond.methodLink RX3 89 yX3_times, Cond.static yX3_times, Cond.code yX3_times cX3_times 3 none, Cond.methodLink RX3 107 yX3_tell, Cond.instanceMethod yX3_tell, Cond.selects RX3 yX3_tell yX3_tell, Cond.code yX3_tell cX3_tell 11 none]
def wsX3_part : List Cond := .code yX3_part cX3_part 5 (some .long) :: ((wsX3_part_r1 ++ wsX3_part_r2) ++ wsX30)
def wsX3_integral_r1 : List Cond := [Cond.fieldLink RX3 46 "PartsDeskModel" "fault" "I", Cond.fieldLink RX3 20 "PartsDeskModel" "quotient" "[J", Cond.fieldLink RX3 96 "PartsDeskModel" "over" "J", Cond.fieldLink RX3 100 "PartsDeskModel" "under" "J", Cond.methodLink RX3 111 yX3_many, Cond.instanceMethod yX3_many, Cond.selects RX3 yX3_many yX3_many, Cond.initialized RX3, Cond.code yX3_many cX3_many 2 (some .int), Cond.fieldLink RX3 27 "PartsDeskModel" "many" "[I", Cond.methodLink RX3 93 yX3_divide, Cond.instanceMethod yX3_divide, Cond.selects RX3 yX3_divide yX3_divide, Cond.code yX3_divide cX3_divide 5 none, Cond.fieldLink RX3 34 "PartsDeskModel" "near" "[J", Cond.fieldLink RX3 13 "PartsDeskModel" "top" "[J", Cond.fieldLink RX3 23 "PartsDeskModel" "degree" "I", Cond.fieldLink RX3 17 "PartsDeskModel" "low" "[J", Cond.methodLink RX3 107 yX3_tell, Cond.instanceMethod yX3_tell, Cond.selects RX3 yX3_tell yX3_tell, Cond.code yX3_tell cX3_tell 11 none, Cond.methodLink RX3 117 yX3_work, Cond.instanceMethod yX3_work]
def wsX3_integral_r2 : List Cond := [Cond.selects RX3 yX3_work yX3_work, Cond.code yX3_work cX3_work 11 none, Cond.fieldLink RX3 37 "PartsDeskModel" "rest" "[J", Cond.fieldLink RX3 40 "PartsDeskModel" "row" "[J", Cond.methodLink RX3 103 yX3_around, Cond.instanceMethod yX3_around, Cond.selects RX3 yX3_around yX3_around, Cond.code yX3_around cX3_around 4 none, Cond.methodLink RX3 89 yX3_times, Cond.static yX3_times, Cond.code yX3_times cX3_times 3 none]
def wsX3_integral : List Cond := .code yX3_integral cX3_integral 6 (some .long) :: ((wsX3_integral_r1 ++ wsX3_integral_r2) ++ wsX30)
def wsX3_valueOf : List Cond := .code yX3_valueOf cX3_valueOf 7 (some .long) :: ([])
def wsX3_value : List Cond := .code yX3_value cX3_value 4 (some .long) :: ([.fieldLink RX3 46 "PartsDeskModel" "fault" "I", .fieldLink RX3 13 "PartsDeskModel" "top" "[J", .fieldLink RX3 17 "PartsDeskModel" "low" "[J", .fieldLink RX3 96 "PartsDeskModel" "over" "J", .fieldLink RX3 100 "PartsDeskModel" "under" "J", .methodLink RX3 111 yX3_many, .instanceMethod yX3_many, .selects RX3 yX3_many yX3_many, .initialized RX3, .code yX3_many cX3_many 2 (some .int), .fieldLink RX3 27 "PartsDeskModel" "many" "[I", .methodLink RX3 121 yX3_valueOf, .static yX3_valueOf, .code yX3_valueOf cX3_valueOf 7 (some .long), .methodLink RX3 107 yX3_tell, .instanceMethod yX3_tell, .selects RX3 yX3_tell yX3_tell, .code yX3_tell cX3_tell 11 none] ++ wsX30)
def wsX3_valueAt : List Cond := .code yX3_valueAt cX3_valueAt 7 (some .double) :: ([])
def wsX3_isPlace : List Cond := .code yX3_isPlace cX3_isPlace 3 (some .boolean) :: ([.constantDouble RX3 125 (13860109328209412096), .constantDouble RX3 127 (4636737291354636288)])
def wsX3_at : List Cond := .code yX3_at cX3_at 5 (some .double) :: ([.fieldLink RX3 46 "PartsDeskModel" "fault" "I", .fieldLink RX3 17 "PartsDeskModel" "low" "[J", .fieldLink RX3 13 "PartsDeskModel" "top" "[J", .methodLink RX3 129 yX3_isPlace, .instanceMethod yX3_isPlace, .selects RX3 yX3_isPlace yX3_isPlace, .initialized RX3, .code yX3_isPlace cX3_isPlace 3 (some .boolean), .constantDouble RX3 125 (13860109328209412096), .constantDouble RX3 127 (4636737291354636288), .methodLink RX3 133 yX3_valueAt, .static yX3_valueAt, .code yX3_valueAt cX3_valueAt 7 (some .double)] ++ wsX30)
def wsX3_byParts_r1 : List Cond := [Cond.fieldLink RX3 46 "PartsDeskModel" "fault" "I", Cond.fieldLink RX3 20 "PartsDeskModel" "quotient" "[J", Cond.fieldLink RX3 27 "PartsDeskModel" "many" "[I", Cond.fieldLink RX3 96 "PartsDeskModel" "over" "J", Cond.fieldLink RX3 100 "PartsDeskModel" "under" "J", Cond.methodLink RX3 129 yX3_isPlace, Cond.instanceMethod yX3_isPlace, Cond.selects RX3 yX3_isPlace yX3_isPlace, Cond.initialized RX3, Cond.code yX3_isPlace cX3_isPlace 3 (some .boolean), Cond.constantDouble RX3 125 (13860109328209412096), Cond.constantDouble RX3 127 (4636737291354636288), Cond.methodLink RX3 93 yX3_divide, Cond.instanceMethod yX3_divide, Cond.selects RX3 yX3_divide yX3_divide, Cond.code yX3_divide cX3_divide 5 none, Cond.fieldLink RX3 34 "PartsDeskModel" "near" "[J", Cond.fieldLink RX3 13 "PartsDeskModel" "top" "[J", Cond.fieldLink RX3 23 "PartsDeskModel" "degree" "I", Cond.fieldLink RX3 17 "PartsDeskModel" "low" "[J", Cond.methodLink RX3 133 yX3_valueAt, Cond.static yX3_valueAt, Cond.code yX3_valueAt cX3_valueAt 7 (some .double), Cond.methodLink RX3 117 yX3_work]
def wsX3_byParts_r2 : List Cond := [Cond.instanceMethod yX3_work, Cond.selects RX3 yX3_work yX3_work, Cond.code yX3_work cX3_work 11 none, Cond.fieldLink RX3 37 "PartsDeskModel" "rest" "[J", Cond.fieldLink RX3 40 "PartsDeskModel" "row" "[J", Cond.methodLink RX3 103 yX3_around, Cond.instanceMethod yX3_around, Cond.selects RX3 yX3_around yX3_around, Cond.code yX3_around cX3_around 4 none, Cond.methodLink RX3 89 yX3_times, Cond.static yX3_times, Cond.code yX3_times cX3_times 3 none, Cond.methodLink RX3 107 yX3_tell, Cond.instanceMethod yX3_tell, Cond.selects RX3 yX3_tell yX3_tell, Cond.code yX3_tell cX3_tell 11 none]
def wsX3_byParts : List Cond := .code yX3_byParts cX3_byParts 9 (some .double) :: ((wsX3_byParts_r1 ++ wsX3_byParts_r2) ++ wsX30)
def wsJ9_abs_067f4 : List Cond := .code yJ9_abs_067f4 cJ9_abs_067f4 2 (some .long) :: ([])
def wsL_numerator_r1 : List Cond := [Cond.classLink RL 13 "java/lang/IllegalArgumentException", Cond.methodLink RL 7 yX2_numerator, Cond.instanceMethod yX2_numerator, Cond.selects RX2 yX2_numerator yX2_numerator, Cond.initialized RX2, Cond.code yX2_numerator cX2_numerator 2 (some .int), Cond.classLink RX2 66 "java/lang/IllegalArgumentException", Cond.initialized "java/lang/IllegalArgumentException", Cond.fieldLink RX2 12 "PartsDesk" "draft" "LPartsDesk$Draft;", Cond.fieldLink RX2 19 "PartsDesk" "above" "LPartsDesk$Polynomial;", Cond.fieldLink RX2 40 "PartsDesk" "readTerms" "LPartsDesk$Polynomial;", Cond.methodLink RX2 59 yX2_readPolynomial, Cond.instanceMethod yX2_readPolynomial, Cond.selects RX2 yX2_readPolynomial yX2_readPolynomial, Cond.code yX2_readPolynomial cX2_readPolynomial 3 (some .boolean), Cond.methodLink RX2 202 yX1_becomeZero, Cond.instanceMethod yX1_becomeZero, Cond.selects RX1 yX1_becomeZero yX1_becomeZero, Cond.initialized RX1, Cond.code yX1_becomeZero cX1_becomeZero 1 none, Cond.fieldLink RX1 9 "PartsDesk$Polynomial" "coefficients" "[J", Cond.methodLink RX1 15 yJ7_fill_d0a16, Cond.static yJ7_fill_d0a16, Cond.initialized RJ7]
def wsL_numerator_r2 : List Cond := [Cond.code yJ7_fill_d0a16 cJ7_fill_d0a16 5 none, Cond.methodLink RX2 205 yX2_readTerm, Cond.instanceMethod yX2_readTerm, Cond.selects RX2 yX2_readTerm yX2_readTerm, Cond.code yX2_readTerm cX2_readTerm 7 (some .boolean), Cond.methodLink RX2 212 yX0_takes, Cond.instanceMethod yX0_takes, Cond.selects RX0 yX0_takes yX0_takes, Cond.initialized RX0, Cond.code yX0_takes cX0_takes 3 (some .boolean), Cond.fieldLink RX0 9 "PartsDesk$Draft" "characters" "[C", Cond.fieldLink RX0 19 "PartsDesk$Draft" "next" "I", Cond.methodLink RX0 22 yX0_isAtEnd, Cond.instanceMethod yX0_isAtEnd, Cond.selects RX0 yX0_isAtEnd yX0_isAtEnd, Cond.code yX0_isAtEnd cX0_isAtEnd 1 (some .boolean), Cond.fieldLink RX0 15 "PartsDesk$Draft" "length" "I", Cond.methodLink RX2 215 yX2_readNumber, Cond.instanceMethod yX2_readNumber, Cond.selects RX2 yX2_readNumber yX2_readNumber, Cond.code yX2_readNumber cX2_readNumber 3 (some .int), Cond.methodLink RX2 225 yX0_takeDigit, Cond.instanceMethod yX0_takeDigit, Cond.selects RX0 yX0_takeDigit yX0_takeDigit]
def wsL_numerator_r3 : List Cond := [Cond.code yX0_takeDigit cX0_takeDigit 4 (some .int), Cond.methodLink RX2 218 yX2_readPowerOfX, Cond.instanceMethod yX2_readPowerOfX, Cond.selects RX2 yX2_readPowerOfX yX2_readPowerOfX, Cond.code yX2_readPowerOfX cX2_readPowerOfX 1 (some .int), Cond.methodLink RX2 221 yX1_add, Cond.instanceMethod yX1_add, Cond.selects RX1 yX1_add yX1_add, Cond.code yX1_add cX1_add 4 none, Cond.methodLink RX2 209 yX0_isAtEnd, Cond.methodLink RX2 63 yX0_empty, Cond.instanceMethod yX0_empty, Cond.selects RX0 yX0_empty yX0_empty, Cond.code yX0_empty cX0_empty 1 none, Cond.methodLink RX2 73 yX1_become, Cond.instanceMethod yX1_become, Cond.selects RX1 yX1_become yX1_become, Cond.code yX1_become cX1_become 2 none, Cond.methodLink RX1 24 arraycopyName, Cond.native arraycopyName, Cond.static arraycopyName, Cond.initialized "java/lang/System", Cond.methodLink RX2 52 yX2_takeApart, Cond.instanceMethod yX2_takeApart]
def wsL_numerator_r4 : List Cond := [Cond.selects RX2 yX2_takeApart yX2_takeApart, Cond.code yX2_takeApart cX2_takeApart 4 none, Cond.fieldLink RX2 23 "PartsDesk" "below" "LPartsDesk$Polynomial;", Cond.fieldLink RX2 26 "PartsDesk" "quotient" "LPartsDesk$Polynomial;", Cond.fieldLink RX2 33 "PartsDesk" "partsAbove" "[J", Cond.fieldLink RX2 37 "PartsDesk" "partsBelow" "[J", Cond.methodLink RX2 172 yX1_becomeOne, Cond.instanceMethod yX1_becomeOne, Cond.selects RX1 yX1_becomeOne yX1_becomeOne, Cond.code yX1_becomeOne cX1_becomeOne 1 none, Cond.methodLink RX1 21 yX1_becomeZero, Cond.methodLink RX2 175 yJ7_fill_d0a16, Cond.methodLink RX2 109 yX2_many, Cond.instanceMethod yX2_many, Cond.selects RX2 yX2_many yX2_many, Cond.code yX2_many cX2_many 2 (some .int), Cond.fieldLink RX2 29 "PartsDesk" "often" "[I", Cond.methodLink RX2 105 yX2_isPossibleRoot, Cond.static yX2_isPossibleRoot, Cond.code yX2_isPossibleRoot cX2_isPossibleRoot 1 (some .boolean), Cond.methodLink RX2 181 yX1_multiplyByFactorOf, Cond.instanceMethod yX1_multiplyByFactorOf, Cond.selects RX1 yX1_multiplyByFactorOf yX1_multiplyByFactorOf, Cond.code yX1_multiplyByFactorOf cX1_multiplyByFactorOf 3 none]
def wsL_numerator_r5 : List Cond := [Cond.methodLink RX2 185 yX1_divideByFactorOf, Cond.instanceMethod yX1_divideByFactorOf, Cond.selects RX1 yX1_divideByFactorOf yX1_divideByFactorOf, Cond.code yX1_divideByFactorOf cX1_divideByFactorOf 7 (some .long), Cond.methodLink RX2 188 yX2_makePartsOf, Cond.instanceMethod yX2_makePartsOf, Cond.selects RX2 yX2_makePartsOf yX2_makePartsOf, Cond.code yX2_makePartsOf cX2_makePartsOf 9 none, Cond.fieldLink RX2 46 "PartsDesk" "rest" "LPartsDesk$Polynomial;", Cond.fieldLink RX2 49 "PartsDesk" "otherFactors" "LPartsDesk$Polynomial;", Cond.methodLink RX2 191 yX2_multiplyOtherFactors, Cond.instanceMethod yX2_multiplyOtherFactors, Cond.selects RX2 yX2_multiplyOtherFactors yX2_multiplyOtherFactors, Cond.code yX2_multiplyOtherFactors cX2_multiplyOtherFactors 5 none, Cond.methodLink RX2 194 yX2_keepPart, Cond.instanceMethod yX2_keepPart, Cond.selects RX2 yX2_keepPart yX2_keepPart, Cond.code yX2_keepPart cX2_keepPart 8 none, Cond.methodLink RX2 158 yX2_placeOfPart, Cond.static yX2_placeOfPart, Cond.code yX2_placeOfPart cX2_placeOfPart 3 (some .int), Cond.methodLink RX2 131 yX2_inLowestTerms, Cond.static yX2_inLowestTerms, Cond.code yX2_inLowestTerms cX2_inLowestTerms 9 (some .long)]
def wsL_numerator_r6 : List Cond := [Cond.methodLink RX2 162 yX2_commonDivisor, Cond.static yX2_commonDivisor, Cond.code yX2_commonDivisor cX2_commonDivisor 11 (some .long), Cond.methodLink RX2 166 Lib.MathLoose.abs_long.x, Cond.static Lib.MathLoose.abs_long.x, Cond.initialized "java/lang/Math", Cond.code Lib.MathLoose.abs_long.x Lib.MathLoose.abs_long.code 2 (some .long), Cond.methodLink RX2 198 yX1_mix, Cond.instanceMethod yX1_mix, Cond.selects RX1 yX1_mix yX1_mix, Cond.code yX1_mix cX1_mix 7 none, Cond.methodLink RX2 77 yX1_degree, Cond.instanceMethod yX1_degree, Cond.selects RX1 yX1_degree yX1_degree, Cond.code yX1_degree cX1_degree 2 (some .int)]
def wsL_numerator : List Cond := .codeWith yL_numerator cL_numerator 3 (some .int) [(0, 8, 11, 13)] :: ((wsL_numerator_r1 ++ (wsL_numerator_r2 ++ (wsL_numerator_r3 ++ (wsL_numerator_r4 ++ (wsL_numerator_r5 ++ wsL_numerator_r6))))) ++ wsX20 ++ wsX10 ++ wsX00 ++ (vx_atS RX2 70 "java/lang/IllegalArgumentException" ["java/lang/RuntimeException", "java/lang/Exception"]).filter goodWord)
def wsL_denominator_r1 : List Cond := [Cond.classLink RL 13 "java/lang/IllegalArgumentException", Cond.classLink RL 18 "java/lang/IllegalStateException", Cond.methodLink RL 15 yX2_denominator, Cond.instanceMethod yX2_denominator, Cond.selects RX2 yX2_denominator yX2_denominator, Cond.initialized RX2, Cond.code yX2_denominator cX2_denominator 2 (some .int), Cond.classLink RX2 66 "java/lang/IllegalArgumentException", Cond.initialized "java/lang/IllegalArgumentException", Cond.classLink RX2 90 "java/lang/IllegalStateException", Cond.initialized "java/lang/IllegalStateException", Cond.fieldLink RX2 12 "PartsDesk" "draft" "LPartsDesk$Draft;", Cond.fieldLink RX2 43 "PartsDesk" "readOften" "[I", Cond.fieldLink RX2 29 "PartsDesk" "often" "[I", Cond.methodLink RX2 95 arraycopyName, Cond.native arraycopyName, Cond.static arraycopyName, Cond.initialized "java/lang/System", Cond.fieldLink RX2 23 "PartsDesk" "below" "LPartsDesk$Polynomial;", Cond.methodLink RX2 81 yX2_readProduct, Cond.instanceMethod yX2_readProduct, Cond.selects RX2 yX2_readProduct yX2_readProduct, Cond.code yX2_readProduct cX2_readProduct 3 (some .boolean), Cond.methodLink RX2 228 yJ7_fill_53178]
def wsL_denominator_r2 : List Cond := [Cond.static yJ7_fill_53178, Cond.initialized RJ7, Cond.code yJ7_fill_53178 cJ7_fill_53178 4 none, Cond.methodLink RX2 231 yX2_readFactor, Cond.instanceMethod yX2_readFactor, Cond.selects RX2 yX2_readFactor yX2_readFactor, Cond.code yX2_readFactor cX2_readFactor 3 (some .boolean), Cond.methodLink RX2 212 yX0_takes, Cond.instanceMethod yX0_takes, Cond.selects RX0 yX0_takes yX0_takes, Cond.initialized RX0, Cond.code yX0_takes cX0_takes 3 (some .boolean), Cond.fieldLink RX0 9 "PartsDesk$Draft" "characters" "[C", Cond.fieldLink RX0 19 "PartsDesk$Draft" "next" "I", Cond.methodLink RX0 22 yX0_isAtEnd, Cond.instanceMethod yX0_isAtEnd, Cond.selects RX0 yX0_isAtEnd yX0_isAtEnd, Cond.code yX0_isAtEnd cX0_isAtEnd 1 (some .boolean), Cond.fieldLink RX0 15 "PartsDesk$Draft" "length" "I", Cond.methodLink RX2 234 yX2_readRoot, Cond.instanceMethod yX2_readRoot, Cond.selects RX2 yX2_readRoot yX2_readRoot, Cond.code yX2_readRoot cX2_readRoot 3 (some .int), Cond.methodLink RX2 225 yX0_takeDigit]
def wsL_denominator_r3 : List Cond := [Cond.instanceMethod yX0_takeDigit, Cond.selects RX0 yX0_takeDigit yX0_takeDigit, Cond.code yX0_takeDigit cX0_takeDigit 4 (some .int), Cond.methodLink RX2 105 yX2_isPossibleRoot, Cond.static yX2_isPossibleRoot, Cond.code yX2_isPossibleRoot cX2_isPossibleRoot 1 (some .boolean), Cond.methodLink RX2 209 yX0_isAtEnd, Cond.methodLink RX2 63 yX0_empty, Cond.instanceMethod yX0_empty, Cond.selects RX0 yX0_empty yX0_empty, Cond.code yX0_empty cX0_empty 1 none, Cond.methodLink RX2 86 yX2_sum, Cond.static yX2_sum, Cond.code yX2_sum cX2_sum 6 (some .int), Cond.methodLink RX2 52 yX2_takeApart, Cond.instanceMethod yX2_takeApart, Cond.selects RX2 yX2_takeApart yX2_takeApart, Cond.code yX2_takeApart cX2_takeApart 4 none, Cond.fieldLink RX2 26 "PartsDesk" "quotient" "LPartsDesk$Polynomial;", Cond.fieldLink RX2 19 "PartsDesk" "above" "LPartsDesk$Polynomial;", Cond.fieldLink RX2 33 "PartsDesk" "partsAbove" "[J", Cond.fieldLink RX2 37 "PartsDesk" "partsBelow" "[J", Cond.methodLink RX2 172 yX1_becomeOne, Cond.instanceMethod yX1_becomeOne]
def wsL_denominator_r4 : List Cond := [Cond.selects RX1 yX1_becomeOne yX1_becomeOne, Cond.initialized RX1, Cond.code yX1_becomeOne cX1_becomeOne 1 none, Cond.fieldLink RX1 9 "PartsDesk$Polynomial" "coefficients" "[J", Cond.methodLink RX1 21 yX1_becomeZero, Cond.instanceMethod yX1_becomeZero, Cond.selects RX1 yX1_becomeZero yX1_becomeZero, Cond.code yX1_becomeZero cX1_becomeZero 1 none, Cond.methodLink RX1 15 yJ7_fill_d0a16, Cond.static yJ7_fill_d0a16, Cond.code yJ7_fill_d0a16 cJ7_fill_d0a16 5 none, Cond.methodLink RX2 73 yX1_become, Cond.instanceMethod yX1_become, Cond.selects RX1 yX1_become yX1_become, Cond.code yX1_become cX1_become 2 none, Cond.methodLink RX1 24 arraycopyName, Cond.methodLink RX2 175 yJ7_fill_d0a16, Cond.methodLink RX2 109 yX2_many, Cond.instanceMethod yX2_many, Cond.selects RX2 yX2_many yX2_many, Cond.code yX2_many cX2_many 2 (some .int), Cond.methodLink RX2 181 yX1_multiplyByFactorOf, Cond.instanceMethod yX1_multiplyByFactorOf, Cond.selects RX1 yX1_multiplyByFactorOf yX1_multiplyByFactorOf]
def wsL_denominator_r5 : List Cond := [Cond.code yX1_multiplyByFactorOf cX1_multiplyByFactorOf 3 none, Cond.methodLink RX2 185 yX1_divideByFactorOf, Cond.instanceMethod yX1_divideByFactorOf, Cond.selects RX1 yX1_divideByFactorOf yX1_divideByFactorOf, Cond.code yX1_divideByFactorOf cX1_divideByFactorOf 7 (some .long), Cond.methodLink RX2 188 yX2_makePartsOf, Cond.instanceMethod yX2_makePartsOf, Cond.selects RX2 yX2_makePartsOf yX2_makePartsOf, Cond.code yX2_makePartsOf cX2_makePartsOf 9 none, Cond.fieldLink RX2 46 "PartsDesk" "rest" "LPartsDesk$Polynomial;", Cond.fieldLink RX2 49 "PartsDesk" "otherFactors" "LPartsDesk$Polynomial;", Cond.methodLink RX2 191 yX2_multiplyOtherFactors, Cond.instanceMethod yX2_multiplyOtherFactors, Cond.selects RX2 yX2_multiplyOtherFactors yX2_multiplyOtherFactors, Cond.code yX2_multiplyOtherFactors cX2_multiplyOtherFactors 5 none, Cond.methodLink RX2 194 yX2_keepPart, Cond.instanceMethod yX2_keepPart, Cond.selects RX2 yX2_keepPart yX2_keepPart, Cond.code yX2_keepPart cX2_keepPart 8 none, Cond.methodLink RX2 158 yX2_placeOfPart, Cond.static yX2_placeOfPart, Cond.code yX2_placeOfPart cX2_placeOfPart 3 (some .int), Cond.methodLink RX2 131 yX2_inLowestTerms, Cond.static yX2_inLowestTerms]
def wsL_denominator_r6 : List Cond := [Cond.code yX2_inLowestTerms cX2_inLowestTerms 9 (some .long), Cond.methodLink RX2 162 yX2_commonDivisor, Cond.static yX2_commonDivisor, Cond.code yX2_commonDivisor cX2_commonDivisor 11 (some .long), Cond.methodLink RX2 166 Lib.MathLoose.abs_long.x, Cond.static Lib.MathLoose.abs_long.x, Cond.initialized "java/lang/Math", Cond.code Lib.MathLoose.abs_long.x Lib.MathLoose.abs_long.code 2 (some .long), Cond.methodLink RX2 198 yX1_mix, Cond.instanceMethod yX1_mix, Cond.selects RX1 yX1_mix yX1_mix, Cond.code yX1_mix cX1_mix 7 none, Cond.methodLink RX2 77 yX1_degree, Cond.instanceMethod yX1_degree, Cond.selects RX1 yX1_degree yX1_degree, Cond.code yX1_degree cX1_degree 2 (some .int)]
def wsL_denominator : List Cond := .codeWith yL_denominator cL_denominator 3 (some .int) [(0, 8, 11, 13), (0, 8, 14, 18)] :: ((wsL_denominator_r1 ++ (wsL_denominator_r2 ++ (wsL_denominator_r3 ++ (wsL_denominator_r4 ++ (wsL_denominator_r5 ++ wsL_denominator_r6))))) ++ wsX20 ++ wsX00 ++ wsX10 ++ (vx_atS RX2 70 "java/lang/IllegalArgumentException" ["java/lang/RuntimeException", "java/lang/Exception"]).filter goodWord ++ (vx_atS RX2 94 "java/lang/IllegalStateException" ["java/lang/RuntimeException", "java/lang/Exception"]).filter goodWord)
def wsL_part_r1 : List Cond := [Cond.classLink RL 13 "java/lang/IllegalArgumentException", Cond.methodLink RL 20 yX2_part, Cond.instanceMethod yX2_part, Cond.selects RX2 yX2_part yX2_part, Cond.initialized RX2, Cond.code yX2_part cX2_part 4 (some .long), Cond.classLink RX2 66 "java/lang/IllegalArgumentException", Cond.initialized "java/lang/IllegalArgumentException", Cond.methodLink RX2 109 yX2_many, Cond.instanceMethod yX2_many, Cond.selects RX2 yX2_many yX2_many, Cond.code yX2_many cX2_many 2 (some .int), Cond.fieldLink RX2 29 "PartsDesk" "often" "[I", Cond.methodLink RX2 105 yX2_isPossibleRoot, Cond.static yX2_isPossibleRoot, Cond.code yX2_isPossibleRoot cX2_isPossibleRoot 1 (some .boolean), Cond.methodLink RX2 113 yX2_isSide, Cond.static yX2_isSide, Cond.code yX2_isSide cX2_isSide 1 (some .boolean), Cond.methodLink RX2 118 yX2_partAbove, Cond.instanceMethod yX2_partAbove, Cond.selects RX2 yX2_partAbove yX2_partAbove, Cond.code yX2_partAbove cX2_partAbove 4 (some .long), Cond.fieldLink RX2 33 "PartsDesk" "partsAbove" "[J"]
def wsL_part_r2 : List Cond := [Cond.methodLink RX2 158 yX2_placeOfPart, Cond.static yX2_placeOfPart, Cond.code yX2_placeOfPart cX2_placeOfPart 3 (some .int), Cond.methodLink RX2 122 yX2_partBelow, Cond.instanceMethod yX2_partBelow, Cond.selects RX2 yX2_partBelow yX2_partBelow, Cond.code yX2_partBelow cX2_partBelow 4 (some .long), Cond.fieldLink RX2 37 "PartsDesk" "partsBelow" "[J"]
def wsL_part : List Cond := .codeWith yL_part cL_part 6 (some .int) [(0, 11, 14, 13)] :: ((wsL_part_r1 ++ wsL_part_r2) ++ wsX20 ++ (vx_atS RX2 70 "java/lang/IllegalArgumentException" ["java/lang/RuntimeException", "java/lang/Exception"]).filter goodWord)
def wsL_integral_r1 : List Cond := [Cond.classLink RL 13 "java/lang/IllegalArgumentException", Cond.methodLink RL 24 yX2_integral, Cond.instanceMethod yX2_integral, Cond.selects RX2 yX2_integral yX2_integral, Cond.initialized RX2, Cond.code yX2_integral cX2_integral 4 (some .long), Cond.classLink RX2 66 "java/lang/IllegalArgumentException", Cond.initialized "java/lang/IllegalArgumentException", Cond.fieldLink RX2 26 "PartsDesk" "quotient" "LPartsDesk$Polynomial;", Cond.methodLink RX2 125 yX2_isInIntegral, Cond.instanceMethod yX2_isInIntegral, Cond.selects RX2 yX2_isInIntegral yX2_isInIntegral, Cond.code yX2_isInIntegral cX2_isInIntegral 3 (some .boolean), Cond.methodLink RX2 109 yX2_many, Cond.instanceMethod yX2_many, Cond.selects RX2 yX2_many yX2_many, Cond.code yX2_many cX2_many 2 (some .int), Cond.fieldLink RX2 29 "PartsDesk" "often" "[I", Cond.methodLink RX2 105 yX2_isPossibleRoot, Cond.static yX2_isPossibleRoot, Cond.code yX2_isPossibleRoot cX2_isPossibleRoot 1 (some .boolean), Cond.methodLink RX2 113 yX2_isSide, Cond.static yX2_isSide, Cond.code yX2_isSide cX2_isSide 1 (some .boolean)]
def wsL_integral_r2 : List Cond := [Cond.methodLink RX2 101 yX1_get, Cond.instanceMethod yX1_get, Cond.selects RX1 yX1_get yX1_get, Cond.initialized RX1, Cond.code yX1_get cX1_get 2 (some .long), Cond.fieldLink RX1 9 "PartsDesk$Polynomial" "coefficients" "[J", Cond.methodLink RX2 131 yX2_inLowestTerms, Cond.static yX2_inLowestTerms, Cond.code yX2_inLowestTerms cX2_inLowestTerms 9 (some .long), Cond.methodLink RX2 162 yX2_commonDivisor, Cond.static yX2_commonDivisor, Cond.code yX2_commonDivisor cX2_commonDivisor 11 (some .long), Cond.methodLink RX2 166 Lib.MathLoose.abs_long.x, Cond.static Lib.MathLoose.abs_long.x, Cond.initialized "java/lang/Math", Cond.code Lib.MathLoose.abs_long.x Lib.MathLoose.abs_long.code 2 (some .long), Cond.methodLink RX2 118 yX2_partAbove, Cond.instanceMethod yX2_partAbove, Cond.selects RX2 yX2_partAbove yX2_partAbove, Cond.code yX2_partAbove cX2_partAbove 4 (some .long), Cond.fieldLink RX2 33 "PartsDesk" "partsAbove" "[J", Cond.methodLink RX2 158 yX2_placeOfPart, Cond.static yX2_placeOfPart, Cond.code yX2_placeOfPart cX2_placeOfPart 3 (some .int)]
def wsL_integral_r3 : List Cond := [Cond.methodLink RX2 122 yX2_partBelow, Cond.instanceMethod yX2_partBelow, Cond.selects RX2 yX2_partBelow yX2_partBelow, Cond.code yX2_partBelow cX2_partBelow 4 (some .long), Cond.fieldLink RX2 37 "PartsDesk" "partsBelow" "[J"]
def wsL_integral : List Cond := .codeWith yL_integral cL_integral 6 (some .int) [(0, 11, 14, 13)] :: ((wsL_integral_r1 ++ (wsL_integral_r2 ++ wsL_integral_r3)) ++ wsX20 ++ wsX10 ++ (vx_atS RX2 70 "java/lang/IllegalArgumentException" ["java/lang/RuntimeException", "java/lang/Exception"]).filter goodWord)
def wsL_value_r1 : List Cond := [Cond.classLink RL 13 "java/lang/IllegalArgumentException", Cond.methodLink RL 27 yX2_value, Cond.instanceMethod yX2_value, Cond.selects RX2 yX2_value yX2_value, Cond.initialized RX2, Cond.code yX2_value cX2_value 3 (some .long), Cond.classLink RX2 66 "java/lang/IllegalArgumentException", Cond.initialized "java/lang/IllegalArgumentException", Cond.fieldLink RX2 19 "PartsDesk" "above" "LPartsDesk$Polynomial;", Cond.fieldLink RX2 23 "PartsDesk" "below" "LPartsDesk$Polynomial;", Cond.methodLink RX2 109 yX2_many, Cond.instanceMethod yX2_many, Cond.selects RX2 yX2_many yX2_many, Cond.code yX2_many cX2_many 2 (some .int), Cond.fieldLink RX2 29 "PartsDesk" "often" "[I", Cond.methodLink RX2 105 yX2_isPossibleRoot, Cond.static yX2_isPossibleRoot, Cond.code yX2_isPossibleRoot cX2_isPossibleRoot 1 (some .boolean), Cond.methodLink RX2 113 yX2_isSide, Cond.static yX2_isSide, Cond.code yX2_isSide cX2_isSide 1 (some .boolean), Cond.methodLink RX2 137 yX1_exactlyAt, Cond.instanceMethod yX1_exactlyAt, Cond.selects RX1 yX1_exactlyAt yX1_exactlyAt]
def wsL_value_r2 : List Cond := [Cond.initialized RX1, Cond.code yX1_exactlyAt cX1_exactlyAt 5 (some .long), Cond.fieldLink RX1 9 "PartsDesk$Polynomial" "coefficients" "[J", Cond.methodLink RX2 131 yX2_inLowestTerms, Cond.static yX2_inLowestTerms, Cond.code yX2_inLowestTerms cX2_inLowestTerms 9 (some .long), Cond.methodLink RX2 162 yX2_commonDivisor, Cond.static yX2_commonDivisor, Cond.code yX2_commonDivisor cX2_commonDivisor 11 (some .long), Cond.methodLink RX2 166 Lib.MathLoose.abs_long.x, Cond.static Lib.MathLoose.abs_long.x, Cond.initialized "java/lang/Math", Cond.code Lib.MathLoose.abs_long.x Lib.MathLoose.abs_long.code 2 (some .long)]
def wsL_value : List Cond := .codeWith yL_value cL_value 5 (some .int) [(0, 9, 12, 13)] :: ((wsL_value_r1 ++ wsL_value_r2) ++ wsX20 ++ wsX10 ++ (vx_atS RX2 70 "java/lang/IllegalArgumentException" ["java/lang/RuntimeException", "java/lang/Exception"]).filter goodWord)
def wsL_at : List Cond := .codeWith yL_at cL_at 5 (some .int) [(0, 8, 11, 13)] :: ([.classLink RL 13 "java/lang/IllegalArgumentException", .methodLink RL 31 yX2_at, .instanceMethod yX2_at, .selects RX2 yX2_at yX2_at, .initialized RX2, .code yX2_at cX2_at 5 (some .double), .classLink RX2 66 "java/lang/IllegalArgumentException", .initialized "java/lang/IllegalArgumentException", .fieldLink RX2 23 "PartsDesk" "below" "LPartsDesk$Polynomial;", .fieldLink RX2 19 "PartsDesk" "above" "LPartsDesk$Polynomial;", .methodLink RX2 140 yX2_isNear, .static yX2_isNear, .code yX2_isNear cX2_isNear 2 (some .boolean), .constantDouble RX2 154 (13860109328209412096), .constantDouble RX2 156 (4636737291354636288), .methodLink RX2 146 yX1_inDoublesAt, .instanceMethod yX1_inDoublesAt, .selects RX1 yX1_inDoublesAt yX1_inDoublesAt, .initialized RX1, .code yX1_inDoublesAt cX1_inDoublesAt 6 (some .double), .fieldLink RX1 9 "PartsDesk$Polynomial" "coefficients" "[J"] ++ wsX20 ++ wsX10 ++ (vx_atS RX2 70 "java/lang/IllegalArgumentException" ["java/lang/RuntimeException", "java/lang/Exception"]).filter goodWord)
def wsL_byParts_r1 : List Cond := [Cond.classLink RL 13 "java/lang/IllegalArgumentException", Cond.methodLink RL 35 yX2_byParts, Cond.instanceMethod yX2_byParts, Cond.selects RX2 yX2_byParts yX2_byParts, Cond.initialized RX2, Cond.code yX2_byParts cX2_byParts 6 (some .double), Cond.classLink RX2 66 "java/lang/IllegalArgumentException", Cond.initialized "java/lang/IllegalArgumentException", Cond.fieldLink RX2 26 "PartsDesk" "quotient" "LPartsDesk$Polynomial;", Cond.methodLink RX2 140 yX2_isNear, Cond.static yX2_isNear, Cond.code yX2_isNear cX2_isNear 2 (some .boolean), Cond.constantDouble RX2 154 (13860109328209412096), Cond.constantDouble RX2 156 (4636737291354636288), Cond.methodLink RX2 146 yX1_inDoublesAt, Cond.instanceMethod yX1_inDoublesAt, Cond.selects RX1 yX1_inDoublesAt yX1_inDoublesAt, Cond.initialized RX1, Cond.code yX1_inDoublesAt cX1_inDoublesAt 6 (some .double), Cond.fieldLink RX1 9 "PartsDesk$Polynomial" "coefficients" "[J", Cond.methodLink RX2 150 yX2_withPartsOf, Cond.instanceMethod yX2_withPartsOf, Cond.selects RX2 yX2_withPartsOf yX2_withPartsOf, Cond.code yX2_withPartsOf cX2_withPartsOf 14 (some .double)]
def wsL_byParts_r2 : List Cond := [Cond.methodLink RX2 109 yX2_many, Cond.instanceMethod yX2_many, Cond.selects RX2 yX2_many yX2_many, Cond.code yX2_many cX2_many 2 (some .int), Cond.fieldLink RX2 29 "PartsDesk" "often" "[I", Cond.methodLink RX2 105 yX2_isPossibleRoot, Cond.static yX2_isPossibleRoot, Cond.code yX2_isPossibleRoot cX2_isPossibleRoot 1 (some .boolean), Cond.methodLink RX2 118 yX2_partAbove, Cond.instanceMethod yX2_partAbove, Cond.selects RX2 yX2_partAbove yX2_partAbove, Cond.code yX2_partAbove cX2_partAbove 4 (some .long), Cond.fieldLink RX2 33 "PartsDesk" "partsAbove" "[J", Cond.methodLink RX2 158 yX2_placeOfPart, Cond.static yX2_placeOfPart, Cond.code yX2_placeOfPart cX2_placeOfPart 3 (some .int), Cond.methodLink RX2 122 yX2_partBelow, Cond.instanceMethod yX2_partBelow, Cond.selects RX2 yX2_partBelow yX2_partBelow, Cond.code yX2_partBelow cX2_partBelow 4 (some .long), Cond.fieldLink RX2 37 "PartsDesk" "partsBelow" "[J"]
def wsL_byParts : List Cond := .codeWith yL_byParts cL_byParts 5 (some .int) [(0, 8, 11, 13)] :: ((wsL_byParts_r1 ++ wsL_byParts_r2) ++ wsX20 ++ wsX10 ++ (vx_atS RX2 70 "java/lang/IllegalArgumentException" ["java/lang/RuntimeException", "java/lang/Exception"]).filter goodWord)
def wsL_law0_r1 : List Cond := [Cond.classLink RL 8 RX2, Cond.instantiable RX2 11, Cond.initialized RX2, Cond.classLink RL 39 RX3, Cond.instantiable RX3 16, Cond.initialized RX3, Cond.arrayClass .long, Cond.arrayClass .double, Cond.constantDouble RL 79 (4593671619917905920), Cond.methodLink RL 38 yX2_init, Cond.instanceMethod yX2_init, Cond.code yX2_init cX2_init 1 none, Cond.methodLink RX2 3 objectInit, Cond.instanceMethod objectInit, Cond.code objectInit ⟨#[0xb1]⟩ 1 none, Cond.classLink RX2 9 RX0, Cond.instantiable RX0 3, Cond.initialized RX0, Cond.fieldLink RX2 12 "PartsDesk" "draft" "LPartsDesk$Draft;", Cond.classLink RX2 16 RX1, Cond.instantiable RX1 1, Cond.initialized RX1, Cond.fieldLink RX2 19 "PartsDesk" "above" "LPartsDesk$Polynomial;", Cond.fieldLink RX2 23 "PartsDesk" "below" "LPartsDesk$Polynomial;"]
def wsL_law0_r2 : List Cond := [Cond.fieldLink RX2 26 "PartsDesk" "quotient" "LPartsDesk$Polynomial;", Cond.arrayClass .int, Cond.fieldLink RX2 29 "PartsDesk" "often" "[I", Cond.fieldLink RX2 33 "PartsDesk" "partsAbove" "[J", Cond.fieldLink RX2 37 "PartsDesk" "partsBelow" "[J", Cond.fieldLink RX2 40 "PartsDesk" "readTerms" "LPartsDesk$Polynomial;", Cond.fieldLink RX2 43 "PartsDesk" "readOften" "[I", Cond.fieldLink RX2 46 "PartsDesk" "rest" "LPartsDesk$Polynomial;", Cond.fieldLink RX2 49 "PartsDesk" "otherFactors" "LPartsDesk$Polynomial;", Cond.instanceMethod yX0_init, Cond.code yX0_init cX0_init 1 none, Cond.methodLink RX0 3 objectInit, Cond.arrayClass .char, Cond.fieldLink RX0 9 "PartsDesk$Draft" "characters" "[C", Cond.instanceMethod yX1_init, Cond.code yX1_init cX1_init 1 none, Cond.methodLink RX1 3 objectInit, Cond.fieldLink RX1 9 "PartsDesk$Polynomial" "coefficients" "[J", Cond.methodLink RX2 52 yX2_takeApart, Cond.instanceMethod yX2_takeApart, Cond.selects RX2 yX2_takeApart yX2_takeApart, Cond.code yX2_takeApart cX2_takeApart 4 none, Cond.methodLink RX2 172 yX1_becomeOne, Cond.instanceMethod yX1_becomeOne]
def wsL_law0_r3 : List Cond := [Cond.selects RX1 yX1_becomeOne yX1_becomeOne, Cond.code yX1_becomeOne cX1_becomeOne 1 none, Cond.methodLink RX1 21 yX1_becomeZero, Cond.instanceMethod yX1_becomeZero, Cond.selects RX1 yX1_becomeZero yX1_becomeZero, Cond.code yX1_becomeZero cX1_becomeZero 1 none, Cond.methodLink RX1 15 yJ7_fill_d0a16, Cond.static yJ7_fill_d0a16, Cond.initialized RJ7, Cond.code yJ7_fill_d0a16 cJ7_fill_d0a16 5 none, Cond.methodLink RX2 73 yX1_become, Cond.instanceMethod yX1_become, Cond.selects RX1 yX1_become yX1_become, Cond.code yX1_become cX1_become 2 none, Cond.methodLink RX1 24 arraycopyName, Cond.native arraycopyName, Cond.static arraycopyName, Cond.initialized "java/lang/System", Cond.methodLink RX2 175 yJ7_fill_d0a16, Cond.methodLink RX2 109 yX2_many, Cond.instanceMethod yX2_many, Cond.selects RX2 yX2_many yX2_many, Cond.code yX2_many cX2_many 2 (some .int), Cond.methodLink RX2 105 yX2_isPossibleRoot]
def wsL_law0_r4 : List Cond := [Cond.static yX2_isPossibleRoot, Cond.code yX2_isPossibleRoot cX2_isPossibleRoot 1 (some .boolean), Cond.methodLink RX2 181 yX1_multiplyByFactorOf, Cond.instanceMethod yX1_multiplyByFactorOf, Cond.selects RX1 yX1_multiplyByFactorOf yX1_multiplyByFactorOf, Cond.code yX1_multiplyByFactorOf cX1_multiplyByFactorOf 3 none, Cond.methodLink RX2 185 yX1_divideByFactorOf, Cond.instanceMethod yX1_divideByFactorOf, Cond.selects RX1 yX1_divideByFactorOf yX1_divideByFactorOf, Cond.code yX1_divideByFactorOf cX1_divideByFactorOf 7 (some .long), Cond.methodLink RX2 188 yX2_makePartsOf, Cond.instanceMethod yX2_makePartsOf, Cond.selects RX2 yX2_makePartsOf yX2_makePartsOf, Cond.code yX2_makePartsOf cX2_makePartsOf 9 none, Cond.methodLink RX2 191 yX2_multiplyOtherFactors, Cond.instanceMethod yX2_multiplyOtherFactors, Cond.selects RX2 yX2_multiplyOtherFactors yX2_multiplyOtherFactors, Cond.code yX2_multiplyOtherFactors cX2_multiplyOtherFactors 5 none, Cond.methodLink RX2 194 yX2_keepPart, Cond.instanceMethod yX2_keepPart, Cond.selects RX2 yX2_keepPart yX2_keepPart, Cond.code yX2_keepPart cX2_keepPart 8 none, Cond.methodLink RX2 158 yX2_placeOfPart, Cond.static yX2_placeOfPart]
def wsL_law0_r5 : List Cond := [Cond.code yX2_placeOfPart cX2_placeOfPart 3 (some .int), Cond.methodLink RX2 131 yX2_inLowestTerms, Cond.static yX2_inLowestTerms, Cond.code yX2_inLowestTerms cX2_inLowestTerms 9 (some .long), Cond.methodLink RX2 162 yX2_commonDivisor, Cond.static yX2_commonDivisor, Cond.code yX2_commonDivisor cX2_commonDivisor 11 (some .long), Cond.methodLink RX2 166 Lib.MathLoose.abs_long.x, Cond.static Lib.MathLoose.abs_long.x, Cond.initialized "java/lang/Math", Cond.code Lib.MathLoose.abs_long.x Lib.MathLoose.abs_long.code 2 (some .long), Cond.methodLink RX2 198 yX1_mix, Cond.instanceMethod yX1_mix, Cond.selects RX1 yX1_mix yX1_mix, Cond.code yX1_mix cX1_mix 7 none, Cond.methodLink RL 41 yX3_init, Cond.instanceMethod yX3_init, Cond.code yX3_init cX3_init 1 none, Cond.methodLink RX3 1 objectInit, Cond.fieldLink RX3 7 "PartsDeskModel" "draft" "[C", Cond.fieldLink RX3 13 "PartsDeskModel" "top" "[J", Cond.fieldLink RX3 17 "PartsDeskModel" "low" "[J", Cond.fieldLink RX3 20 "PartsDeskModel" "quotient" "[J", Cond.fieldLink RX3 23 "PartsDeskModel" "degree" "I"]
def wsL_law0_r6 : List Cond := [Cond.fieldLink RX3 27 "PartsDeskModel" "many" "[I", Cond.fieldLink RX3 31 "PartsDeskModel" "fresh" "[I", Cond.fieldLink RX3 34 "PartsDeskModel" "near" "[J", Cond.fieldLink RX3 37 "PartsDeskModel" "rest" "[J", Cond.fieldLink RX3 40 "PartsDeskModel" "row" "[J", Cond.fieldLink RX3 43 "PartsDeskModel" "read" "[J", Cond.methodLink RL 42 yX2_write, Cond.instanceMethod yX2_write, Cond.selects RX2 yX2_write yX2_write, Cond.code yX2_write cX2_write 2 (some .boolean), Cond.methodLink RX2 55 yX0_append, Cond.instanceMethod yX0_append, Cond.selects RX0 yX0_append yX0_append, Cond.code yX0_append cX0_append 2 (some .boolean), Cond.fieldLink RX0 15 "PartsDesk$Draft" "length" "I", Cond.methodLink RL 46 yX3_write, Cond.instanceMethod yX3_write, Cond.selects RX3 yX3_write yX3_write, Cond.code yX3_write cX3_write 2 (some .boolean), Cond.fieldLink RX3 46 "PartsDeskModel" "fault" "I", Cond.fieldLink RX3 49 "PartsDeskModel" "drafted" "I", Cond.methodLink RL 47 yL_numerator, Cond.static yL_numerator, Cond.initialized RL]
def wsL_law0_r7 : List Cond := [Cond.codeWith yL_numerator cL_numerator 3 (some .int) [(0, 8, 11, 13)], Cond.classLink RL 13 "java/lang/IllegalArgumentException", Cond.methodLink RL 7 yX2_numerator, Cond.instanceMethod yX2_numerator, Cond.selects RX2 yX2_numerator yX2_numerator, Cond.code yX2_numerator cX2_numerator 2 (some .int), Cond.classLink RX2 66 "java/lang/IllegalArgumentException", Cond.initialized "java/lang/IllegalArgumentException", Cond.methodLink RX2 59 yX2_readPolynomial, Cond.instanceMethod yX2_readPolynomial, Cond.selects RX2 yX2_readPolynomial yX2_readPolynomial, Cond.code yX2_readPolynomial cX2_readPolynomial 3 (some .boolean), Cond.methodLink RX2 202 yX1_becomeZero, Cond.methodLink RX2 205 yX2_readTerm, Cond.instanceMethod yX2_readTerm, Cond.selects RX2 yX2_readTerm yX2_readTerm, Cond.code yX2_readTerm cX2_readTerm 7 (some .boolean), Cond.methodLink RX2 212 yX0_takes, Cond.instanceMethod yX0_takes, Cond.selects RX0 yX0_takes yX0_takes, Cond.code yX0_takes cX0_takes 3 (some .boolean), Cond.fieldLink RX0 19 "PartsDesk$Draft" "next" "I", Cond.methodLink RX0 22 yX0_isAtEnd, Cond.instanceMethod yX0_isAtEnd]
def wsL_law0_r8 : List Cond := [Cond.selects RX0 yX0_isAtEnd yX0_isAtEnd, Cond.code yX0_isAtEnd cX0_isAtEnd 1 (some .boolean), Cond.methodLink RX2 215 yX2_readNumber, Cond.instanceMethod yX2_readNumber, Cond.selects RX2 yX2_readNumber yX2_readNumber, Cond.code yX2_readNumber cX2_readNumber 3 (some .int), Cond.methodLink RX2 225 yX0_takeDigit, Cond.instanceMethod yX0_takeDigit, Cond.selects RX0 yX0_takeDigit yX0_takeDigit, Cond.code yX0_takeDigit cX0_takeDigit 4 (some .int), Cond.methodLink RX2 218 yX2_readPowerOfX, Cond.instanceMethod yX2_readPowerOfX, Cond.selects RX2 yX2_readPowerOfX yX2_readPowerOfX, Cond.code yX2_readPowerOfX cX2_readPowerOfX 1 (some .int), Cond.methodLink RX2 221 yX1_add, Cond.instanceMethod yX1_add, Cond.selects RX1 yX1_add yX1_add, Cond.code yX1_add cX1_add 4 none, Cond.methodLink RX2 209 yX0_isAtEnd, Cond.methodLink RX2 63 yX0_empty, Cond.instanceMethod yX0_empty, Cond.selects RX0 yX0_empty yX0_empty, Cond.code yX0_empty cX0_empty 1 none, Cond.methodLink RX2 77 yX1_degree]
def wsL_law0_r9 : List Cond := [Cond.instanceMethod yX1_degree, Cond.selects RX1 yX1_degree yX1_degree, Cond.code yX1_degree cX1_degree 2 (some .int), Cond.methodLink RL 52 yX3_numerator, Cond.instanceMethod yX3_numerator, Cond.selects RX3 yX3_numerator yX3_numerator, Cond.code yX3_numerator cX3_numerator 4 (some .int), Cond.methodLink RX3 79 yX3_readPolynomial, Cond.instanceMethod yX3_readPolynomial, Cond.selects RX3 yX3_readPolynomial yX3_readPolynomial, Cond.code yX3_readPolynomial cX3_readPolynomial 3 (some .boolean), Cond.fieldLink RX3 52 "PartsDeskModel" "at" "I", Cond.constantLong RX3 73 (-1), Cond.methodLink RX3 69 yX3_pass, Cond.instanceMethod yX3_pass, Cond.selects RX3 yX3_pass yX3_pass, Cond.code yX3_pass cX3_pass 3 (some .boolean), Cond.methodLink RX3 55 yX3_look, Cond.instanceMethod yX3_look, Cond.selects RX3 yX3_look yX3_look, Cond.code yX3_look cX3_look 1 (some .char), Cond.methodLink RX3 75 yX3_readTerm, Cond.instanceMethod yX3_readTerm, Cond.selects RX3 yX3_readTerm yX3_readTerm]
def wsL_law0_r10 : List Cond := [Cond.code yX3_readTerm cX3_readTerm 8 (some .boolean), Cond.constantLong RX3 67 (10), Cond.methodLink RX3 59 yX3_isDigit, Cond.instanceMethod yX3_isDigit, Cond.selects RX3 yX3_isDigit yX3_isDigit, Cond.code yX3_isDigit cX3_isDigit 1 (some .boolean), Cond.methodLink RX3 63 yX3_digit, Cond.instanceMethod yX3_digit, Cond.selects RX3 yX3_digit yX3_digit, Cond.code yX3_digit cX3_digit 1 (some .int), Cond.methodLink RX3 82 yX3_fails, Cond.instanceMethod yX3_fails, Cond.selects RX3 yX3_fails yX3_fails, Cond.code yX3_fails cX3_fails 2 (some .int), Cond.methodLink RL 53 yX3_thrown, Cond.instanceMethod yX3_thrown, Cond.selects RX3 yX3_thrown yX3_thrown, Cond.code yX3_thrown cX3_thrown 1 (some .int), Cond.methodLink RL 56 yL_denominator, Cond.static yL_denominator, Cond.codeWith yL_denominator cL_denominator 3 (some .int) [(0, 8, 11, 13), (0, 8, 14, 18)], Cond.classLink RL 18 "java/lang/IllegalStateException", Cond.methodLink RL 15 yX2_denominator, Cond.instanceMethod yX2_denominator]
def wsL_law0_r11 : List Cond := [Cond.selects RX2 yX2_denominator yX2_denominator, Cond.code yX2_denominator cX2_denominator 2 (some .int), Cond.classLink RX2 90 "java/lang/IllegalStateException", Cond.initialized "java/lang/IllegalStateException", Cond.methodLink RX2 95 arraycopyName, Cond.methodLink RX2 81 yX2_readProduct, Cond.instanceMethod yX2_readProduct, Cond.selects RX2 yX2_readProduct yX2_readProduct, Cond.code yX2_readProduct cX2_readProduct 3 (some .boolean), Cond.methodLink RX2 228 yJ7_fill_53178, Cond.static yJ7_fill_53178, Cond.code yJ7_fill_53178 cJ7_fill_53178 4 none, Cond.methodLink RX2 231 yX2_readFactor, Cond.instanceMethod yX2_readFactor, Cond.selects RX2 yX2_readFactor yX2_readFactor, Cond.code yX2_readFactor cX2_readFactor 3 (some .boolean), Cond.methodLink RX2 234 yX2_readRoot, Cond.instanceMethod yX2_readRoot, Cond.selects RX2 yX2_readRoot yX2_readRoot, Cond.code yX2_readRoot cX2_readRoot 3 (some .int), Cond.methodLink RX2 86 yX2_sum, Cond.static yX2_sum, Cond.code yX2_sum cX2_sum 6 (some .int), Cond.methodLink RL 58 yX3_denominator]
def wsL_law0_r12 : List Cond := [Cond.instanceMethod yX3_denominator, Cond.selects RX3 yX3_denominator yX3_denominator, Cond.code yX3_denominator cX3_denominator 5 (some .int), Cond.methodLink RX3 86 yX3_readFactor, Cond.instanceMethod yX3_readFactor, Cond.selects RX3 yX3_readFactor yX3_readFactor, Cond.code yX3_readFactor cX3_readFactor 4 (some .boolean), Cond.methodLink RX3 89 yX3_times, Cond.static yX3_times, Cond.code yX3_times cX3_times 3 none, Cond.methodLink RL 59 yX2_coefficient, Cond.instanceMethod yX2_coefficient, Cond.selects RX2 yX2_coefficient yX2_coefficient, Cond.code yX2_coefficient cX2_coefficient 3 (some .long), Cond.methodLink RX2 101 yX1_get, Cond.instanceMethod yX1_get, Cond.selects RX1 yX1_get yX1_get, Cond.code yX1_get cX1_get 2 (some .long), Cond.methodLink RL 62 yX3_coefficient, Cond.instanceMethod yX3_coefficient, Cond.selects RX3 yX3_coefficient yX3_coefficient, Cond.code yX3_coefficient cX3_coefficient 3 (some .long), Cond.methodLink RX3 93 yX3_divide, Cond.instanceMethod yX3_divide]
def wsL_law0_r13 : List Cond := [Cond.selects RX3 yX3_divide yX3_divide, Cond.code yX3_divide cX3_divide 5 none, Cond.methodLink RL 63 yX2_many, Cond.methodLink RL 67 yX3_many, Cond.instanceMethod yX3_many, Cond.selects RX3 yX3_many yX3_many, Cond.code yX3_many cX3_many 2 (some .int), Cond.methodLink RL 68 yL_part, Cond.static yL_part, Cond.codeWith yL_part cL_part 6 (some .int) [(0, 11, 14, 13)], Cond.methodLink RL 20 yX2_part, Cond.instanceMethod yX2_part, Cond.selects RX2 yX2_part yX2_part, Cond.code yX2_part cX2_part 4 (some .long), Cond.methodLink RX2 113 yX2_isSide, Cond.static yX2_isSide, Cond.code yX2_isSide cX2_isSide 1 (some .boolean), Cond.methodLink RX2 118 yX2_partAbove, Cond.instanceMethod yX2_partAbove, Cond.selects RX2 yX2_partAbove yX2_partAbove, Cond.code yX2_partAbove cX2_partAbove 4 (some .long), Cond.methodLink RX2 122 yX2_partBelow, Cond.instanceMethod yX2_partBelow, Cond.selects RX2 yX2_partBelow yX2_partBelow]
def wsL_law0_r14 : List Cond := [Cond.code yX2_partBelow cX2_partBelow 4 (some .long), Cond.methodLink RL 71 yX3_part, Cond.instanceMethod yX3_part, Cond.selects RX3 yX3_part yX3_part, Cond.code yX3_part cX3_part 5 (some .long), Cond.fieldLink RX3 96 "PartsDeskModel" "over" "J", Cond.fieldLink RX3 100 "PartsDeskModel" "under" "J", Cond.methodLink RX3 113 yX3_isPart, Cond.instanceMethod yX3_isPart, Cond.selects RX3 yX3_isPart yX3_isPart, Cond.code yX3_isPart cX3_isPart 3 (some .boolean), Cond.methodLink RX3 111 yX3_many, Cond.methodLink RX3 117 yX3_work, Cond.instanceMethod yX3_work, Cond.selects RX3 yX3_work yX3_work, Cond.code yX3_work cX3_work 11 none, Cond.methodLink RX3 103 yX3_around, Cond.instanceMethod yX3_around, Cond.selects RX3 yX3_around yX3_around, Cond.code yX3_around cX3_around 4 none, Cond.methodLink RX3 107 yX3_tell, Cond.instanceMethod yX3_tell, Cond.selects RX3 yX3_tell yX3_tell, Cond.code yX3_tell cX3_tell 11 none]
def wsL_law0_r15 : List Cond := [Cond.methodLink RL 72 yL_integral, Cond.static yL_integral, Cond.codeWith yL_integral cL_integral 6 (some .int) [(0, 11, 14, 13)], Cond.methodLink RL 24 yX2_integral, Cond.instanceMethod yX2_integral, Cond.selects RX2 yX2_integral yX2_integral, Cond.code yX2_integral cX2_integral 4 (some .long), Cond.methodLink RX2 125 yX2_isInIntegral, Cond.instanceMethod yX2_isInIntegral, Cond.selects RX2 yX2_isInIntegral yX2_isInIntegral, Cond.code yX2_isInIntegral cX2_isInIntegral 3 (some .boolean), Cond.methodLink RL 74 yX3_integral, Cond.instanceMethod yX3_integral, Cond.selects RX3 yX3_integral yX3_integral, Cond.code yX3_integral cX3_integral 6 (some .long), Cond.methodLink RL 75 yL_value, Cond.static yL_value, Cond.codeWith yL_value cL_value 5 (some .int) [(0, 9, 12, 13)], Cond.methodLink RL 27 yX2_value, Cond.instanceMethod yX2_value, Cond.selects RX2 yX2_value yX2_value, Cond.code yX2_value cX2_value 3 (some .long), Cond.methodLink RX2 137 yX1_exactlyAt, Cond.instanceMethod yX1_exactlyAt]
def wsL_law0_r16 : List Cond := [Cond.selects RX1 yX1_exactlyAt yX1_exactlyAt, Cond.code yX1_exactlyAt cX1_exactlyAt 5 (some .long), Cond.methodLink RL 78 yX3_value, Cond.instanceMethod yX3_value, Cond.selects RX3 yX3_value yX3_value, Cond.code yX3_value cX3_value 4 (some .long), Cond.methodLink RX3 121 yX3_valueOf, Cond.static yX3_valueOf, Cond.code yX3_valueOf cX3_valueOf 7 (some .long), Cond.methodLink RL 81 yL_at, Cond.static yL_at, Cond.codeWith yL_at cL_at 5 (some .int) [(0, 8, 11, 13)], Cond.methodLink RL 31 yX2_at, Cond.instanceMethod yX2_at, Cond.selects RX2 yX2_at yX2_at, Cond.code yX2_at cX2_at 5 (some .double), Cond.methodLink RX2 140 yX2_isNear, Cond.static yX2_isNear, Cond.code yX2_isNear cX2_isNear 2 (some .boolean), Cond.constantDouble RX2 154 (13860109328209412096), Cond.constantDouble RX2 156 (4636737291354636288), Cond.methodLink RX2 146 yX1_inDoublesAt, Cond.instanceMethod yX1_inDoublesAt, Cond.selects RX1 yX1_inDoublesAt yX1_inDoublesAt]
def wsL_law0_r17 : List Cond := [Cond.code yX1_inDoublesAt cX1_inDoublesAt 6 (some .double), Cond.methodLink RL 84 yX3_at, Cond.instanceMethod yX3_at, Cond.selects RX3 yX3_at yX3_at, Cond.code yX3_at cX3_at 5 (some .double), Cond.methodLink RX3 129 yX3_isPlace, Cond.instanceMethod yX3_isPlace, Cond.selects RX3 yX3_isPlace yX3_isPlace, Cond.code yX3_isPlace cX3_isPlace 3 (some .boolean), Cond.constantDouble RX3 125 (13860109328209412096), Cond.constantDouble RX3 127 (4636737291354636288), Cond.methodLink RX3 133 yX3_valueAt, Cond.static yX3_valueAt, Cond.code yX3_valueAt cX3_valueAt 7 (some .double), Cond.methodLink RL 85 yL_byParts, Cond.static yL_byParts, Cond.codeWith yL_byParts cL_byParts 5 (some .int) [(0, 8, 11, 13)], Cond.methodLink RL 35 yX2_byParts, Cond.instanceMethod yX2_byParts, Cond.selects RX2 yX2_byParts yX2_byParts, Cond.code yX2_byParts cX2_byParts 6 (some .double), Cond.methodLink RX2 150 yX2_withPartsOf, Cond.instanceMethod yX2_withPartsOf, Cond.selects RX2 yX2_withPartsOf yX2_withPartsOf]
def wsL_law0_r18 : List Cond := [Cond.code yX2_withPartsOf cX2_withPartsOf 14 (some .double), Cond.methodLink RL 87 yX3_byParts, Cond.instanceMethod yX3_byParts, Cond.selects RX3 yX3_byParts yX3_byParts, Cond.code yX3_byParts cX3_byParts 9 (some .double)]
def wsL_law0 : List Cond := (wsL_law0_r1 ++ (wsL_law0_r2 ++ (wsL_law0_r3 ++ (wsL_law0_r4 ++ (wsL_law0_r5 ++ (wsL_law0_r6 ++ (wsL_law0_r7 ++ (wsL_law0_r8 ++ (wsL_law0_r9 ++ (wsL_law0_r10 ++ (wsL_law0_r11 ++ (wsL_law0_r12 ++ (wsL_law0_r13 ++ (wsL_law0_r14 ++ (wsL_law0_r15 ++ (wsL_law0_r16 ++ (wsL_law0_r17 ++ wsL_law0_r18))))))))))))))))) ++ wsX20 ++ wsX30 ++ wsX00 ++ wsX10 ++ ([] : List Cond)
def wsL_law : List Cond := wsL_law0 ++ (vx_atS RX2 70 "java/lang/IllegalArgumentException" ["java/lang/RuntimeException", "java/lang/Exception"]).filter goodWord ++ (vx_atS RX2 94 "java/lang/IllegalStateException" ["java/lang/RuntimeException", "java/lang/Exception"]).filter goodWord
theorem mem_at {big : List Cond} (ws : List Cond) (ps : List Nat) (h : ws.map some = ps.map (fun i => big[i]?)) : ∀ w ∈ ws, w ∈ big := by
  intro w hw
  have h1 : some w ∈ ws.map some := List.mem_map_of_mem hw
  rw [h] at h1
  obtain ⟨i, -, hi⟩ := List.mem_map.mp h1
  exact List.mem_of_getElem? hi
set_option maxRecDepth 20000 in
theorem in_wsL_law0_r1 : ∀ w ∈ wsL_law0_r1, w ∈ lw_tbl := mem_at _ [43, 44, 31, 429, 430, 37, 78, 599, 598, 45, 46, 47, 48, 49, 50, 51, 52, 32, 145, 68, 69, 33, 146, 147] (by rfl)
set_option maxRecDepth 20000 in
theorem in_wsL_law0_r2 : ∀ w ∈ wsL_law0_r2, w ∈ lw_tbl := mem_at _ [148, 179, 149, 150, 151, 152, 153, 154, 155, 54, 55, 56, 67, 57, 71, 72, 73, 74, 79, 81, 0, 82, 83, 84] (by rfl)
set_option maxRecDepth 20000 in
theorem in_wsL_law0_r3 : ∀ w ∈ wsL_law0_r3, w ∈ lw_tbl := mem_at _ [85, 86, 87, 88, 89, 90, 91, 92, 34, 93, 94, 95, 96, 97, 98, 100, 99, 35, 101, 102, 103, 104, 105, 106] (by rfl)
set_option maxRecDepth 20000 in
theorem in_wsL_law0_r4 : ∀ w ∈ wsL_law0_r4, w ∈ lw_tbl := mem_at _ [107, 108, 109, 110, 111, 112, 113, 114, 115, 116, 117, 119, 1, 120, 121, 123, 2, 124, 125, 127, 3, 128, 129, 130] (by rfl)
set_option maxRecDepth 20000 in
theorem in_wsL_law0_r5 : ∀ w ∈ wsL_law0_r5, w ∈ lw_tbl := mem_at _ [131, 132, 133, 134, 135, 136, 137, 138, 139, 36, 140, 141, 142, 143, 144, 431, 432, 433, 434, 436, 438, 439, 440, 441] (by rfl)
set_option maxRecDepth 20000 in
theorem in_wsL_law0_r6 : ∀ w ∈ wsL_law0_r6, w ∈ lw_tbl := mem_at _ [442, 443, 446, 447, 448, 449, 180, 181, 182, 183, 184, 185, 186, 187, 58, 488, 489, 490, 491, 435, 437, 197, 198, 30] (by rfl)
set_option maxRecDepth 20000 in
theorem in_wsL_law0_r7 : ∀ w ∈ wsL_law0_r7, w ∈ lw_tbl := mem_at _ [199, 200, 201, 202, 203, 204, 243, 41, 205, 207, 4, 208, 209, 210, 212, 5, 213, 214, 215, 216, 217, 59, 218, 219] (by rfl)
set_option maxRecDepth 20000 in
theorem in_wsL_law0_r8 : ∀ w ∈ wsL_law0_r8, w ∈ lw_tbl := mem_at _ [220, 221, 222, 224, 6, 225, 226, 227, 228, 229, 230, 232, 7, 233, 234, 235, 236, 237, 238, 239, 240, 241, 242, 310] (by rfl)
set_option maxRecDepth 20000 in
theorem in_wsL_law0_r9 : ∀ w ∈ wsL_law0_r9, w ∈ lw_tbl := mem_at _ [311, 312, 313, 492, 493, 494, 495, 496, 498, 16, 499, 450, 508, 500, 502, 17, 503, 504, 506, 18, 507, 509, 511, 19] (by rfl)
set_option maxRecDepth 20000 in
theorem in_wsL_law0_r10 : ∀ w ∈ wsL_law0_r10, w ∈ lw_tbl := mem_at _ [512, 521, 513, 515, 20, 516, 517, 519, 21, 520, 522, 524, 22, 525, 484, 485, 486, 487, 314, 315, 316, 317, 318, 319] (by rfl)
set_option maxRecDepth 20000 in
theorem in_wsL_law0_r11 : ∀ w ∈ wsL_law0_r11, w ∈ lw_tbl := mem_at _ [320, 321, 341, 42, 357, 322, 324, 9, 325, 326, 327, 328, 329, 331, 10, 332, 333, 335, 11, 336, 338, 339, 340, 526] (by rfl)
set_option maxRecDepth 20000 in
theorem in_wsL_law0_r12 : ∀ w ∈ wsL_law0_r12, w ∈ lw_tbl := mem_at _ [527, 528, 529, 530, 532, 23, 533, 534, 535, 536, 188, 189, 190, 191, 192, 193, 194, 195, 537, 538, 539, 540, 541, 543] (by rfl)
set_option maxRecDepth 20000 in
theorem in_wsL_law0_r13 : ∀ w ∈ wsL_law0_r13, w ∈ lw_tbl := mem_at _ [24, 544, 196, 545, 546, 547, 548, 358, 359, 360, 361, 362, 363, 364, 365, 366, 367, 369, 371, 12, 372, 373, 375, 13] (by rfl)
set_option maxRecDepth 20000 in
theorem in_wsL_law0_r14 : ∀ w ∈ wsL_law0_r14, w ∈ lw_tbl := mem_at _ [376, 549, 550, 551, 552, 444, 445, 553, 555, 25, 556, 557, 558, 560, 26, 561, 562, 564, 27, 565, 566, 568, 28, 569] (by rfl)
set_option maxRecDepth 20000 in
theorem in_wsL_law0_r15 : ∀ w ∈ wsL_law0_r15, w ∈ lw_tbl := mem_at _ [377, 378, 379, 380, 381, 382, 383, 384, 386, 14, 387, 570, 571, 572, 573, 389, 390, 391, 392, 393, 394, 395, 397, 398] (by rfl)
set_option maxRecDepth 20000 in
theorem in_wsL_law0_r16 : ∀ w ∈ wsL_law0_r16, w ∈ lw_tbl := mem_at _ [399, 400, 574, 575, 576, 577, 578, 579, 580, 401, 402, 403, 404, 405, 406, 407, 408, 409, 410, 411, 412, 414, 415, 416] (by rfl)
set_option maxRecDepth 20000 in
theorem in_wsL_law0_r17 : ∀ w ∈ wsL_law0_r17, w ∈ lw_tbl := mem_at _ [417, 581, 582, 583, 584, 585, 587, 29, 588, 589, 590, 591, 592, 593, 418, 419, 420, 421, 422, 423, 424, 425, 427, 15] (by rfl)
set_option maxRecDepth 20000 in
theorem in_wsL_law0_r18 : ∀ w ∈ wsL_law0_r18, w ∈ lw_tbl := mem_at _ [428, 594, 595, 596, 597] (by rfl)
set_option maxRecDepth 20000 in
theorem in_wsX00 : ∀ w ∈ wsX00, w ∈ lw_tbl := mem_at _ [60, 62, 64] (by rfl)
set_option maxRecDepth 20000 in
theorem in_wsX10 : ∀ w ∈ wsX10, w ∈ lw_tbl := mem_at _ [75] (by rfl)
set_option maxRecDepth 20000 in
theorem in_wsX20 : ∀ w ∈ wsX20, w ∈ lw_tbl := mem_at _ [156, 158, 160, 162, 164, 166, 168, 170, 172, 174, 176] (by rfl)
set_option maxRecDepth 20000 in
theorem in_wsX30 : ∀ w ∈ wsX30, w ∈ lw_tbl := mem_at _ [451, 453, 455, 457, 459, 461, 463, 465, 467, 469, 471, 473, 475, 477, 479, 481] (by rfl)
theorem wsL_law_in0 : ∀ w ∈ wsL_law0, w ∈ lw_tbl := fun w h => (List.mem_append.mp h).elim (fun h => (List.mem_append.mp h).elim (fun h => (List.mem_append.mp h).elim (fun h => (List.mem_append.mp h).elim (fun h => (List.mem_append.mp h).elim (fun h => (List.mem_append.mp h).elim (fun h => in_wsL_law0_r1 w h) (fun h => (List.mem_append.mp h).elim (fun h => in_wsL_law0_r2 w h) (fun h => (List.mem_append.mp h).elim (fun h => in_wsL_law0_r3 w h) (fun h => (List.mem_append.mp h).elim (fun h => in_wsL_law0_r4 w h) (fun h => (List.mem_append.mp h).elim (fun h => in_wsL_law0_r5 w h) (fun h => (List.mem_append.mp h).elim (fun h => in_wsL_law0_r6 w h) (fun h => (List.mem_append.mp h).elim (fun h => in_wsL_law0_r7 w h) (fun h => (List.mem_append.mp h).elim (fun h => in_wsL_law0_r8 w h) (fun h => (List.mem_append.mp h).elim (fun h => in_wsL_law0_r9 w h) (fun h => (List.mem_append.mp h).elim (fun h => in_wsL_law0_r10 w h) (fun h => (List.mem_append.mp h).elim (fun h => in_wsL_law0_r11 w h) (fun h => (List.mem_append.mp h).elim (fun h => in_wsL_law0_r12 w h) (fun h => (List.mem_append.mp h).elim (fun h => in_wsL_law0_r13 w h) (fun h => (List.mem_append.mp h).elim (fun h => in_wsL_law0_r14 w h) (fun h => (List.mem_append.mp h).elim (fun h => in_wsL_law0_r15 w h) (fun h => (List.mem_append.mp h).elim (fun h => in_wsL_law0_r16 w h) (fun h => (List.mem_append.mp h).elim (fun h => in_wsL_law0_r17 w h) (fun h => in_wsL_law0_r18 w h)))))))))))))))))) (fun h => in_wsX20 w h)) (fun h => in_wsX30 w h)) (fun h => in_wsX00 w h)) (fun h => in_wsX10 w h)) (fun h => nomatch h)
theorem wsL_law_x0 : ∀ w ∈ (vx_atS RX2 70 "java/lang/IllegalArgumentException" ["java/lang/RuntimeException", "java/lang/Exception"]).filter goodWord, w ∈ lw_tbl := by decide +kernel
theorem wsL_law_x1 : ∀ w ∈ (vx_atS RX2 94 "java/lang/IllegalStateException" ["java/lang/RuntimeException", "java/lang/Exception"]).filter goodWord, w ∈ lw_tbl := by decide +kernel
theorem wsL_law_in : ∀ w ∈ wsL_law, w ∈ lw_tbl := fun w h => (List.mem_append.mp h).elim (fun h => (List.mem_append.mp h).elim (fun h => wsL_law_in0 w h) (fun h => wsL_law_x0 w h)) (fun h => wsL_law_x1 w h)
theorem inlX0 : ∀ w ∈ wsX00, w ∈ wsL_law := fun _ h => List.mem_append_left _ (List.mem_append_left _ (List.mem_append_left _ (List.mem_append_left _ (List.mem_append_right _ h))))
theorem inX0 : ∀ w ∈ wsX00, w ∈ lw_tbl := fun w h => wsL_law_in w (inlX0 w h)
theorem inlX1 : ∀ w ∈ wsX10, w ∈ wsL_law := fun _ h => List.mem_append_left _ (List.mem_append_left _ (List.mem_append_left _ (List.mem_append_right _ h)))
theorem inX1 : ∀ w ∈ wsX10, w ∈ lw_tbl := fun w h => wsL_law_in w (inlX1 w h)
theorem inlX2 : ∀ w ∈ wsX20, w ∈ wsL_law := fun _ h => List.mem_append_left _ (List.mem_append_left _ (List.mem_append_left _ (List.mem_append_left _ (List.mem_append_left _ (List.mem_append_left _ (List.mem_append_right _ h))))))
theorem inX2 : ∀ w ∈ wsX20, w ∈ lw_tbl := fun w h => wsL_law_in w (inlX2 w h)
theorem inlX3 : ∀ w ∈ wsX30, w ∈ wsL_law := fun _ h => List.mem_append_left _ (List.mem_append_left _ (List.mem_append_left _ (List.mem_append_left _ (List.mem_append_left _ (List.mem_append_right _ h)))))
theorem inX3 : ∀ w ∈ wsX30, w ∈ lw_tbl := fun w h => wsL_law_in w (inlX3 w h)
theorem inJ9 : ∀ w ∈ wsJ90, w ∈ lw_tbl := by decide +kernel
theorem inJ0 : ∀ w ∈ wsJ00, w ∈ lw_tbl := by decide +kernel
theorem inJ10 : ∀ w ∈ wsJ100, w ∈ lw_tbl := by decide +kernel
theorem inJ7 : ∀ w ∈ wsJ70, w ∈ lw_tbl := by decide +kernel
set_option maxRecDepth 20000 in
theorem ggX0_takes_X0_isAtEnd : GoodIn wsX0_takes wsX0_isAtEnd := goodIn_r _ [7, 2, 8, 9, 10, 11] (by decide +kernel) (by decide +kernel)
set_option maxRecDepth 20000 in
theorem gX0_takes_X0_isAtEnd : GoodIn wsX0_takes (wsV RX0 22 RX0 yX0_isAtEnd wsX0_isAtEnd) := goodIn_app (goodIn_of _ (by decide +kernel)) ggX0_takes_X0_isAtEnd
set_option maxRecDepth 20000 in
theorem ggX0_takeDigit_X0_isAtEnd : GoodIn wsX0_takeDigit wsX0_isAtEnd := goodIn_r _ [7, 2, 8, 9, 10, 11] (by decide +kernel) (by decide +kernel)
set_option maxRecDepth 20000 in
theorem gX0_takeDigit_X0_isAtEnd : GoodIn wsX0_takeDigit (wsV RX0 22 RX0 yX0_isAtEnd wsX0_isAtEnd) := goodIn_app (goodIn_of _ (by decide +kernel)) ggX0_takeDigit_X0_isAtEnd
set_option maxRecDepth 20000 in
theorem ggX1_becomeZero_J7_fill_d0a16 : GoodIn wsX1_becomeZero wsJ7_fill_d0a16 := goodIn_r _ [5] (by decide +kernel) (by decide +kernel)
set_option maxRecDepth 20000 in
theorem gX1_becomeZero_J7_fill_d0a16 : GoodIn wsX1_becomeZero (va_wsS RX1 15 yJ7_fill_d0a16 wsJ7_fill_d0a16) := goodIn_app (goodIn_of _ (by decide +kernel)) ggX1_becomeZero_J7_fill_d0a16
set_option maxRecDepth 20000 in
theorem ggX1_becomeOne_X1_becomeZero : GoodIn wsX1_becomeOne wsX1_becomeZero := goodIn_r _ [6, 1, 7, 8, 9, 10, 11] (by decide +kernel) (by decide +kernel)
set_option maxRecDepth 20000 in
theorem gX1_becomeOne_X1_becomeZero : GoodIn wsX1_becomeOne (wsV RX1 21 RX1 yX1_becomeZero wsX1_becomeZero) := goodIn_app (goodIn_of _ (by decide +kernel)) ggX1_becomeOne_X1_becomeZero
set_option maxRecDepth 20000 in
theorem ggX2_init_X0_init : GoodIn wsX2_init wsX0_init := goodIn_r _ [24, 25, 2, 3, 26, 27, 102, 103, 104] (by decide +kernel) (by decide +kernel)
set_option maxRecDepth 20000 in
theorem gX2_init_X0_init_n11 : GoodIn wsX2_init (wsX0_init) := ggX2_init_X0_init
set_option maxRecDepth 20000 in
theorem ggX2_init_X1_init : GoodIn wsX2_init wsX1_init := goodIn_r _ [29, 30, 2, 3, 16, 31, 116] (by decide +kernel) (by decide +kernel)
set_option maxRecDepth 20000 in
theorem gX2_init_X1_init_n18 : GoodIn wsX2_init (wsX1_init) := ggX2_init_X1_init
set_option maxRecDepth 20000 in
theorem ggX2_init_X2_takeApart : GoodIn wsX2_init wsX2_takeApart := goodIn_r _ [36, 12, 13, 11, 17, 18, 37, 38, 39, 10, 40, 31, 41, 42, 43, 44, 45, 46, 47, 48, 49, 50, 51, 52, 53, 54, 55, 56, 57, 58, 59, 60, 35, 61, 15, 62, 63, 64, 65, 66, 67, 68, 69, 70, 71, 72, 73, 74, 75, 76, 21, 22, 77, 78, 79, 80, 81, 82, 83, 84, 85, 86, 87, 88, 89, 90, 91, 92, 93, 94, 95, 96, 97, 98, 99, 100, 101, 105, 106, 107, 108, 109, 110, 111, 112, 113, 114, 115, 116] (by decide +kernel) (by decide +kernel)
set_option maxRecDepth 20000 in
theorem gX2_init_X2_takeApart : GoodIn wsX2_init (wsV RX2 52 RX2 yX2_takeApart wsX2_takeApart) := goodIn_app (goodIn_of _ (by decide +kernel)) ggX2_init_X2_takeApart
set_option maxRecDepth 20000 in
theorem ggX2_write_X0_append : GoodIn wsX2_write wsX0_append := goodIn_r _ [6, 7, 8, 20, 21, 22] (by decide +kernel) (by decide +kernel)
set_option maxRecDepth 20000 in
theorem gX2_write_X0_append : GoodIn wsX2_write (wsV RX2 55 RX0 yX0_append wsX0_append) := goodIn_app (goodIn_of _ (by decide +kernel)) ggX2_write_X0_append
set_option maxRecDepth 20000 in
theorem ggX2_numerator_X2_readPolynomial : GoodIn wsX2_numerator wsX2_readPolynomial := goodIn_r _ [10, 5, 3, 11, 12, 13, 14, 15, 16, 17, 18, 19, 20, 21, 22, 23, 9, 24, 25, 26, 27, 28, 29, 30, 31, 32, 33, 34, 35, 36, 37, 38, 39, 40, 41, 42, 43, 44, 45, 46, 47, 48, 49, 50, 51, 52, 53, 131, 132, 133, 134, 135, 136, 137, 138, 139, 140, 141, 142, 143, 144, 145] (by decide +kernel) (by decide +kernel)
set_option maxRecDepth 20000 in
theorem gX2_numerator_X2_readPolynomial : GoodIn wsX2_numerator (wsV RX2 59 RX2 yX2_readPolynomial wsX2_readPolynomial) := goodIn_app (goodIn_of _ (by decide +kernel)) ggX2_numerator_X2_readPolynomial
set_option maxRecDepth 20000 in
theorem ggX2_numerator_X0_empty : GoodIn wsX2_numerator wsX0_empty := goodIn_r _ [57, 36, 31, 143, 144, 145] (by decide +kernel) (by decide +kernel)
set_option maxRecDepth 20000 in
theorem gX2_numerator_X0_empty : GoodIn wsX2_numerator (wsV RX2 63 RX0 yX0_empty wsX0_empty) := goodIn_app (goodIn_of _ (by decide +kernel)) ggX2_numerator_X0_empty
set_option maxRecDepth 20000 in
theorem ggX2_numerator_X1_become : GoodIn wsX2_numerator wsX1_become := goodIn_r _ [61, 16, 62, 63, 64, 65, 142] (by decide +kernel) (by decide +kernel)
set_option maxRecDepth 20000 in
theorem gX2_numerator_X1_become : GoodIn wsX2_numerator (wsV RX2 73 RX1 yX1_become wsX1_become) := goodIn_app (goodIn_of _ (by decide +kernel)) ggX2_numerator_X1_become
set_option maxRecDepth 20000 in
theorem ggX2_numerator_X2_takeApart : GoodIn wsX2_numerator wsX2_takeApart := goodIn_r _ [69, 70, 71, 4, 72, 73, 74, 75, 76, 14, 77, 16, 78, 12, 13, 15, 17, 18, 19, 20, 58, 59, 60, 61, 62, 63, 64, 65, 79, 80, 81, 82, 9, 83, 84, 85, 86, 87, 88, 89, 90, 91, 92, 93, 94, 95, 96, 97, 98, 99, 100, 101, 102, 103, 104, 105, 106, 107, 108, 109, 110, 111, 112, 113, 114, 115, 116, 117, 118, 119, 120, 121, 122, 123, 124, 125, 126, 131, 132, 133, 134, 135, 136, 137, 138, 139, 140, 141, 142] (by decide +kernel) (by decide +kernel)
set_option maxRecDepth 20000 in
theorem gX2_numerator_X2_takeApart : GoodIn wsX2_numerator (wsV RX2 52 RX2 yX2_takeApart wsX2_takeApart) := goodIn_app (goodIn_of _ (by decide +kernel)) ggX2_numerator_X2_takeApart
set_option maxRecDepth 20000 in
theorem ggX2_numerator_X1_degree : GoodIn wsX2_numerator wsX1_degree := goodIn_r _ [130, 16, 142] (by decide +kernel) (by decide +kernel)
set_option maxRecDepth 20000 in
theorem gX2_numerator_X1_degree : GoodIn wsX2_numerator (wsV RX2 77 RX1 yX1_degree wsX1_degree) := goodIn_app (goodIn_of _ (by decide +kernel)) ggX2_numerator_X1_degree
set_option maxRecDepth 20000 in
theorem ggX2_denominator_X2_readProduct : GoodIn wsX2_denominator wsX2_readProduct := goodIn_r _ [17, 6, 5, 18, 19, 20, 21, 22, 23, 24, 16, 25, 26, 27, 28, 29, 30, 31, 32, 33, 34, 35, 36, 37, 38, 39, 40, 41, 42, 43, 44, 45, 46, 47, 48, 49, 131, 132, 133, 134, 135, 136, 137, 138, 139, 140, 141, 142, 143, 144] (by decide +kernel) (by decide +kernel)
set_option maxRecDepth 20000 in
theorem gX2_denominator_X2_readProduct : GoodIn wsX2_denominator (wsV RX2 81 RX2 yX2_readProduct wsX2_readProduct) := goodIn_app (goodIn_of _ (by decide +kernel)) ggX2_denominator_X2_readProduct
set_option maxRecDepth 20000 in
theorem ggX2_denominator_X0_empty : GoodIn wsX2_denominator wsX0_empty := goodIn_r _ [53, 37, 32, 142, 143, 144] (by decide +kernel) (by decide +kernel)
set_option maxRecDepth 20000 in
theorem gX2_denominator_X0_empty : GoodIn wsX2_denominator (wsV RX2 63 RX0 yX0_empty wsX0_empty) := goodIn_app (goodIn_of _ (by decide +kernel)) ggX2_denominator_X0_empty
set_option maxRecDepth 20000 in
theorem ggX2_denominator_X2_sum : GoodIn wsX2_denominator wsX2_sum := goodIn_r _ [56] (by decide +kernel) (by decide +kernel)
set_option maxRecDepth 20000 in
theorem gX2_denominator_X2_sum : GoodIn wsX2_denominator (va_wsS RX2 86 yX2_sum wsX2_sum) := goodIn_app (goodIn_of _ (by decide +kernel)) ggX2_denominator_X2_sum
set_option maxRecDepth 20000 in
theorem ggX2_denominator_X2_takeApart : GoodIn wsX2_denominator wsX2_takeApart := goodIn_r _ [60, 12, 61, 62, 63, 64, 65, 66, 67, 68, 69, 70, 71, 72, 73, 74, 75, 76, 20, 77, 78, 79, 80, 81, 82, 9, 10, 11, 83, 84, 85, 86, 16, 87, 7, 46, 47, 48, 88, 89, 90, 91, 92, 93, 94, 95, 96, 97, 98, 99, 100, 101, 102, 103, 104, 105, 106, 107, 108, 109, 110, 111, 112, 113, 114, 115, 116, 117, 118, 119, 120, 121, 122, 123, 124, 125, 126, 131, 132, 133, 134, 135, 136, 137, 138, 139, 140, 141, 145] (by decide +kernel) (by decide +kernel)
set_option maxRecDepth 20000 in
theorem gX2_denominator_X2_takeApart : GoodIn wsX2_denominator (wsV RX2 52 RX2 yX2_takeApart wsX2_takeApart) := goodIn_app (goodIn_of _ (by decide +kernel)) ggX2_denominator_X2_takeApart
set_option maxRecDepth 20000 in
theorem ggX2_denominator_X1_degree : GoodIn wsX2_denominator wsX1_degree := goodIn_r _ [130, 70, 145] (by decide +kernel) (by decide +kernel)
set_option maxRecDepth 20000 in
theorem gX2_denominator_X1_degree : GoodIn wsX2_denominator (wsV RX2 77 RX1 yX1_degree wsX1_degree) := goodIn_app (goodIn_of _ (by decide +kernel)) ggX2_denominator_X1_degree
set_option maxRecDepth 20000 in
theorem ggX2_coefficient_X1_get : GoodIn wsX2_coefficient wsX1_get := goodIn_r _ [8, 9, 21] (by decide +kernel) (by decide +kernel)
set_option maxRecDepth 20000 in
theorem gX2_coefficient_X1_get : GoodIn wsX2_coefficient (wsV RX2 101 RX1 yX1_get wsX1_get) := goodIn_app (goodIn_of _ (by decide +kernel)) ggX2_coefficient_X1_get
set_option maxRecDepth 20000 in
theorem ggX2_many_X2_isPossibleRoot : GoodIn wsX2_many wsX2_isPossibleRoot := goodIn_r _ [5] (by decide +kernel) (by decide +kernel)
set_option maxRecDepth 20000 in
theorem gX2_many_X2_isPossibleRoot : GoodIn wsX2_many (va_wsS RX2 105 yX2_isPossibleRoot wsX2_isPossibleRoot) := goodIn_app (goodIn_of _ (by decide +kernel)) ggX2_many_X2_isPossibleRoot
set_option maxRecDepth 20000 in
theorem ggX2_part_X2_many : GoodIn wsX2_part wsX2_many := goodIn_r _ [7, 8, 9, 10, 6, 11, 28, 29, 30, 31, 32, 33, 34, 35, 36, 37, 38] (by decide +kernel) (by decide +kernel)
set_option maxRecDepth 20000 in
theorem gX2_part_X2_many : GoodIn wsX2_part (wsV RX2 109 RX2 yX2_many wsX2_many) := goodIn_app (goodIn_of _ (by decide +kernel)) ggX2_part_X2_many
set_option maxRecDepth 20000 in
theorem ggX2_part_X2_isSide : GoodIn wsX2_part wsX2_isSide := goodIn_r _ [14] (by decide +kernel) (by decide +kernel)
set_option maxRecDepth 20000 in
theorem gX2_part_X2_isSide : GoodIn wsX2_part (va_wsS RX2 113 yX2_isSide wsX2_isSide) := goodIn_app (goodIn_of _ (by decide +kernel)) ggX2_part_X2_isSide
set_option maxRecDepth 20000 in
theorem ggX2_part_X2_partAbove : GoodIn wsX2_part wsX2_partAbove := goodIn_r _ [18, 19, 20, 21, 6, 22, 9, 10, 11, 28, 29, 30, 31, 32, 33, 34, 35, 36, 37, 38] (by decide +kernel) (by decide +kernel)
set_option maxRecDepth 20000 in
theorem gX2_part_X2_partAbove : GoodIn wsX2_part (wsV RX2 118 RX2 yX2_partAbove wsX2_partAbove) := goodIn_app (goodIn_of _ (by decide +kernel)) ggX2_part_X2_partAbove
set_option maxRecDepth 20000 in
theorem ggX2_part_X2_partBelow : GoodIn wsX2_part wsX2_partBelow := goodIn_r _ [26, 27, 20, 21, 6, 22, 9, 10, 11, 28, 29, 30, 31, 32, 33, 34, 35, 36, 37, 38] (by decide +kernel) (by decide +kernel)
set_option maxRecDepth 20000 in
theorem gX2_part_X2_partBelow : GoodIn wsX2_part (wsV RX2 122 RX2 yX2_partBelow wsX2_partBelow) := goodIn_app (goodIn_of _ (by decide +kernel)) ggX2_part_X2_partBelow
set_option maxRecDepth 20000 in
theorem ggX2_integral_X2_isInIntegral : GoodIn wsX2_integral wsX2_isInIntegral := goodIn_r _ [8, 9, 10, 11, 7, 12, 13, 14, 15, 16, 49, 50, 51, 52, 53, 54, 55, 56, 57, 58, 59] (by decide +kernel) (by decide +kernel)
set_option maxRecDepth 20000 in
theorem gX2_integral_X2_isInIntegral : GoodIn wsX2_integral (wsV RX2 125 RX2 yX2_isInIntegral wsX2_isInIntegral) := goodIn_app (goodIn_of _ (by decide +kernel)) ggX2_integral_X2_isInIntegral
set_option maxRecDepth 20000 in
theorem ggX2_integral_X2_isSide : GoodIn wsX2_integral wsX2_isSide := goodIn_r _ [19] (by decide +kernel) (by decide +kernel)
set_option maxRecDepth 20000 in
theorem gX2_integral_X2_isSide : GoodIn wsX2_integral (va_wsS RX2 113 yX2_isSide wsX2_isSide) := goodIn_app (goodIn_of _ (by decide +kernel)) ggX2_integral_X2_isSide
set_option maxRecDepth 20000 in
theorem ggX2_integral_X1_get : GoodIn wsX2_integral wsX1_get := goodIn_r _ [24, 25, 60] (by decide +kernel) (by decide +kernel)
set_option maxRecDepth 20000 in
theorem gX2_integral_X1_get : GoodIn wsX2_integral (wsV RX2 101 RX1 yX1_get wsX1_get) := goodIn_app (goodIn_of _ (by decide +kernel)) ggX2_integral_X1_get
set_option maxRecDepth 20000 in
theorem ggX2_integral_X2_inLowestTerms : GoodIn wsX2_integral wsX2_inLowestTerms := goodIn_r _ [28, 29, 30, 7, 31, 32, 33, 34, 35] (by decide +kernel) (by decide +kernel)
set_option maxRecDepth 20000 in
theorem gX2_integral_X2_inLowestTerms : GoodIn wsX2_integral (va_wsS RX2 131 yX2_inLowestTerms wsX2_inLowestTerms) := goodIn_app (goodIn_of _ (by decide +kernel)) ggX2_integral_X2_inLowestTerms
set_option maxRecDepth 20000 in
theorem ggX2_integral_X2_partAbove : GoodIn wsX2_integral wsX2_partAbove := goodIn_r _ [39, 40, 41, 42, 7, 43, 14, 15, 16, 49, 50, 51, 52, 53, 54, 55, 56, 57, 58, 59] (by decide +kernel) (by decide +kernel)
set_option maxRecDepth 20000 in
theorem gX2_integral_X2_partAbove : GoodIn wsX2_integral (wsV RX2 118 RX2 yX2_partAbove wsX2_partAbove) := goodIn_app (goodIn_of _ (by decide +kernel)) ggX2_integral_X2_partAbove
set_option maxRecDepth 20000 in
theorem ggX2_integral_X2_partBelow : GoodIn wsX2_integral wsX2_partBelow := goodIn_r _ [47, 48, 41, 42, 7, 43, 14, 15, 16, 49, 50, 51, 52, 53, 54, 55, 56, 57, 58, 59] (by decide +kernel) (by decide +kernel)
set_option maxRecDepth 20000 in
theorem gX2_integral_X2_partBelow : GoodIn wsX2_integral (wsV RX2 122 RX2 yX2_partBelow wsX2_partBelow) := goodIn_app (goodIn_of _ (by decide +kernel)) ggX2_integral_X2_partBelow
set_option maxRecDepth 20000 in
theorem ggX2_value_X2_many : GoodIn wsX2_value wsX2_many := goodIn_r _ [9, 10, 11, 12, 8, 13, 33, 34, 35, 36, 37, 38, 39, 40, 41, 42, 43] (by decide +kernel) (by decide +kernel)
set_option maxRecDepth 20000 in
theorem gX2_value_X2_many : GoodIn wsX2_value (wsV RX2 109 RX2 yX2_many wsX2_many) := goodIn_app (goodIn_of _ (by decide +kernel)) ggX2_value_X2_many
set_option maxRecDepth 20000 in
theorem ggX2_value_X2_isSide : GoodIn wsX2_value wsX2_isSide := goodIn_r _ [16] (by decide +kernel) (by decide +kernel)
set_option maxRecDepth 20000 in
theorem gX2_value_X2_isSide : GoodIn wsX2_value (va_wsS RX2 113 yX2_isSide wsX2_isSide) := goodIn_app (goodIn_of _ (by decide +kernel)) ggX2_value_X2_isSide
set_option maxRecDepth 20000 in
theorem ggX2_value_X1_exactlyAt : GoodIn wsX2_value wsX1_exactlyAt := goodIn_r _ [21, 22, 44] (by decide +kernel) (by decide +kernel)
set_option maxRecDepth 20000 in
theorem gX2_value_X1_exactlyAt : GoodIn wsX2_value (wsV RX2 137 RX1 yX1_exactlyAt wsX1_exactlyAt) := goodIn_app (goodIn_of _ (by decide +kernel)) ggX2_value_X1_exactlyAt
set_option maxRecDepth 20000 in
theorem ggX2_value_X2_inLowestTerms : GoodIn wsX2_value wsX2_inLowestTerms := goodIn_r _ [25, 26, 27, 8, 28, 29, 30, 31, 32] (by decide +kernel) (by decide +kernel)
set_option maxRecDepth 20000 in
theorem gX2_value_X2_inLowestTerms : GoodIn wsX2_value (va_wsS RX2 131 yX2_inLowestTerms wsX2_inLowestTerms) := goodIn_app (goodIn_of _ (by decide +kernel)) ggX2_value_X2_inLowestTerms
set_option maxRecDepth 20000 in
theorem ggX2_at_X2_isNear : GoodIn wsX2_at wsX2_isNear := goodIn_r _ [8, 9, 10] (by decide +kernel) (by decide +kernel)
set_option maxRecDepth 20000 in
theorem gX2_at_X2_isNear : GoodIn wsX2_at (va_wsS RX2 140 yX2_isNear wsX2_isNear) := goodIn_app (goodIn_of _ (by decide +kernel)) ggX2_at_X2_isNear
set_option maxRecDepth 20000 in
theorem ggX2_at_X1_inDoublesAt : GoodIn wsX2_at wsX1_inDoublesAt := goodIn_r _ [15, 16, 28] (by decide +kernel) (by decide +kernel)
set_option maxRecDepth 20000 in
theorem gX2_at_X1_inDoublesAt : GoodIn wsX2_at (wsV RX2 146 RX1 yX1_inDoublesAt wsX1_inDoublesAt) := goodIn_app (goodIn_of _ (by decide +kernel)) ggX2_at_X1_inDoublesAt
set_option maxRecDepth 20000 in
theorem ggX2_byParts_X2_isNear : GoodIn wsX2_byParts wsX2_isNear := goodIn_r _ [7, 8, 9] (by decide +kernel) (by decide +kernel)
set_option maxRecDepth 20000 in
theorem gX2_byParts_X2_isNear : GoodIn wsX2_byParts (va_wsS RX2 140 yX2_isNear wsX2_isNear) := goodIn_app (goodIn_of _ (by decide +kernel)) ggX2_byParts_X2_isNear
set_option maxRecDepth 20000 in
theorem ggX2_byParts_X1_inDoublesAt : GoodIn wsX2_byParts wsX1_inDoublesAt := goodIn_r _ [14, 15, 52] (by decide +kernel) (by decide +kernel)
set_option maxRecDepth 20000 in
theorem gX2_byParts_X1_inDoublesAt : GoodIn wsX2_byParts (wsV RX2 146 RX1 yX1_inDoublesAt wsX1_inDoublesAt) := goodIn_app (goodIn_of _ (by decide +kernel)) ggX2_byParts_X1_inDoublesAt
set_option maxRecDepth 20000 in
theorem ggX2_byParts_X2_withPartsOf : GoodIn wsX2_byParts wsX2_withPartsOf := goodIn_r _ [19, 20, 21, 22, 6, 23, 24, 25, 26, 27, 28, 29, 30, 31, 32, 33, 34, 35, 36, 37, 38, 39, 40, 41, 42, 43, 44, 45, 46, 47, 48, 49, 50, 51] (by decide +kernel) (by decide +kernel)
set_option maxRecDepth 20000 in
theorem gX2_byParts_X2_withPartsOf : GoodIn wsX2_byParts (wsV RX2 150 RX2 yX2_withPartsOf wsX2_withPartsOf) := goodIn_app (goodIn_of _ (by decide +kernel)) ggX2_byParts_X2_withPartsOf
set_option maxRecDepth 20000 in
theorem ggX2_withPartsOf_X2_many : GoodIn wsX2_withPartsOf wsX2_many := goodIn_r _ [5, 6, 7, 8, 4, 9, 23, 24, 25, 26, 27, 28, 29, 30, 31, 32, 33] (by decide +kernel) (by decide +kernel)
set_option maxRecDepth 20000 in
theorem gX2_withPartsOf_X2_many : GoodIn wsX2_withPartsOf (wsV RX2 109 RX2 yX2_many wsX2_many) := goodIn_app (goodIn_of _ (by decide +kernel)) ggX2_withPartsOf_X2_many
set_option maxRecDepth 20000 in
theorem ggX2_withPartsOf_X2_partAbove : GoodIn wsX2_withPartsOf wsX2_partAbove := goodIn_r _ [13, 14, 15, 16, 4, 17, 7, 8, 9, 23, 24, 25, 26, 27, 28, 29, 30, 31, 32, 33] (by decide +kernel) (by decide +kernel)
set_option maxRecDepth 20000 in
theorem gX2_withPartsOf_X2_partAbove : GoodIn wsX2_withPartsOf (wsV RX2 118 RX2 yX2_partAbove wsX2_partAbove) := goodIn_app (goodIn_of _ (by decide +kernel)) ggX2_withPartsOf_X2_partAbove
set_option maxRecDepth 20000 in
theorem ggX2_withPartsOf_X2_partBelow : GoodIn wsX2_withPartsOf wsX2_partBelow := goodIn_r _ [21, 22, 15, 16, 4, 17, 7, 8, 9, 23, 24, 25, 26, 27, 28, 29, 30, 31, 32, 33] (by decide +kernel) (by decide +kernel)
set_option maxRecDepth 20000 in
theorem gX2_withPartsOf_X2_partBelow : GoodIn wsX2_withPartsOf (wsV RX2 122 RX2 yX2_partBelow wsX2_partBelow) := goodIn_app (goodIn_of _ (by decide +kernel)) ggX2_withPartsOf_X2_partBelow
set_option maxRecDepth 20000 in
theorem ggX2_isInIntegral_X2_many : GoodIn wsX2_isInIntegral wsX2_many := goodIn_r _ [5, 6, 7, 8, 4, 9, 10, 11, 12, 13, 14, 15, 16, 17, 18, 19, 20] (by decide +kernel) (by decide +kernel)
set_option maxRecDepth 20000 in
theorem gX2_isInIntegral_X2_many : GoodIn wsX2_isInIntegral (wsV RX2 109 RX2 yX2_many wsX2_many) := goodIn_app (goodIn_of _ (by decide +kernel)) ggX2_isInIntegral_X2_many
set_option maxRecDepth 20000 in
theorem ggX2_placeOfPart_X2_isPossibleRoot : GoodIn wsX2_placeOfPart wsX2_isPossibleRoot := goodIn_r _ [4] (by decide +kernel) (by decide +kernel)
set_option maxRecDepth 20000 in
theorem gX2_placeOfPart_X2_isPossibleRoot : GoodIn wsX2_placeOfPart (va_wsS RX2 105 yX2_isPossibleRoot wsX2_isPossibleRoot) := goodIn_app (goodIn_of _ (by decide +kernel)) ggX2_placeOfPart_X2_isPossibleRoot
set_option maxRecDepth 20000 in
theorem ggX2_partAbove_X2_placeOfPart : GoodIn wsX2_partAbove wsX2_placeOfPart := goodIn_r _ [5, 6, 7, 4, 8] (by decide +kernel) (by decide +kernel)
set_option maxRecDepth 20000 in
theorem gX2_partAbove_X2_placeOfPart : GoodIn wsX2_partAbove (va_wsS RX2 158 yX2_placeOfPart wsX2_placeOfPart) := goodIn_app (goodIn_of _ (by decide +kernel)) ggX2_partAbove_X2_placeOfPart
set_option maxRecDepth 20000 in
theorem ggX2_partBelow_X2_placeOfPart : GoodIn wsX2_partBelow wsX2_placeOfPart := goodIn_r _ [5, 6, 7, 4, 8] (by decide +kernel) (by decide +kernel)
set_option maxRecDepth 20000 in
theorem gX2_partBelow_X2_placeOfPart : GoodIn wsX2_partBelow (va_wsS RX2 158 yX2_placeOfPart wsX2_placeOfPart) := goodIn_app (goodIn_of _ (by decide +kernel)) ggX2_partBelow_X2_placeOfPart
set_option maxRecDepth 20000 in
theorem ggX2_keepPart_X2_placeOfPart : GoodIn wsX2_keepPart wsX2_placeOfPart := goodIn_r _ [6, 7, 8, 5, 9] (by decide +kernel) (by decide +kernel)
set_option maxRecDepth 20000 in
theorem gX2_keepPart_X2_placeOfPart : GoodIn wsX2_keepPart (va_wsS RX2 158 yX2_placeOfPart wsX2_placeOfPart) := goodIn_app (goodIn_of _ (by decide +kernel)) ggX2_keepPart_X2_placeOfPart
set_option maxRecDepth 20000 in
theorem ggX2_keepPart_X2_inLowestTerms : GoodIn wsX2_keepPart wsX2_inLowestTerms := goodIn_r _ [12, 13, 14, 5, 15, 16, 17, 18, 19] (by decide +kernel) (by decide +kernel)
set_option maxRecDepth 20000 in
theorem gX2_keepPart_X2_inLowestTerms : GoodIn wsX2_keepPart (va_wsS RX2 131 yX2_inLowestTerms wsX2_inLowestTerms) := goodIn_app (goodIn_of _ (by decide +kernel)) ggX2_keepPart_X2_inLowestTerms
set_option maxRecDepth 20000 in
theorem ggX2_inLowestTerms_X2_commonDivisor : GoodIn wsX2_inLowestTerms wsX2_commonDivisor := goodIn_r _ [4, 5, 6, 7, 8] (by decide +kernel) (by decide +kernel)
set_option maxRecDepth 20000 in
theorem gX2_inLowestTerms_X2_commonDivisor : GoodIn wsX2_inLowestTerms (va_wsS RX2 162 yX2_commonDivisor wsX2_commonDivisor) := goodIn_app (goodIn_of _ (by decide +kernel)) ggX2_inLowestTerms_X2_commonDivisor
set_option maxRecDepth 20000 in
theorem ggX2_takeApart_X1_becomeOne : GoodIn wsX2_takeApart wsX1_becomeOne := goodIn_r _ [10, 11, 12, 13, 14, 9, 15, 16, 17, 18, 19, 88] (by decide +kernel) (by decide +kernel)
set_option maxRecDepth 20000 in
theorem gX2_takeApart_X1_becomeOne : GoodIn wsX2_takeApart (wsV RX2 172 RX1 yX1_becomeOne wsX1_becomeOne) := goodIn_app (goodIn_of _ (by decide +kernel)) ggX2_takeApart_X1_becomeOne
set_option maxRecDepth 20000 in
theorem ggX2_takeApart_X1_become : GoodIn wsX2_takeApart wsX1_become := goodIn_r _ [23, 11, 24, 25, 26, 27, 88] (by decide +kernel) (by decide +kernel)
set_option maxRecDepth 20000 in
theorem gX2_takeApart_X1_become : GoodIn wsX2_takeApart (wsV RX2 73 RX1 yX1_become wsX1_become) := goodIn_app (goodIn_of _ (by decide +kernel)) ggX2_takeApart_X1_become
set_option maxRecDepth 20000 in
theorem ggX2_takeApart_J7_fill_d0a16 : GoodIn wsX2_takeApart wsJ7_fill_d0a16 := goodIn_r _ [19] (by decide +kernel) (by decide +kernel)
set_option maxRecDepth 20000 in
theorem gX2_takeApart_J7_fill_d0a16 : GoodIn wsX2_takeApart (va_wsS RX2 175 yJ7_fill_d0a16 wsJ7_fill_d0a16) := goodIn_app (goodIn_of _ (by decide +kernel)) ggX2_takeApart_J7_fill_d0a16
set_option maxRecDepth 20000 in
theorem ggX2_takeApart_X2_many : GoodIn wsX2_takeApart wsX2_many := goodIn_r _ [33, 34, 35, 36, 32, 37, 77, 78, 79, 80, 81, 82, 83, 84, 85, 86, 87] (by decide +kernel) (by decide +kernel)
set_option maxRecDepth 20000 in
theorem gX2_takeApart_X2_many : GoodIn wsX2_takeApart (wsV RX2 109 RX2 yX2_many wsX2_many) := goodIn_app (goodIn_of _ (by decide +kernel)) ggX2_takeApart_X2_many
set_option maxRecDepth 20000 in
theorem ggX2_takeApart_X1_multiplyByFactorOf : GoodIn wsX2_takeApart wsX1_multiplyByFactorOf := goodIn_r _ [41, 11, 88] (by decide +kernel) (by decide +kernel)
set_option maxRecDepth 20000 in
theorem gX2_takeApart_X1_multiplyByFactorOf : GoodIn wsX2_takeApart (wsV RX2 181 RX1 yX1_multiplyByFactorOf wsX1_multiplyByFactorOf) := goodIn_app (goodIn_of _ (by decide +kernel)) ggX2_takeApart_X1_multiplyByFactorOf
set_option maxRecDepth 20000 in
theorem ggX2_takeApart_X1_divideByFactorOf : GoodIn wsX2_takeApart wsX1_divideByFactorOf := goodIn_r _ [45, 11, 88] (by decide +kernel) (by decide +kernel)
set_option maxRecDepth 20000 in
theorem gX2_takeApart_X1_divideByFactorOf : GoodIn wsX2_takeApart (wsV RX2 185 RX1 yX1_divideByFactorOf wsX1_divideByFactorOf) := goodIn_app (goodIn_of _ (by decide +kernel)) ggX2_takeApart_X1_divideByFactorOf
set_option maxRecDepth 20000 in
theorem ggX2_takeApart_X2_makePartsOf : GoodIn wsX2_takeApart wsX2_makePartsOf := goodIn_r _ [49, 50, 3, 51, 20, 21, 22, 9, 23, 11, 24, 25, 26, 27, 52, 53, 54, 32, 55, 6, 7, 8, 10, 12, 13, 14, 15, 16, 17, 18, 19, 29, 30, 31, 33, 34, 35, 36, 37, 38, 39, 40, 41, 42, 43, 44, 45, 56, 57, 58, 59, 4, 5, 60, 61, 62, 63, 64, 65, 66, 67, 68, 69, 70, 71, 72, 73, 74, 75, 76, 77, 78, 79, 80, 81, 82, 83, 84, 85, 86, 87, 88] (by decide +kernel) (by decide +kernel)
set_option maxRecDepth 20000 in
theorem gX2_takeApart_X2_makePartsOf : GoodIn wsX2_takeApart (wsV RX2 188 RX2 yX2_makePartsOf wsX2_makePartsOf) := goodIn_app (goodIn_of _ (by decide +kernel)) ggX2_takeApart_X2_makePartsOf
set_option maxRecDepth 20000 in
theorem ggX2_makePartsOf_X1_become : GoodIn wsX2_makePartsOf wsX1_become := goodIn_r _ [8, 9, 10, 11, 12, 13, 81] (by decide +kernel) (by decide +kernel)
set_option maxRecDepth 20000 in
theorem gX2_makePartsOf_X1_become : GoodIn wsX2_makePartsOf (wsV RX2 73 RX1 yX1_become wsX1_become) := goodIn_app (goodIn_of _ (by decide +kernel)) ggX2_makePartsOf_X1_become
set_option maxRecDepth 20000 in
theorem ggX2_makePartsOf_X2_multiplyOtherFactors : GoodIn wsX2_makePartsOf wsX2_multiplyOtherFactors := goodIn_r _ [18, 3, 19, 20, 21, 7, 22, 9, 23, 24, 25, 26, 27, 28, 29, 30, 31, 32, 33, 17, 34, 35, 36, 37, 38, 39, 40, 41, 42, 70, 71, 72, 73, 74, 75, 76, 77, 78, 79, 80, 81] (by decide +kernel) (by decide +kernel)
set_option maxRecDepth 20000 in
theorem gX2_makePartsOf_X2_multiplyOtherFactors : GoodIn wsX2_makePartsOf (wsV RX2 191 RX2 yX2_multiplyOtherFactors wsX2_multiplyOtherFactors) := goodIn_app (goodIn_of _ (by decide +kernel)) ggX2_makePartsOf_X2_multiplyOtherFactors
set_option maxRecDepth 20000 in
theorem ggX2_makePartsOf_X1_divideByFactorOf : GoodIn wsX2_makePartsOf wsX1_divideByFactorOf := goodIn_r _ [46, 9, 81] (by decide +kernel) (by decide +kernel)
set_option maxRecDepth 20000 in
theorem gX2_makePartsOf_X1_divideByFactorOf : GoodIn wsX2_makePartsOf (wsV RX2 185 RX1 yX1_divideByFactorOf wsX1_divideByFactorOf) := goodIn_app (goodIn_of _ (by decide +kernel)) ggX2_makePartsOf_X1_divideByFactorOf
set_option maxRecDepth 20000 in
theorem ggX2_makePartsOf_X2_many : GoodIn wsX2_makePartsOf wsX2_many := goodIn_r _ [34, 35, 36, 37, 17, 38, 70, 71, 72, 73, 74, 75, 76, 77, 78, 79, 80] (by decide +kernel) (by decide +kernel)
set_option maxRecDepth 20000 in
theorem gX2_makePartsOf_X2_many : GoodIn wsX2_makePartsOf (wsV RX2 109 RX2 yX2_many wsX2_many) := goodIn_app (goodIn_of _ (by decide +kernel)) ggX2_makePartsOf_X2_many
set_option maxRecDepth 20000 in
theorem ggX2_makePartsOf_X2_keepPart : GoodIn wsX2_makePartsOf wsX2_keepPart := goodIn_r _ [50, 51, 52, 53, 54, 17, 55, 36, 37, 38, 56, 57, 58, 59, 60, 61, 62, 63, 64, 65, 70, 71, 72, 73, 74, 75, 76, 77, 78, 79, 80] (by decide +kernel) (by decide +kernel)
set_option maxRecDepth 20000 in
theorem gX2_makePartsOf_X2_keepPart : GoodIn wsX2_makePartsOf (wsV RX2 194 RX2 yX2_keepPart wsX2_keepPart) := goodIn_app (goodIn_of _ (by decide +kernel)) ggX2_makePartsOf_X2_keepPart
set_option maxRecDepth 20000 in
theorem ggX2_makePartsOf_X1_mix : GoodIn wsX2_makePartsOf wsX1_mix := goodIn_r _ [69, 9, 81] (by decide +kernel) (by decide +kernel)
set_option maxRecDepth 20000 in
theorem gX2_makePartsOf_X1_mix : GoodIn wsX2_makePartsOf (wsV RX2 198 RX1 yX1_mix wsX1_mix) := goodIn_app (goodIn_of _ (by decide +kernel)) ggX2_makePartsOf_X1_mix
set_option maxRecDepth 20000 in
theorem ggX2_multiplyOtherFactors_X1_becomeOne : GoodIn wsX2_multiplyOtherFactors wsX1_becomeOne := goodIn_r _ [6, 7, 8, 9, 10, 5, 11, 12, 13, 14, 15, 40] (by decide +kernel) (by decide +kernel)
set_option maxRecDepth 20000 in
theorem gX2_multiplyOtherFactors_X1_becomeOne : GoodIn wsX2_multiplyOtherFactors (wsV RX2 172 RX1 yX1_becomeOne wsX1_becomeOne) := goodIn_app (goodIn_of _ (by decide +kernel)) ggX2_multiplyOtherFactors_X1_becomeOne
set_option maxRecDepth 20000 in
theorem ggX2_multiplyOtherFactors_X2_many : GoodIn wsX2_multiplyOtherFactors wsX2_many := goodIn_r _ [20, 21, 22, 23, 19, 24, 29, 30, 31, 32, 33, 34, 35, 36, 37, 38, 39] (by decide +kernel) (by decide +kernel)
set_option maxRecDepth 20000 in
theorem gX2_multiplyOtherFactors_X2_many : GoodIn wsX2_multiplyOtherFactors (wsV RX2 109 RX2 yX2_many wsX2_many) := goodIn_app (goodIn_of _ (by decide +kernel)) ggX2_multiplyOtherFactors_X2_many
set_option maxRecDepth 20000 in
theorem ggX2_multiplyOtherFactors_X1_multiplyByFactorOf : GoodIn wsX2_multiplyOtherFactors wsX1_multiplyByFactorOf := goodIn_r _ [28, 7, 40] (by decide +kernel) (by decide +kernel)
set_option maxRecDepth 20000 in
theorem gX2_multiplyOtherFactors_X1_multiplyByFactorOf : GoodIn wsX2_multiplyOtherFactors (wsV RX2 181 RX1 yX1_multiplyByFactorOf wsX1_multiplyByFactorOf) := goodIn_app (goodIn_of _ (by decide +kernel)) ggX2_multiplyOtherFactors_X1_multiplyByFactorOf
set_option maxRecDepth 20000 in
theorem ggX2_readPolynomial_X1_becomeZero : GoodIn wsX2_readPolynomial wsX1_becomeZero := goodIn_r _ [7, 8, 9, 10, 11, 12, 58] (by decide +kernel) (by decide +kernel)
set_option maxRecDepth 20000 in
theorem gX2_readPolynomial_X1_becomeZero : GoodIn wsX2_readPolynomial (wsV RX2 202 RX1 yX1_becomeZero wsX1_becomeZero) := goodIn_app (goodIn_of _ (by decide +kernel)) ggX2_readPolynomial_X1_becomeZero
set_option maxRecDepth 20000 in
theorem ggX2_readPolynomial_X2_readTerm : GoodIn wsX2_readPolynomial wsX2_readTerm := goodIn_r _ [17, 2, 1, 18, 19, 20, 21, 22, 23, 24, 25, 26, 27, 28, 29, 30, 31, 32, 16, 33, 34, 35, 36, 37, 38, 39, 40, 41, 42, 43, 44, 6, 45, 8, 47, 48, 49, 50, 51, 52, 53, 54, 55, 56, 57, 59, 60, 61, 58] (by decide +kernel) (by decide +kernel)
set_option maxRecDepth 20000 in
theorem gX2_readPolynomial_X2_readTerm : GoodIn wsX2_readPolynomial (wsV RX2 205 RX2 yX2_readTerm wsX2_readTerm) := goodIn_app (goodIn_of _ (by decide +kernel)) ggX2_readPolynomial_X2_readTerm
set_option maxRecDepth 20000 in
theorem ggX2_readPolynomial_X0_isAtEnd : GoodIn wsX2_readPolynomial wsX0_isAtEnd := goodIn_r _ [28, 24, 29, 59, 60, 61] (by decide +kernel) (by decide +kernel)
set_option maxRecDepth 20000 in
theorem gX2_readPolynomial_X0_isAtEnd : GoodIn wsX2_readPolynomial (wsV RX2 209 RX0 yX0_isAtEnd wsX0_isAtEnd) := goodIn_app (goodIn_of _ (by decide +kernel)) ggX2_readPolynomial_X0_isAtEnd
set_option maxRecDepth 20000 in
theorem ggX2_readTerm_X0_takes : GoodIn wsX2_readTerm wsX0_takes := goodIn_r _ [7, 8, 9, 10, 11, 12, 6, 13, 14, 45, 46, 47] (by decide +kernel) (by decide +kernel)
set_option maxRecDepth 20000 in
theorem gX2_readTerm_X0_takes : GoodIn wsX2_readTerm (wsV RX2 212 RX0 yX0_takes wsX0_takes) := goodIn_app (goodIn_of _ (by decide +kernel)) ggX2_readTerm_X0_takes
set_option maxRecDepth 20000 in
theorem ggX2_readTerm_X2_readNumber : GoodIn wsX2_readTerm wsX2_readNumber := goodIn_r _ [19, 1, 20, 21, 22, 6, 23, 8, 9, 10, 11, 12, 13, 14, 34, 35, 36, 37, 38, 39, 40, 41, 42, 43, 44, 45, 46, 47] (by decide +kernel) (by decide +kernel)
set_option maxRecDepth 20000 in
theorem gX2_readTerm_X2_readNumber : GoodIn wsX2_readTerm (wsV RX2 215 RX2 yX2_readNumber wsX2_readNumber) := goodIn_app (goodIn_of _ (by decide +kernel)) ggX2_readTerm_X2_readNumber
set_option maxRecDepth 20000 in
theorem ggX2_readTerm_X2_readPowerOfX : GoodIn wsX2_readTerm wsX2_readPowerOfX := goodIn_r _ [27, 1, 3, 4, 5, 6, 7, 8, 9, 10, 11, 12, 13, 14, 20, 21, 22, 23, 34, 35, 36, 37, 38, 39, 40, 41, 42, 43, 44, 45, 46, 47] (by decide +kernel) (by decide +kernel)
set_option maxRecDepth 20000 in
theorem gX2_readTerm_X2_readPowerOfX : GoodIn wsX2_readTerm (wsV RX2 218 RX2 yX2_readPowerOfX wsX2_readPowerOfX) := goodIn_app (goodIn_of _ (by decide +kernel)) ggX2_readTerm_X2_readPowerOfX
set_option maxRecDepth 20000 in
theorem ggX2_readTerm_X1_add : GoodIn wsX2_readTerm wsX1_add := goodIn_r _ [32, 33, 48] (by decide +kernel) (by decide +kernel)
set_option maxRecDepth 20000 in
theorem gX2_readTerm_X1_add : GoodIn wsX2_readTerm (wsV RX2 221 RX1 yX1_add wsX1_add) := goodIn_app (goodIn_of _ (by decide +kernel)) ggX2_readTerm_X1_add
set_option maxRecDepth 20000 in
theorem ggX2_readNumber_X0_takeDigit : GoodIn wsX2_readNumber wsX0_takeDigit := goodIn_r _ [6, 7, 8, 9, 10, 11, 5, 12, 13, 25, 26, 27] (by decide +kernel) (by decide +kernel)
set_option maxRecDepth 20000 in
theorem gX2_readNumber_X0_takeDigit : GoodIn wsX2_readNumber (wsV RX2 225 RX0 yX0_takeDigit wsX0_takeDigit) := goodIn_app (goodIn_of _ (by decide +kernel)) ggX2_readNumber_X0_takeDigit
set_option maxRecDepth 20000 in
theorem ggX2_readPowerOfX_X0_takes : GoodIn wsX2_readPowerOfX wsX0_takes := goodIn_r _ [6, 7, 8, 9, 10, 11, 5, 12, 13, 29, 30, 31] (by decide +kernel) (by decide +kernel)
set_option maxRecDepth 20000 in
theorem gX2_readPowerOfX_X0_takes : GoodIn wsX2_readPowerOfX (wsV RX2 212 RX0 yX0_takes wsX0_takes) := goodIn_app (goodIn_of _ (by decide +kernel)) ggX2_readPowerOfX_X0_takes
set_option maxRecDepth 20000 in
theorem ggX2_readPowerOfX_X0_takeDigit : GoodIn wsX2_readPowerOfX wsX0_takeDigit := goodIn_r _ [17, 7, 8, 9, 10, 11, 5, 12, 13, 29, 30, 31] (by decide +kernel) (by decide +kernel)
set_option maxRecDepth 20000 in
theorem gX2_readPowerOfX_X0_takeDigit : GoodIn wsX2_readPowerOfX (wsV RX2 225 RX0 yX0_takeDigit wsX0_takeDigit) := goodIn_app (goodIn_of _ (by decide +kernel)) ggX2_readPowerOfX_X0_takeDigit
set_option maxRecDepth 20000 in
theorem ggX2_readProduct_J7_fill_53178 : GoodIn wsX2_readProduct wsJ7_fill_53178 := goodIn_r _ [6] (by decide +kernel) (by decide +kernel)
set_option maxRecDepth 20000 in
theorem gX2_readProduct_J7_fill_53178 : GoodIn wsX2_readProduct (va_wsS RX2 228 yJ7_fill_53178 wsJ7_fill_53178) := goodIn_app (goodIn_of _ (by decide +kernel)) ggX2_readProduct_J7_fill_53178
set_option maxRecDepth 20000 in
theorem ggX2_readProduct_X2_readFactor : GoodIn wsX2_readProduct wsX2_readFactor := goodIn_r _ [11, 2, 1, 12, 13, 14, 15, 16, 17, 18, 19, 20, 21, 22, 23, 24, 25, 26, 10, 27, 28, 29, 30, 31, 32, 33, 34, 36, 37, 38, 39, 40, 41, 42, 43, 44, 45, 46, 47, 48, 49] (by decide +kernel) (by decide +kernel)
set_option maxRecDepth 20000 in
theorem gX2_readProduct_X2_readFactor : GoodIn wsX2_readProduct (wsV RX2 231 RX2 yX2_readFactor wsX2_readFactor) := goodIn_app (goodIn_of _ (by decide +kernel)) ggX2_readProduct_X2_readFactor
set_option maxRecDepth 20000 in
theorem ggX2_readProduct_X0_isAtEnd : GoodIn wsX2_readProduct wsX0_isAtEnd := goodIn_r _ [22, 18, 23, 47, 48, 49] (by decide +kernel) (by decide +kernel)
set_option maxRecDepth 20000 in
theorem gX2_readProduct_X0_isAtEnd : GoodIn wsX2_readProduct (wsV RX2 209 RX0 yX0_isAtEnd wsX0_isAtEnd) := goodIn_app (goodIn_of _ (by decide +kernel)) ggX2_readProduct_X0_isAtEnd
set_option maxRecDepth 20000 in
theorem ggX2_readFactor_X0_takes : GoodIn wsX2_readFactor wsX0_takes := goodIn_r _ [7, 8, 9, 10, 11, 12, 6, 13, 14, 38, 39, 40] (by decide +kernel) (by decide +kernel)
set_option maxRecDepth 20000 in
theorem gX2_readFactor_X0_takes : GoodIn wsX2_readFactor (wsV RX2 212 RX0 yX0_takes wsX0_takes) := goodIn_app (goodIn_of _ (by decide +kernel)) ggX2_readFactor_X0_takes
set_option maxRecDepth 20000 in
theorem ggX2_readFactor_X2_readRoot : GoodIn wsX2_readFactor wsX2_readRoot := goodIn_r _ [19, 1, 3, 4, 5, 6, 7, 8, 9, 10, 11, 12, 13, 14, 20, 21, 22, 23, 27, 28, 29, 30, 31, 32, 33, 34, 35, 36, 37, 38, 39, 40] (by decide +kernel) (by decide +kernel)
set_option maxRecDepth 20000 in
theorem gX2_readFactor_X2_readRoot : GoodIn wsX2_readFactor (wsV RX2 234 RX2 yX2_readRoot wsX2_readRoot) := goodIn_app (goodIn_of _ (by decide +kernel)) ggX2_readFactor_X2_readRoot
set_option maxRecDepth 20000 in
theorem ggX2_readFactor_X2_isPossibleRoot : GoodIn wsX2_readFactor wsX2_isPossibleRoot := goodIn_r _ [26] (by decide +kernel) (by decide +kernel)
set_option maxRecDepth 20000 in
theorem gX2_readFactor_X2_isPossibleRoot : GoodIn wsX2_readFactor (va_wsS RX2 105 yX2_isPossibleRoot wsX2_isPossibleRoot) := goodIn_app (goodIn_of _ (by decide +kernel)) ggX2_readFactor_X2_isPossibleRoot
set_option maxRecDepth 20000 in
theorem ggX2_readFactor_X0_takeDigit : GoodIn wsX2_readFactor wsX0_takeDigit := goodIn_r _ [23, 8, 9, 10, 11, 12, 6, 13, 14, 38, 39, 40] (by decide +kernel) (by decide +kernel)
set_option maxRecDepth 20000 in
theorem gX2_readFactor_X0_takeDigit : GoodIn wsX2_readFactor (wsV RX2 225 RX0 yX0_takeDigit wsX0_takeDigit) := goodIn_app (goodIn_of _ (by decide +kernel)) ggX2_readFactor_X0_takeDigit
set_option maxRecDepth 20000 in
theorem ggX2_readRoot_X0_takes : GoodIn wsX2_readRoot wsX0_takes := goodIn_r _ [6, 7, 8, 9, 10, 11, 5, 12, 13, 29, 30, 31] (by decide +kernel) (by decide +kernel)
set_option maxRecDepth 20000 in
theorem gX2_readRoot_X0_takes : GoodIn wsX2_readRoot (wsV RX2 212 RX0 yX0_takes wsX0_takes) := goodIn_app (goodIn_of _ (by decide +kernel)) ggX2_readRoot_X0_takes
set_option maxRecDepth 20000 in
theorem ggX2_readRoot_X0_takeDigit : GoodIn wsX2_readRoot wsX0_takeDigit := goodIn_r _ [17, 7, 8, 9, 10, 11, 5, 12, 13, 29, 30, 31] (by decide +kernel) (by decide +kernel)
set_option maxRecDepth 20000 in
theorem gX2_readRoot_X0_takeDigit : GoodIn wsX2_readRoot (wsV RX2 225 RX0 yX0_takeDigit wsX0_takeDigit) := goodIn_app (goodIn_of _ (by decide +kernel)) ggX2_readRoot_X0_takeDigit
set_option maxRecDepth 20000 in
theorem ggX3_pass_X3_look : GoodIn wsX3_pass wsX3_look := goodIn_r _ [6, 1, 7, 8, 9, 10, 11, 12, 13, 14, 15, 16, 17, 18, 19, 20, 21, 22, 23, 24] (by decide +kernel) (by decide +kernel)
set_option maxRecDepth 20000 in
theorem gX3_pass_X3_look : GoodIn wsX3_pass (wsV RX3 55 RX3 yX3_look wsX3_look) := goodIn_app (goodIn_of _ (by decide +kernel)) ggX3_pass_X3_look
set_option maxRecDepth 20000 in
theorem ggX3_isDigit_X3_look : GoodIn wsX3_isDigit wsX3_look := goodIn_r _ [5, 6, 7, 8, 9, 10, 11, 12, 13, 14, 15, 16, 17, 18, 19, 20, 21, 22, 23, 24] (by decide +kernel) (by decide +kernel)
set_option maxRecDepth 20000 in
theorem gX3_isDigit_X3_look : GoodIn wsX3_isDigit (wsV RX3 55 RX3 yX3_look wsX3_look) := goodIn_app (goodIn_of _ (by decide +kernel)) ggX3_isDigit_X3_look
set_option maxRecDepth 20000 in
theorem ggX3_readTerm_X3_isDigit : GoodIn wsX3_readTerm wsX3_isDigit := goodIn_r _ [7, 8, 9, 10, 6, 11, 12, 13, 14, 23, 24, 25, 26, 27, 28, 29, 30, 31, 32, 33, 34, 35, 36, 37, 38] (by decide +kernel) (by decide +kernel)
set_option maxRecDepth 20000 in
theorem gX3_readTerm_X3_isDigit : GoodIn wsX3_readTerm (wsV RX3 59 RX3 yX3_isDigit wsX3_isDigit) := goodIn_app (goodIn_of _ (by decide +kernel)) ggX3_readTerm_X3_isDigit
set_option maxRecDepth 20000 in
theorem ggX3_readTerm_X3_digit : GoodIn wsX3_readTerm wsX3_digit := goodIn_r _ [18, 12, 14, 23, 24, 25, 26, 27, 28, 29, 30, 31, 32, 33, 34, 35, 36, 37, 38] (by decide +kernel) (by decide +kernel)
set_option maxRecDepth 20000 in
theorem gX3_readTerm_X3_digit : GoodIn wsX3_readTerm (wsV RX3 63 RX3 yX3_digit wsX3_digit) := goodIn_app (goodIn_of _ (by decide +kernel)) ggX3_readTerm_X3_digit
set_option maxRecDepth 20000 in
theorem ggX3_readTerm_X3_pass : GoodIn wsX3_readTerm wsX3_pass := goodIn_r _ [22, 12, 8, 9, 10, 6, 11, 13, 14, 23, 24, 25, 26, 27, 28, 29, 30, 31, 32, 33, 34, 35, 36, 37, 38] (by decide +kernel) (by decide +kernel)
set_option maxRecDepth 20000 in
theorem gX3_readTerm_X3_pass : GoodIn wsX3_readTerm (wsV RX3 69 RX3 yX3_pass wsX3_pass) := goodIn_app (goodIn_of _ (by decide +kernel)) ggX3_readTerm_X3_pass
set_option maxRecDepth 20000 in
theorem ggX3_readPolynomial_X3_pass : GoodIn wsX3_readPolynomial wsX3_pass := goodIn_r _ [9, 1, 10, 11, 12, 8, 13, 4, 14, 28, 29, 30, 31, 32, 33, 34, 35, 36, 37, 38, 39, 40, 41, 42, 43] (by decide +kernel) (by decide +kernel)
set_option maxRecDepth 20000 in
theorem gX3_readPolynomial_X3_pass : GoodIn wsX3_readPolynomial (wsV RX3 69 RX3 yX3_pass wsX3_pass) := goodIn_app (goodIn_of _ (by decide +kernel)) ggX3_readPolynomial_X3_pass
set_option maxRecDepth 20000 in
theorem ggX3_readPolynomial_X3_readTerm : GoodIn wsX3_readPolynomial wsX3_readTerm := goodIn_r _ [18, 19, 2, 20, 21, 22, 8, 23, 10, 11, 12, 13, 1, 4, 14, 24, 25, 26, 27, 5, 6, 7, 9, 28, 29, 30, 31, 32, 33, 34, 35, 36, 37, 38, 39, 40, 41, 42, 43] (by decide +kernel) (by decide +kernel)
set_option maxRecDepth 20000 in
theorem gX3_readPolynomial_X3_readTerm : GoodIn wsX3_readPolynomial (wsV RX3 75 RX3 yX3_readTerm wsX3_readTerm) := goodIn_app (goodIn_of _ (by decide +kernel)) ggX3_readPolynomial_X3_readTerm
set_option maxRecDepth 20000 in
theorem ggX3_readPolynomial_X3_look : GoodIn wsX3_readPolynomial wsX3_look := goodIn_r _ [13, 1, 4, 14, 28, 29, 30, 31, 32, 33, 34, 35, 36, 37, 38, 39, 40, 41, 42, 43] (by decide +kernel) (by decide +kernel)
set_option maxRecDepth 20000 in
theorem gX3_readPolynomial_X3_look : GoodIn wsX3_readPolynomial (wsV RX3 55 RX3 yX3_look wsX3_look) := goodIn_app (goodIn_of _ (by decide +kernel)) ggX3_readPolynomial_X3_look
set_option maxRecDepth 20000 in
theorem ggX3_numerator_X3_readPolynomial : GoodIn wsX3_numerator wsX3_readPolynomial := goodIn_r _ [9, 10, 4, 11, 2, 12, 13, 14, 8, 15, 16, 17, 18, 19, 20, 21, 22, 23, 24, 25, 26, 27, 28, 29, 30, 31, 32, 33, 38, 39, 40, 41, 42, 43, 44, 45, 46, 47, 48, 49, 50, 51, 52, 53] (by decide +kernel) (by decide +kernel)
set_option maxRecDepth 20000 in
theorem gX3_numerator_X3_readPolynomial : GoodIn wsX3_numerator (wsV RX3 79 RX3 yX3_readPolynomial wsX3_readPolynomial) := goodIn_app (goodIn_of _ (by decide +kernel)) ggX3_numerator_X3_readPolynomial
set_option maxRecDepth 20000 in
theorem ggX3_numerator_X3_fails : GoodIn wsX3_numerator wsX3_fails := goodIn_r _ [37, 1, 38, 39, 40, 41, 42, 43, 44, 45, 46, 47, 48, 49, 50, 51, 52, 53] (by decide +kernel) (by decide +kernel)
set_option maxRecDepth 20000 in
theorem gX3_numerator_X3_fails : GoodIn wsX3_numerator (wsV RX3 82 RX3 yX3_fails wsX3_fails) := goodIn_app (goodIn_of _ (by decide +kernel)) ggX3_numerator_X3_fails
set_option maxRecDepth 20000 in
theorem ggX3_readFactor_X3_pass : GoodIn wsX3_readFactor wsX3_pass := goodIn_r _ [6, 7, 8, 9, 10, 5, 11, 12, 13, 18, 19, 20, 21, 22, 23, 24, 25, 26, 27, 28, 29, 30, 31, 32, 33] (by decide +kernel) (by decide +kernel)
set_option maxRecDepth 20000 in
theorem gX3_readFactor_X3_pass : GoodIn wsX3_readFactor (wsV RX3 69 RX3 yX3_pass wsX3_pass) := goodIn_app (goodIn_of _ (by decide +kernel)) ggX3_readFactor_X3_pass
set_option maxRecDepth 20000 in
theorem ggX3_readFactor_X3_look : GoodIn wsX3_readFactor wsX3_look := goodIn_r _ [11, 7, 12, 13, 18, 19, 20, 21, 22, 23, 24, 25, 26, 27, 28, 29, 30, 31, 32, 33] (by decide +kernel) (by decide +kernel)
set_option maxRecDepth 20000 in
theorem gX3_readFactor_X3_look : GoodIn wsX3_readFactor (wsV RX3 55 RX3 yX3_look wsX3_look) := goodIn_app (goodIn_of _ (by decide +kernel)) ggX3_readFactor_X3_look
set_option maxRecDepth 20000 in
theorem ggX3_readFactor_X3_digit : GoodIn wsX3_readFactor wsX3_digit := goodIn_r _ [17, 7, 13, 18, 19, 20, 21, 22, 23, 24, 25, 26, 27, 28, 29, 30, 31, 32, 33] (by decide +kernel) (by decide +kernel)
set_option maxRecDepth 20000 in
theorem gX3_readFactor_X3_digit : GoodIn wsX3_readFactor (wsV RX3 63 RX3 yX3_digit wsX3_digit) := goodIn_app (goodIn_of _ (by decide +kernel)) ggX3_readFactor_X3_digit
set_option maxRecDepth 20000 in
theorem ggX3_denominator_X3_readFactor : GoodIn wsX3_denominator wsX3_readFactor := goodIn_r _ [12, 3, 13, 14, 15, 11, 16, 2, 17, 18, 19, 20, 4, 21, 22, 23, 24, 25, 33, 34, 35, 36, 37, 38, 39, 40, 41, 42, 43, 44, 45, 46, 47, 48] (by decide +kernel) (by decide +kernel)
set_option maxRecDepth 20000 in
theorem gX3_denominator_X3_readFactor : GoodIn wsX3_denominator (wsV RX3 86 RX3 yX3_readFactor wsX3_readFactor) := goodIn_app (goodIn_of _ (by decide +kernel)) ggX3_denominator_X3_readFactor
set_option maxRecDepth 20000 in
theorem ggX3_denominator_X3_fails : GoodIn wsX3_denominator wsX3_fails := goodIn_r _ [29, 1, 33, 34, 35, 36, 37, 38, 39, 40, 41, 42, 43, 44, 45, 46, 47, 48] (by decide +kernel) (by decide +kernel)
set_option maxRecDepth 20000 in
theorem gX3_denominator_X3_fails : GoodIn wsX3_denominator (wsV RX3 82 RX3 yX3_fails wsX3_fails) := goodIn_app (goodIn_of _ (by decide +kernel)) ggX3_denominator_X3_fails
set_option maxRecDepth 20000 in
theorem ggX3_denominator_X3_times : GoodIn wsX3_denominator wsX3_times := goodIn_r _ [32] (by decide +kernel) (by decide +kernel)
set_option maxRecDepth 20000 in
theorem gX3_denominator_X3_times : GoodIn wsX3_denominator (va_wsS RX3 89 yX3_times wsX3_times) := goodIn_app (goodIn_of _ (by decide +kernel)) ggX3_denominator_X3_times
set_option maxRecDepth 20000 in
theorem ggX3_coefficient_X3_divide : GoodIn wsX3_coefficient wsX3_divide := goodIn_r _ [9, 10, 2, 4, 11, 3, 12, 13, 14, 15, 16, 17, 18, 19, 20, 21, 22, 23, 24, 25, 26, 27] (by decide +kernel) (by decide +kernel)
set_option maxRecDepth 20000 in
theorem gX3_coefficient_X3_divide : GoodIn wsX3_coefficient (wsV RX3 93 RX3 yX3_divide wsX3_divide) := goodIn_app (goodIn_of _ (by decide +kernel)) ggX3_coefficient_X3_divide
set_option maxRecDepth 20000 in
theorem ggX3_around_X3_times : GoodIn wsX3_around wsX3_times := goodIn_r _ [8] (by decide +kernel) (by decide +kernel)
set_option maxRecDepth 20000 in
theorem gX3_around_X3_times : GoodIn wsX3_around (va_wsS RX3 89 yX3_times wsX3_times) := goodIn_app (goodIn_of _ (by decide +kernel)) ggX3_around_X3_times
set_option maxRecDepth 20000 in
theorem ggX3_work_X3_around : GoodIn wsX3_work wsX3_around := goodIn_r _ [9, 2, 10, 3, 1, 11, 12, 8, 13, 20, 21, 22, 23, 24, 25, 26, 27, 28, 29, 30, 31, 32, 33, 34, 35] (by decide +kernel) (by decide +kernel)
set_option maxRecDepth 20000 in
theorem gX3_work_X3_around : GoodIn wsX3_work (wsV RX3 103 RX3 yX3_around wsX3_around) := goodIn_app (goodIn_of _ (by decide +kernel)) ggX3_work_X3_around
set_option maxRecDepth 20000 in
theorem ggX3_work_X3_tell : GoodIn wsX3_work wsX3_tell := goodIn_r _ [17, 18, 19, 20, 21, 22, 23, 24, 25, 26, 27, 28, 29, 30, 31, 32, 33, 34, 35] (by decide +kernel) (by decide +kernel)
set_option maxRecDepth 20000 in
theorem gX3_work_X3_tell : GoodIn wsX3_work (wsV RX3 107 RX3 yX3_tell wsX3_tell) := goodIn_app (goodIn_of _ (by decide +kernel)) ggX3_work_X3_tell
set_option maxRecDepth 20000 in
theorem ggX3_isPart_X3_many : GoodIn wsX3_isPart wsX3_many := goodIn_r _ [5, 6, 7, 8, 9, 10, 11, 12, 13, 14, 15, 16, 17, 18, 19, 20, 21, 22, 23] (by decide +kernel) (by decide +kernel)
set_option maxRecDepth 20000 in
theorem gX3_isPart_X3_many : GoodIn wsX3_isPart (wsV RX3 111 RX3 yX3_many wsX3_many) := goodIn_app (goodIn_of _ (by decide +kernel)) ggX3_isPart_X3_many
set_option maxRecDepth 20000 in
theorem ggX3_part_X3_isPart : GoodIn wsX3_part wsX3_isPart := goodIn_r _ [8, 9, 10, 11, 7, 12, 1, 13, 33, 34, 35, 36, 37, 38, 39, 40, 41, 42, 43, 44, 45, 46, 47, 48] (by decide +kernel) (by decide +kernel)
set_option maxRecDepth 20000 in
theorem gX3_part_X3_isPart : GoodIn wsX3_part (wsV RX3 113 RX3 yX3_isPart wsX3_isPart) := goodIn_app (goodIn_of _ (by decide +kernel)) ggX3_part_X3_isPart
set_option maxRecDepth 20000 in
theorem ggX3_part_X3_work : GoodIn wsX3_part wsX3_work := goodIn_r _ [17, 13, 18, 19, 20, 21, 22, 23, 7, 24, 25, 26, 27, 28, 29, 30, 31, 32, 2, 3, 33, 34, 35, 36, 37, 38, 39, 40, 41, 42, 43, 44, 45, 46, 47, 48] (by decide +kernel) (by decide +kernel)
set_option maxRecDepth 20000 in
theorem gX3_part_X3_work : GoodIn wsX3_part (wsV RX3 117 RX3 yX3_work wsX3_work) := goodIn_app (goodIn_of _ (by decide +kernel)) ggX3_part_X3_work
set_option maxRecDepth 20000 in
theorem ggX3_integral_X3_many : GoodIn wsX3_integral wsX3_many := goodIn_r _ [9, 1, 10, 36, 37, 38, 39, 40, 41, 42, 43, 44, 45, 46, 47, 48, 49, 50, 51] (by decide +kernel) (by decide +kernel)
set_option maxRecDepth 20000 in
theorem gX3_integral_X3_many : GoodIn wsX3_integral (wsV RX3 111 RX3 yX3_many wsX3_many) := goodIn_app (goodIn_of _ (by decide +kernel)) ggX3_integral_X3_many
set_option maxRecDepth 20000 in
theorem ggX3_integral_X3_divide : GoodIn wsX3_integral wsX3_divide := goodIn_r _ [14, 15, 16, 2, 17, 18, 36, 37, 38, 39, 40, 41, 42, 43, 44, 45, 46, 47, 48, 49, 50, 51] (by decide +kernel) (by decide +kernel)
set_option maxRecDepth 20000 in
theorem gX3_integral_X3_divide : GoodIn wsX3_integral (wsV RX3 93 RX3 yX3_divide wsX3_divide) := goodIn_app (goodIn_of _ (by decide +kernel)) ggX3_integral_X3_divide
set_option maxRecDepth 20000 in
theorem ggX3_integral_X3_tell : GoodIn wsX3_integral wsX3_tell := goodIn_r _ [22, 3, 4, 36, 37, 38, 39, 40, 41, 42, 43, 44, 45, 46, 47, 48, 49, 50, 51] (by decide +kernel) (by decide +kernel)
set_option maxRecDepth 20000 in
theorem gX3_integral_X3_tell : GoodIn wsX3_integral (wsV RX3 107 RX3 yX3_tell wsX3_tell) := goodIn_app (goodIn_of _ (by decide +kernel)) ggX3_integral_X3_tell
set_option maxRecDepth 20000 in
theorem ggX3_integral_X3_work : GoodIn wsX3_integral wsX3_work := goodIn_r _ [26, 10, 15, 27, 28, 29, 30, 31, 8, 32, 16, 33, 34, 35, 19, 20, 21, 22, 3, 4, 36, 37, 38, 39, 40, 41, 42, 43, 44, 45, 46, 47, 48, 49, 50, 51] (by decide +kernel) (by decide +kernel)
set_option maxRecDepth 20000 in
theorem gX3_integral_X3_work : GoodIn wsX3_integral (wsV RX3 117 RX3 yX3_work wsX3_work) := goodIn_app (goodIn_of _ (by decide +kernel)) ggX3_integral_X3_work
set_option maxRecDepth 20000 in
theorem ggX3_value_X3_many : GoodIn wsX3_value wsX3_many := goodIn_r _ [10, 1, 11, 19, 20, 21, 22, 23, 24, 25, 26, 27, 28, 29, 30, 31, 32, 33, 34] (by decide +kernel) (by decide +kernel)
set_option maxRecDepth 20000 in
theorem gX3_value_X3_many : GoodIn wsX3_value (wsV RX3 111 RX3 yX3_many wsX3_many) := goodIn_app (goodIn_of _ (by decide +kernel)) ggX3_value_X3_many
set_option maxRecDepth 20000 in
theorem ggX3_value_X3_valueOf : GoodIn wsX3_value wsX3_valueOf := goodIn_r _ [14] (by decide +kernel) (by decide +kernel)
set_option maxRecDepth 20000 in
theorem gX3_value_X3_valueOf : GoodIn wsX3_value (va_wsS RX3 121 yX3_valueOf wsX3_valueOf) := goodIn_app (goodIn_of _ (by decide +kernel)) ggX3_value_X3_valueOf
set_option maxRecDepth 20000 in
theorem ggX3_value_X3_tell : GoodIn wsX3_value wsX3_tell := goodIn_r _ [18, 4, 5, 19, 20, 21, 22, 23, 24, 25, 26, 27, 28, 29, 30, 31, 32, 33, 34] (by decide +kernel) (by decide +kernel)
set_option maxRecDepth 20000 in
theorem gX3_value_X3_tell : GoodIn wsX3_value (wsV RX3 107 RX3 yX3_tell wsX3_tell) := goodIn_app (goodIn_of _ (by decide +kernel)) ggX3_value_X3_tell
set_option maxRecDepth 20000 in
theorem ggX3_at_X3_isPlace : GoodIn wsX3_at wsX3_isPlace := goodIn_r _ [8, 9, 10] (by decide +kernel) (by decide +kernel)
set_option maxRecDepth 20000 in
theorem gX3_at_X3_isPlace : GoodIn wsX3_at (wsV RX3 129 RX3 yX3_isPlace wsX3_isPlace) := goodIn_app (goodIn_of _ (by decide +kernel)) ggX3_at_X3_isPlace
set_option maxRecDepth 20000 in
theorem ggX3_at_X3_valueAt : GoodIn wsX3_at wsX3_valueAt := goodIn_r _ [13] (by decide +kernel) (by decide +kernel)
set_option maxRecDepth 20000 in
theorem gX3_at_X3_valueAt : GoodIn wsX3_at (va_wsS RX3 133 yX3_valueAt wsX3_valueAt) := goodIn_app (goodIn_of _ (by decide +kernel)) ggX3_at_X3_valueAt
set_option maxRecDepth 20000 in
theorem ggX3_byParts_X3_isPlace : GoodIn wsX3_byParts wsX3_isPlace := goodIn_r _ [10, 11, 12] (by decide +kernel) (by decide +kernel)
set_option maxRecDepth 20000 in
theorem gX3_byParts_X3_isPlace : GoodIn wsX3_byParts (wsV RX3 129 RX3 yX3_isPlace wsX3_isPlace) := goodIn_app (goodIn_of _ (by decide +kernel)) ggX3_byParts_X3_isPlace
set_option maxRecDepth 20000 in
theorem ggX3_byParts_X3_divide : GoodIn wsX3_byParts wsX3_divide := goodIn_r _ [16, 17, 18, 2, 19, 20, 41, 42, 43, 44, 45, 46, 47, 48, 49, 50, 51, 52, 53, 54, 55, 56] (by decide +kernel) (by decide +kernel)
set_option maxRecDepth 20000 in
theorem gX3_byParts_X3_divide : GoodIn wsX3_byParts (wsV RX3 93 RX3 yX3_divide wsX3_divide) := goodIn_app (goodIn_of _ (by decide +kernel)) ggX3_byParts_X3_divide
set_option maxRecDepth 20000 in
theorem ggX3_byParts_X3_valueAt : GoodIn wsX3_byParts wsX3_valueAt := goodIn_r _ [23] (by decide +kernel) (by decide +kernel)
set_option maxRecDepth 20000 in
theorem gX3_byParts_X3_valueAt : GoodIn wsX3_byParts (va_wsS RX3 133 yX3_valueAt wsX3_valueAt) := goodIn_app (goodIn_of _ (by decide +kernel)) ggX3_byParts_X3_valueAt
set_option maxRecDepth 20000 in
theorem ggX3_byParts_X3_work : GoodIn wsX3_byParts wsX3_work := goodIn_r _ [27, 3, 17, 28, 29, 30, 31, 32, 9, 33, 18, 34, 35, 36, 37, 38, 39, 40, 4, 5, 41, 42, 43, 44, 45, 46, 47, 48, 49, 50, 51, 52, 53, 54, 55, 56] (by decide +kernel) (by decide +kernel)
set_option maxRecDepth 20000 in
theorem gX3_byParts_X3_work : GoodIn wsX3_byParts (wsV RX3 117 RX3 yX3_work wsX3_work) := goodIn_app (goodIn_of _ (by decide +kernel)) ggX3_byParts_X3_work
set_option maxRecDepth 20000 in
theorem ggL_numerator_X2_numerator : GoodIn wsL_numerator wsX2_numerator := goodIn_ca (goodIn_r _ [6, 7, 8, 9, 10, 11, 12, 13, 14, 5, 15, 16, 17, 18, 19, 20, 21, 22, 23, 24, 25, 26, 27, 28, 29, 30, 31, 32, 33, 34, 35, 36, 37, 38, 39, 40, 41, 42, 43, 44, 45, 46, 47, 48, 49, 50, 51, 52, 53, 54, 55, 56, 57, 58, 59, 60, 61, 62, 63, 64, 65, 66, 67, 68, 69, 70, 71, 72, 73, 74, 75, 76, 77, 78, 79, 80, 81, 82, 83, 84, 85, 86, 87, 88, 89, 90, 91, 92, 93, 94, 95, 96, 97, 98, 99, 100, 101, 102, 103, 104, 105, 106, 107, 108, 109, 110, 111, 112, 113, 114, 115, 116, 117, 118, 119, 120, 121, 122, 123, 124, 125, 126, 127, 128, 129, 130, 131, 132, 133, 134, 135, 136, 137, 138, 139, 140, 141, 142, 143, 144, 145, 146, 147, 148, 149, 150] (by decide +kernel) (by decide +kernel)) (goodIn_sub (fun _ h => List.mem_cons_of_mem _ (List.mem_append_right _ h)) (by decide +kernel))
set_option maxRecDepth 20000 in
theorem gL_numerator_X2_numerator : GoodIn wsL_numerator (wsV RL 7 RX2 yX2_numerator wsX2_numerator) := goodIn_app (goodIn_of _ (by decide +kernel)) ggL_numerator_X2_numerator
set_option maxRecDepth 20000 in
theorem ggL_denominator_X2_denominator : GoodIn wsL_denominator wsX2_denominator := goodIn_ca (goodIn_ca (goodIn_r _ [7, 8, 9, 10, 11, 12, 13, 14, 15, 16, 17, 18, 19, 20, 21, 22, 6, 23, 24, 25, 26, 27, 28, 29, 30, 31, 32, 33, 34, 35, 36, 37, 38, 39, 40, 41, 42, 43, 44, 45, 46, 47, 48, 49, 50, 51, 52, 53, 54, 55, 56, 57, 58, 59, 60, 61, 62, 63, 64, 65, 66, 67, 68, 69, 70, 71, 72, 73, 74, 75, 76, 77, 78, 79, 80, 81, 82, 83, 84, 85, 86, 87, 88, 89, 90, 91, 92, 93, 94, 95, 96, 97, 98, 99, 100, 101, 102, 103, 104, 105, 106, 107, 108, 109, 110, 111, 112, 113, 114, 115, 116, 117, 118, 119, 120, 121, 122, 123, 124, 125, 126, 127, 128, 129, 130, 131, 132, 133, 134, 135, 136, 137, 138, 139, 140, 141, 142, 143, 144, 145, 146, 147, 148, 149, 150, 151] (by decide +kernel) (by decide +kernel)) (goodIn_sub (fun _ h => List.mem_cons_of_mem _ (List.mem_append_left _ (List.mem_append_right _ h))) (by decide +kernel))) (goodIn_sub (fun _ h => List.mem_cons_of_mem _ (List.mem_append_right _ h)) (by decide +kernel))
set_option maxRecDepth 20000 in
theorem gL_denominator_X2_denominator : GoodIn wsL_denominator (wsV RL 15 RX2 yX2_denominator wsX2_denominator) := goodIn_app (goodIn_of _ (by decide +kernel)) ggL_denominator_X2_denominator
set_option maxRecDepth 20000 in
theorem ggL_part_X2_part : GoodIn wsL_part wsX2_part := goodIn_ca (goodIn_r _ [6, 7, 8, 9, 10, 11, 5, 12, 13, 14, 15, 16, 17, 18, 19, 20, 21, 22, 23, 24, 25, 26, 27, 28, 29, 30, 31, 32, 33, 34, 35, 36, 37, 38, 39, 40, 41, 42, 43] (by decide +kernel) (by decide +kernel)) (goodIn_sub (fun _ h => List.mem_cons_of_mem _ (List.mem_append_right _ h)) (by decide +kernel))
set_option maxRecDepth 20000 in
theorem gL_part_X2_part : GoodIn wsL_part (wsV RL 20 RX2 yX2_part wsX2_part) := goodIn_app (goodIn_of _ (by decide +kernel)) ggL_part_X2_part
set_option maxRecDepth 20000 in
theorem ggL_integral_X2_integral : GoodIn wsL_integral wsX2_integral := goodIn_ca (goodIn_r _ [6, 7, 8, 9, 10, 11, 12, 5, 13, 14, 15, 16, 17, 18, 19, 20, 21, 22, 23, 24, 25, 26, 27, 28, 29, 30, 31, 32, 33, 34, 35, 36, 37, 38, 39, 40, 41, 42, 43, 44, 45, 46, 47, 48, 49, 50, 51, 52, 53, 54, 55, 56, 57, 58, 59, 60, 61, 62, 63, 64, 65] (by decide +kernel) (by decide +kernel)) (goodIn_sub (fun _ h => List.mem_cons_of_mem _ (List.mem_append_right _ h)) (by decide +kernel))
set_option maxRecDepth 20000 in
theorem gL_integral_X2_integral : GoodIn wsL_integral (wsV RL 24 RX2 yX2_integral wsX2_integral) := goodIn_app (goodIn_of _ (by decide +kernel)) ggL_integral_X2_integral
set_option maxRecDepth 20000 in
theorem ggL_value_X2_value : GoodIn wsL_value wsX2_value := goodIn_ca (goodIn_r _ [6, 7, 8, 9, 10, 11, 12, 13, 5, 14, 15, 16, 17, 18, 19, 20, 21, 22, 23, 24, 25, 26, 27, 28, 29, 30, 31, 32, 33, 34, 35, 36, 37, 38, 39, 40, 41, 42, 43, 44, 45, 46, 47, 48, 49] (by decide +kernel) (by decide +kernel)) (goodIn_sub (fun _ h => List.mem_cons_of_mem _ (List.mem_append_right _ h)) (by decide +kernel))
set_option maxRecDepth 20000 in
theorem gL_value_X2_value : GoodIn wsL_value (wsV RL 27 RX2 yX2_value wsX2_value) := goodIn_app (goodIn_of _ (by decide +kernel)) ggL_value_X2_value
set_option maxRecDepth 20000 in
theorem ggL_at_X2_at : GoodIn wsL_at wsX2_at := goodIn_ca (goodIn_r _ [6, 7, 8, 9, 10, 11, 12, 5, 13, 14, 15, 16, 17, 18, 19, 20, 21, 22, 23, 24, 25, 26, 27, 28, 29, 30, 31, 32, 33] (by decide +kernel) (by decide +kernel)) (goodIn_sub (fun _ h => List.mem_cons_of_mem _ (List.mem_append_right _ h)) (by decide +kernel))
set_option maxRecDepth 20000 in
theorem gL_at_X2_at : GoodIn wsL_at (wsV RL 31 RX2 yX2_at wsX2_at) := goodIn_app (goodIn_of _ (by decide +kernel)) ggL_at_X2_at
set_option maxRecDepth 20000 in
theorem ggL_byParts_X2_byParts : GoodIn wsL_byParts wsX2_byParts := goodIn_ca (goodIn_r _ [6, 7, 8, 9, 10, 11, 5, 12, 13, 14, 15, 16, 17, 18, 19, 20, 21, 22, 23, 24, 25, 26, 27, 28, 29, 30, 31, 32, 33, 34, 35, 36, 37, 38, 39, 40, 41, 42, 43, 44, 45, 46, 47, 48, 49, 50, 51, 52, 53, 54, 55, 56, 57] (by decide +kernel) (by decide +kernel)) (goodIn_sub (fun _ h => List.mem_cons_of_mem _ (List.mem_append_right _ h)) (by decide +kernel))
set_option maxRecDepth 20000 in
theorem gL_byParts_X2_byParts : GoodIn wsL_byParts (wsV RL 35 RX2 yX2_byParts wsX2_byParts) := goodIn_app (goodIn_of _ (by decide +kernel)) ggL_byParts_X2_byParts
set_option maxRecDepth 20000 in
theorem ggL_law_X2_init : GoodIn wsL_law wsX2_init := goodIn_r _ [11, 12, 13, 14, 15, 16, 17, 18, 19, 20, 21, 22, 23, 24, 25, 26, 6, 27, 28, 29, 30, 31, 32, 33, 34, 35, 36, 37, 38, 39, 40, 41, 42, 43, 44, 2, 45, 46, 47, 48, 49, 50, 51, 52, 53, 54, 55, 56, 57, 58, 59, 60, 61, 62, 63, 64, 65, 66, 67, 68, 69, 70, 71, 72, 73, 74, 75, 76, 77, 78, 79, 80, 81, 82, 83, 84, 85, 86, 87, 88, 89, 90, 91, 92, 93, 94, 95, 96, 97, 98, 99, 100, 101, 102, 103, 104, 105, 106, 107, 108, 109, 110, 440, 441, 442, 413, 414, 415, 416, 417, 418, 419, 420, 421, 422, 423, 443] (by decide +kernel) (by decide +kernel)
set_option maxRecDepth 20000 in
theorem gL_law_X2_init : GoodIn wsL_law (wsX2_init) := ggL_law_X2_init
set_option maxRecDepth 20000 in
theorem ggL_law_X3_init : GoodIn wsL_law wsX3_init := goodIn_r _ [113, 114, 13, 14, 36, 115, 6, 116, 117, 118, 119, 25, 120, 121, 122, 123, 124, 125, 424, 425, 426, 427, 428, 429, 430, 431, 432, 433, 434, 435, 436, 437, 438, 439] (by decide +kernel) (by decide +kernel)
set_option maxRecDepth 20000 in
theorem gL_law_X3_init : GoodIn wsL_law (wsX3_init) := ggL_law_X3_init
set_option maxRecDepth 20000 in
theorem ggL_law_X2_write : GoodIn wsL_law wsX2_write := goodIn_r _ [129, 18, 130, 131, 132, 17, 133, 134, 37, 413, 414, 415, 416, 417, 418, 419, 420, 421, 422, 423, 440, 441, 442] (by decide +kernel) (by decide +kernel)
set_option maxRecDepth 20000 in
theorem gL_law_X2_write : GoodIn wsL_law (wsV RL 42 RX2 yX2_write wsX2_write) := goodIn_app (goodIn_of _ (by decide +kernel)) ggL_law_X2_write
set_option maxRecDepth 20000 in
theorem ggL_law_X3_write : GoodIn wsL_law wsX3_write := goodIn_r _ [138, 139, 140, 115, 424, 425, 426, 427, 428, 429, 430, 431, 432, 433, 434, 435, 436, 437, 438, 439] (by decide +kernel) (by decide +kernel)
set_option maxRecDepth 20000 in
theorem gL_law_X3_write : GoodIn wsL_law (wsV RL 46 RX3 yX3_write wsX3_write) := goodIn_app (goodIn_of _ (by decide +kernel)) ggL_law_X3_write
set_option maxRecDepth 20000 in
theorem ggL_law_L_numerator : GoodIn wsL_law wsL_numerator := goodIn_ca (goodIn_r _ [144, 145, 146, 147, 148, 2, 149, 150, 151, 18, 22, 29, 152, 153, 154, 155, 156, 51, 52, 21, 53, 41, 54, 55, 56, 57, 157, 158, 159, 160, 161, 162, 163, 17, 164, 37, 165, 166, 167, 168, 169, 134, 170, 171, 172, 173, 174, 175, 176, 177, 178, 179, 180, 181, 182, 183, 184, 185, 186, 187, 188, 189, 190, 58, 59, 60, 61, 62, 63, 64, 65, 42, 43, 44, 45, 23, 24, 27, 28, 46, 47, 48, 49, 50, 66, 67, 68, 69, 70, 26, 71, 72, 73, 74, 75, 76, 77, 78, 79, 80, 81, 82, 83, 84, 85, 31, 32, 86, 87, 88, 89, 90, 91, 92, 93, 94, 95, 96, 97, 98, 99, 100, 101, 102, 103, 104, 105, 106, 107, 108, 109, 110, 191, 192, 193, 194, 413, 414, 415, 416, 417, 418, 419, 420, 421, 422, 423, 443, 440, 441, 442] (by decide +kernel) (by decide +kernel)) (goodIn_sub (fun _ h => List.mem_append_left _ (List.mem_append_right _ h)) (by decide +kernel))
set_option maxRecDepth 20000 in
theorem gL_law_L_numerator : GoodIn wsL_law (va_wsS RL 47 yL_numerator wsL_numerator) := goodIn_app (goodIn_of _ (by decide +kernel)) ggL_law_L_numerator
set_option maxRecDepth 20000 in
theorem ggL_law_X3_numerator : GoodIn wsL_law wsX3_numerator := goodIn_r _ [198, 139, 140, 116, 125, 199, 200, 201, 5, 202, 203, 204, 205, 206, 207, 208, 209, 210, 211, 212, 115, 213, 214, 215, 216, 217, 218, 219, 220, 221, 222, 223, 224, 225, 226, 227, 228, 229, 424, 425, 426, 427, 428, 429, 430, 431, 432, 433, 434, 435, 436, 437, 438, 439] (by decide +kernel) (by decide +kernel)
set_option maxRecDepth 20000 in
theorem gL_law_X3_numerator : GoodIn wsL_law (wsV RL 52 RX3 yX3_numerator wsX3_numerator) := goodIn_app (goodIn_of _ (by decide +kernel)) ggL_law_X3_numerator
set_option maxRecDepth 20000 in
theorem ggL_law_X3_thrown : GoodIn wsL_law wsX3_thrown := goodIn_r _ [233, 139, 424, 425, 426, 427, 428, 429, 430, 431, 432, 433, 434, 435, 436, 437, 438, 439] (by decide +kernel) (by decide +kernel)
set_option maxRecDepth 20000 in
theorem gL_law_X3_thrown : GoodIn wsL_law (wsV RL 53 RX3 yX3_thrown wsX3_thrown) := goodIn_app (goodIn_of _ (by decide +kernel)) ggL_law_X3_thrown
set_option maxRecDepth 20000 in
theorem ggL_law_L_denominator : GoodIn wsL_law wsL_denominator := goodIn_ca (goodIn_ca (goodIn_r _ [236, 145, 237, 238, 239, 240, 2, 241, 150, 151, 242, 243, 18, 30, 26, 244, 63, 64, 65, 23, 245, 246, 247, 248, 249, 250, 56, 251, 252, 253, 254, 255, 161, 162, 163, 17, 164, 37, 165, 166, 167, 168, 169, 134, 256, 257, 258, 259, 174, 175, 176, 177, 71, 72, 73, 186, 187, 188, 189, 190, 260, 261, 262, 42, 43, 44, 45, 24, 22, 27, 28, 46, 47, 48, 21, 49, 41, 50, 51, 52, 53, 54, 55, 57, 58, 59, 60, 61, 62, 66, 67, 68, 69, 70, 74, 75, 76, 77, 78, 79, 80, 81, 82, 83, 84, 85, 31, 32, 86, 87, 88, 89, 90, 91, 92, 93, 94, 95, 96, 97, 98, 99, 100, 101, 102, 103, 104, 105, 106, 107, 108, 109, 110, 191, 192, 193, 194, 413, 414, 415, 416, 417, 418, 419, 420, 421, 422, 423, 440, 441, 442, 443] (by decide +kernel) (by decide +kernel)) (goodIn_sub (fun _ h => List.mem_append_left _ (List.mem_append_right _ h)) (by decide +kernel))) (goodIn_sub (fun _ h => List.mem_append_right _ h) (by decide +kernel))
set_option maxRecDepth 20000 in
theorem gL_law_L_denominator : GoodIn wsL_law (va_wsS RL 56 yL_denominator wsL_denominator) := goodIn_app (goodIn_of _ (by decide +kernel)) ggL_law_L_denominator
set_option maxRecDepth 20000 in
theorem ggL_law_X3_denominator : GoodIn wsL_law wsX3_denominator := goodIn_r _ [266, 139, 203, 121, 140, 119, 117, 120, 267, 268, 269, 5, 270, 205, 206, 207, 208, 209, 210, 211, 212, 115, 222, 223, 224, 225, 226, 227, 228, 229, 271, 272, 273, 424, 425, 426, 427, 428, 429, 430, 431, 432, 433, 434, 435, 436, 437, 438, 439] (by decide +kernel) (by decide +kernel)
set_option maxRecDepth 20000 in
theorem gL_law_X3_denominator : GoodIn wsL_law (wsV RL 58 RX3 yX3_denominator wsX3_denominator) := goodIn_app (goodIn_of _ (by decide +kernel)) ggL_law_X3_denominator
set_option maxRecDepth 20000 in
theorem ggL_law_X2_coefficient : GoodIn wsL_law wsX2_coefficient := goodIn_r _ [277, 22, 23, 24, 278, 279, 280, 21, 281, 41, 413, 414, 415, 416, 417, 418, 419, 420, 421, 422, 423, 443] (by decide +kernel) (by decide +kernel)
set_option maxRecDepth 20000 in
theorem gL_law_X2_coefficient : GoodIn wsL_law (wsV RL 59 RX2 yX2_coefficient wsX2_coefficient) := goodIn_app (goodIn_of _ (by decide +kernel)) ggL_law_X2_coefficient
set_option maxRecDepth 20000 in
theorem ggL_law_X3_coefficient : GoodIn wsL_law wsX3_coefficient := goodIn_r _ [285, 139, 116, 117, 118, 286, 287, 288, 5, 289, 122, 119, 424, 425, 426, 427, 428, 429, 430, 431, 432, 433, 434, 435, 436, 437, 438, 439] (by decide +kernel) (by decide +kernel)
set_option maxRecDepth 20000 in
theorem gL_law_X3_coefficient : GoodIn wsL_law (wsV RL 62 RX3 yX3_coefficient wsX3_coefficient) := goodIn_app (goodIn_of _ (by decide +kernel)) ggL_law_X3_coefficient
set_option maxRecDepth 20000 in
theorem ggL_law_X2_many : GoodIn wsL_law wsX2_many := goodIn_r _ [70, 26, 71, 72, 2, 73, 413, 414, 415, 416, 417, 418, 419, 420, 421, 422, 423] (by decide +kernel) (by decide +kernel)
set_option maxRecDepth 20000 in
theorem gL_law_X2_many : GoodIn wsL_law (wsV RL 63 RX2 yX2_many wsX2_many) := goodIn_app (goodIn_of _ (by decide +kernel)) ggL_law_X2_many
set_option maxRecDepth 20000 in
theorem ggL_law_X3_many : GoodIn wsL_law wsX3_many := goodIn_r _ [294, 139, 120, 424, 425, 426, 427, 428, 429, 430, 431, 432, 433, 434, 435, 436, 437, 438, 439] (by decide +kernel) (by decide +kernel)
set_option maxRecDepth 20000 in
theorem gL_law_X3_many : GoodIn wsL_law (wsV RL 67 RX3 yX3_many wsX3_many) := goodIn_app (goodIn_of _ (by decide +kernel)) ggL_law_X3_many
set_option maxRecDepth 20000 in
theorem ggL_law_L_part : GoodIn wsL_law wsL_part := goodIn_ca (goodIn_r _ [297, 145, 298, 299, 300, 2, 301, 150, 151, 67, 68, 69, 70, 26, 71, 72, 73, 302, 303, 304, 305, 306, 307, 308, 27, 94, 95, 96, 309, 310, 311, 312, 28, 413, 414, 415, 416, 417, 418, 419, 420, 421, 422, 423] (by decide +kernel) (by decide +kernel)) (goodIn_sub (fun _ h => List.mem_append_left _ (List.mem_append_right _ h)) (by decide +kernel))
set_option maxRecDepth 20000 in
theorem gL_law_L_part : GoodIn wsL_law (va_wsS RL 68 yL_part wsL_part) := goodIn_app (goodIn_of _ (by decide +kernel)) ggL_law_L_part
set_option maxRecDepth 20000 in
theorem ggL_law_X3_part : GoodIn wsL_law wsX3_part := goodIn_r _ [316, 139, 317, 318, 319, 320, 321, 5, 322, 323, 292, 293, 294, 120, 324, 325, 326, 327, 122, 123, 124, 328, 329, 330, 331, 116, 271, 272, 273, 332, 333, 334, 335, 424, 425, 426, 427, 428, 429, 430, 431, 432, 433, 434, 435, 436, 437, 438, 439] (by decide +kernel) (by decide +kernel)
set_option maxRecDepth 20000 in
theorem gL_law_X3_part : GoodIn wsL_law (wsV RL 71 RX3 yX3_part wsX3_part) := goodIn_app (goodIn_of _ (by decide +kernel)) ggL_law_X3_part
set_option maxRecDepth 20000 in
theorem ggL_law_L_integral : GoodIn wsL_law wsL_integral := goodIn_ca (goodIn_r _ [338, 145, 339, 340, 341, 2, 342, 150, 151, 24, 343, 344, 345, 346, 67, 68, 69, 70, 26, 71, 72, 73, 302, 303, 304, 278, 279, 280, 21, 281, 41, 97, 98, 99, 100, 101, 102, 103, 104, 105, 106, 305, 306, 307, 308, 27, 94, 95, 96, 309, 310, 311, 312, 28, 413, 414, 415, 416, 417, 418, 419, 420, 421, 422, 423, 443] (by decide +kernel) (by decide +kernel)) (goodIn_sub (fun _ h => List.mem_append_left _ (List.mem_append_right _ h)) (by decide +kernel))
set_option maxRecDepth 20000 in
theorem gL_law_L_integral : GoodIn wsL_law (va_wsS RL 72 yL_integral wsL_integral) := goodIn_app (goodIn_of _ (by decide +kernel)) ggL_law_L_integral
set_option maxRecDepth 20000 in
theorem ggL_law_X3_integral : GoodIn wsL_law wsX3_integral := goodIn_r _ [350, 139, 118, 317, 318, 323, 292, 293, 5, 294, 120, 286, 287, 288, 289, 122, 116, 119, 117, 332, 333, 334, 335, 324, 325, 326, 327, 123, 124, 328, 329, 330, 331, 271, 272, 273, 424, 425, 426, 427, 428, 429, 430, 431, 432, 433, 434, 435, 436, 437, 438, 439] (by decide +kernel) (by decide +kernel)
set_option maxRecDepth 20000 in
theorem gL_law_X3_integral : GoodIn wsL_law (wsV RL 74 RX3 yX3_integral wsX3_integral) := goodIn_app (goodIn_of _ (by decide +kernel)) ggL_law_X3_integral
set_option maxRecDepth 20000 in
theorem ggL_law_L_value : GoodIn wsL_law wsL_value := goodIn_ca (goodIn_r _ [353, 145, 354, 355, 356, 2, 357, 150, 151, 22, 23, 67, 68, 69, 70, 26, 71, 72, 73, 302, 303, 304, 358, 359, 360, 21, 361, 41, 97, 98, 99, 100, 101, 102, 103, 104, 105, 106, 413, 414, 415, 416, 417, 418, 419, 420, 421, 422, 423, 443] (by decide +kernel) (by decide +kernel)) (goodIn_sub (fun _ h => List.mem_append_left _ (List.mem_append_right _ h)) (by decide +kernel))
set_option maxRecDepth 20000 in
theorem gL_law_L_value : GoodIn wsL_law (va_wsS RL 75 yL_value wsL_value) := goodIn_app (goodIn_of _ (by decide +kernel)) ggL_law_L_value
set_option maxRecDepth 20000 in
theorem ggL_law_X3_value : GoodIn wsL_law wsX3_value := goodIn_r _ [365, 139, 116, 117, 317, 318, 323, 292, 293, 5, 294, 120, 366, 367, 368, 332, 333, 334, 335, 424, 425, 426, 427, 428, 429, 430, 431, 432, 433, 434, 435, 436, 437, 438, 439] (by decide +kernel) (by decide +kernel)
set_option maxRecDepth 20000 in
theorem gL_law_X3_value : GoodIn wsL_law (wsV RL 78 RX3 yX3_value wsX3_value) := goodIn_app (goodIn_of _ (by decide +kernel)) ggL_law_X3_value
set_option maxRecDepth 20000 in
theorem ggL_law_L_at : GoodIn wsL_law wsL_at := goodIn_ca (goodIn_r _ [371, 145, 372, 373, 374, 2, 375, 150, 151, 23, 22, 376, 377, 378, 379, 380, 381, 382, 383, 21, 384, 41, 413, 414, 415, 416, 417, 418, 419, 420, 421, 422, 423, 443] (by decide +kernel) (by decide +kernel)) (goodIn_sub (fun _ h => List.mem_append_left _ (List.mem_append_right _ h)) (by decide +kernel))
set_option maxRecDepth 20000 in
theorem gL_law_L_at : GoodIn wsL_law (va_wsS RL 81 yL_at wsL_at) := goodIn_app (goodIn_of _ (by decide +kernel)) ggL_law_L_at
set_option maxRecDepth 20000 in
theorem ggL_law_X3_at : GoodIn wsL_law wsX3_at := goodIn_r _ [388, 139, 117, 116, 389, 390, 391, 5, 392, 393, 394, 395, 396, 397, 424, 425, 426, 427, 428, 429, 430, 431, 432, 433, 434, 435, 436, 437, 438, 439] (by decide +kernel) (by decide +kernel)
set_option maxRecDepth 20000 in
theorem gL_law_X3_at : GoodIn wsL_law (wsV RL 84 RX3 yX3_at wsX3_at) := goodIn_app (goodIn_of _ (by decide +kernel)) ggL_law_X3_at
set_option maxRecDepth 20000 in
theorem ggL_law_L_byParts : GoodIn wsL_law wsL_byParts := goodIn_ca (goodIn_r _ [400, 145, 401, 402, 403, 2, 404, 150, 151, 24, 376, 377, 378, 379, 380, 381, 382, 383, 21, 384, 41, 405, 406, 407, 408, 67, 68, 69, 70, 26, 71, 72, 73, 305, 306, 307, 308, 27, 94, 95, 96, 309, 310, 311, 312, 28, 413, 414, 415, 416, 417, 418, 419, 420, 421, 422, 423, 443] (by decide +kernel) (by decide +kernel)) (goodIn_sub (fun _ h => List.mem_append_left _ (List.mem_append_right _ h)) (by decide +kernel))
set_option maxRecDepth 20000 in
theorem gL_law_L_byParts : GoodIn wsL_law (va_wsS RL 85 yL_byParts wsL_byParts) := goodIn_app (goodIn_of _ (by decide +kernel)) ggL_law_L_byParts
set_option maxRecDepth 20000 in
theorem ggL_law_X3_byParts : GoodIn wsL_law wsX3_byParts := goodIn_r _ [412, 139, 118, 120, 317, 318, 389, 390, 391, 5, 392, 393, 394, 286, 287, 288, 289, 122, 116, 119, 117, 395, 396, 397, 324, 325, 326, 327, 123, 124, 328, 329, 330, 331, 271, 272, 273, 332, 333, 334, 335, 424, 425, 426, 427, 428, 429, 430, 431, 432, 433, 434, 435, 436, 437, 438, 439] (by decide +kernel) (by decide +kernel)
set_option maxRecDepth 20000 in
theorem gL_law_X3_byParts : GoodIn wsL_law (wsV RL 87 RX3 yX3_byParts wsX3_byParts) := goodIn_app (goodIn_of _ (by decide +kernel)) ggL_law_X3_byParts
abbrev vwCl : List vw_C := [(RX0, TX0, 3), (RX1, TX1, 1), (RX2, TX2, 11), (RX3, TX3, 16)]
end
section
theorem dX0_init_0 : decode cX0_init 0 = .ok (.aload_n 0, 1) := by decide +kernel
theorem dX0_init_1 : decode cX0_init 1 = .ok (.invokespecial 3, 3) := by decide +kernel
theorem dX0_init_4 : decode cX0_init 4 = .ok (.aload_n 0, 1) := by decide +kernel
theorem dX0_init_5 : decode cX0_init 5 = .ok (.bipush 30, 2) := by decide +kernel
theorem dX0_init_7 : decode cX0_init 7 = .ok (.newarray .char, 2) := by decide +kernel
theorem dX0_init_9 : decode cX0_init 9 = .ok (.putfield 9, 3) := by decide +kernel
theorem dX0_init_12 : decode cX0_init 12 = .ok (.return_, 1) := by decide +kernel
theorem dX0_append_0 : decode cX0_append 0 = .ok (.aload_n 0, 1) := by decide +kernel
theorem dX0_append_1 : decode cX0_append 1 = .ok (.getfield 15, 3) := by decide +kernel
theorem dX0_append_4 : decode cX0_append 4 = .ok (.bipush 30, 2) := by decide +kernel
theorem dX0_append_6 : decode cX0_append 6 = .ok (.if_icmp .ge 15, 3) := by decide +kernel
theorem dX0_append_9 : decode cX0_append 9 = .ok (.iload_n 1, 1) := by decide +kernel
theorem dX0_append_10 : decode cX0_append 10 = .ok (.bipush 32, 2) := by decide +kernel
theorem dX0_append_12 : decode cX0_append 12 = .ok (.if_icmp .lt 9, 3) := by decide +kernel
theorem dX0_append_15 : decode cX0_append 15 = .ok (.iload_n 1, 1) := by decide +kernel
theorem dX0_append_16 : decode cX0_append 16 = .ok (.bipush 126, 2) := by decide +kernel
theorem dX0_append_18 : decode cX0_append 18 = .ok (.if_icmp .le 5, 3) := by decide +kernel
theorem dX0_append_21 : decode cX0_append 21 = .ok (.iconst 0, 1) := by decide +kernel
theorem dX0_append_22 : decode cX0_append 22 = .ok (.ireturn, 1) := by decide +kernel
theorem dX0_append_23 : decode cX0_append 23 = .ok (.aload_n 0, 1) := by decide +kernel
theorem dX0_append_24 : decode cX0_append 24 = .ok (.getfield 9, 3) := by decide +kernel
theorem dX0_append_27 : decode cX0_append 27 = .ok (.aload_n 0, 1) := by decide +kernel
theorem dX0_append_28 : decode cX0_append 28 = .ok (.getfield 15, 3) := by decide +kernel
theorem dX0_append_31 : decode cX0_append 31 = .ok (.iload_n 1, 1) := by decide +kernel
theorem dX0_append_32 : decode cX0_append 32 = .ok (.castore, 1) := by decide +kernel
theorem dX0_append_33 : decode cX0_append 33 = .ok (.aload_n 0, 1) := by decide +kernel
theorem dX0_append_34 : decode cX0_append 34 = .ok (.dup, 1) := by decide +kernel
theorem dX0_append_35 : decode cX0_append 35 = .ok (.getfield 15, 3) := by decide +kernel
theorem dX0_append_38 : decode cX0_append 38 = .ok (.iconst 1, 1) := by decide +kernel
theorem dX0_append_39 : decode cX0_append 39 = .ok (.iadd, 1) := by decide +kernel
theorem dX0_append_40 : decode cX0_append 40 = .ok (.putfield 15, 3) := by decide +kernel
theorem dX0_append_43 : decode cX0_append 43 = .ok (.iconst 1, 1) := by decide +kernel
theorem dX0_append_44 : decode cX0_append 44 = .ok (.ireturn, 1) := by decide +kernel
theorem dX0_empty_0 : decode cX0_empty 0 = .ok (.aload_n 0, 1) := by decide +kernel
theorem dX0_empty_1 : decode cX0_empty 1 = .ok (.iconst 0, 1) := by decide +kernel
theorem dX0_empty_2 : decode cX0_empty 2 = .ok (.putfield 15, 3) := by decide +kernel
theorem dX0_empty_5 : decode cX0_empty 5 = .ok (.aload_n 0, 1) := by decide +kernel
theorem dX0_empty_6 : decode cX0_empty 6 = .ok (.iconst 0, 1) := by decide +kernel
theorem dX0_empty_7 : decode cX0_empty 7 = .ok (.putfield 19, 3) := by decide +kernel
theorem dX0_empty_10 : decode cX0_empty 10 = .ok (.return_, 1) := by decide +kernel
theorem dX0_isAtEnd_0 : decode cX0_isAtEnd 0 = .ok (.aload_n 0, 1) := by decide +kernel
theorem dX0_isAtEnd_1 : decode cX0_isAtEnd 1 = .ok (.getfield 19, 3) := by decide +kernel
theorem dX0_isAtEnd_4 : decode cX0_isAtEnd 4 = .ok (.aload_n 0, 1) := by decide +kernel
theorem dX0_isAtEnd_5 : decode cX0_isAtEnd 5 = .ok (.getfield 15, 3) := by decide +kernel
theorem dX0_isAtEnd_8 : decode cX0_isAtEnd 8 = .ok (.if_icmp .lt 7, 3) := by decide +kernel
theorem dX0_isAtEnd_11 : decode cX0_isAtEnd 11 = .ok (.iconst 1, 1) := by decide +kernel
theorem dX0_isAtEnd_12 : decode cX0_isAtEnd 12 = .ok (.goto 4, 3) := by decide +kernel
theorem dX0_isAtEnd_15 : decode cX0_isAtEnd 15 = .ok (.iconst 0, 1) := by decide +kernel
theorem dX0_isAtEnd_16 : decode cX0_isAtEnd 16 = .ok (.ireturn, 1) := by decide +kernel
theorem dX0_takes_0 : decode cX0_takes 0 = .ok (.aload_n 0, 1) := by decide +kernel
theorem dX0_takes_1 : decode cX0_takes 1 = .ok (.invokevirtual 22, 3) := by decide +kernel
theorem dX0_takes_4 : decode cX0_takes 4 = .ok (.ifCond .ne 20, 3) := by decide +kernel
theorem dX0_takes_7 : decode cX0_takes 7 = .ok (.aload_n 0, 1) := by decide +kernel
theorem dX0_takes_8 : decode cX0_takes 8 = .ok (.getfield 9, 3) := by decide +kernel
theorem dX0_takes_11 : decode cX0_takes 11 = .ok (.aload_n 0, 1) := by decide +kernel
theorem dX0_takes_12 : decode cX0_takes 12 = .ok (.getfield 19, 3) := by decide +kernel
theorem dX0_takes_15 : decode cX0_takes 15 = .ok (.caload, 1) := by decide +kernel
theorem dX0_takes_16 : decode cX0_takes 16 = .ok (.iload_n 1, 1) := by decide +kernel
theorem dX0_takes_17 : decode cX0_takes 17 = .ok (.if_icmp .ne 7, 3) := by decide +kernel
theorem dX0_takes_20 : decode cX0_takes 20 = .ok (.iconst 1, 1) := by decide +kernel
theorem dX0_takes_21 : decode cX0_takes 21 = .ok (.goto 4, 3) := by decide +kernel
theorem dX0_takes_24 : decode cX0_takes 24 = .ok (.iconst 0, 1) := by decide +kernel
theorem dX0_takes_25 : decode cX0_takes 25 = .ok (.istore_n 2, 1) := by decide +kernel
theorem dX0_takes_26 : decode cX0_takes 26 = .ok (.iload_n 2, 1) := by decide +kernel
theorem dX0_takes_27 : decode cX0_takes 27 = .ok (.ifCond .eq 13, 3) := by decide +kernel
theorem dX0_takes_30 : decode cX0_takes 30 = .ok (.aload_n 0, 1) := by decide +kernel
theorem dX0_takes_31 : decode cX0_takes 31 = .ok (.dup, 1) := by decide +kernel
theorem dX0_takes_32 : decode cX0_takes 32 = .ok (.getfield 19, 3) := by decide +kernel
theorem dX0_takes_35 : decode cX0_takes 35 = .ok (.iconst 1, 1) := by decide +kernel
theorem dX0_takes_36 : decode cX0_takes 36 = .ok (.iadd, 1) := by decide +kernel
theorem dX0_takes_37 : decode cX0_takes 37 = .ok (.putfield 19, 3) := by decide +kernel
theorem dX0_takes_40 : decode cX0_takes 40 = .ok (.iload_n 2, 1) := by decide +kernel
theorem dX0_takes_41 : decode cX0_takes 41 = .ok (.ireturn, 1) := by decide +kernel
theorem dX0_takeDigit_0 : decode cX0_takeDigit 0 = .ok (.aload_n 0, 1) := by decide +kernel
theorem dX0_takeDigit_1 : decode cX0_takeDigit 1 = .ok (.invokevirtual 22, 3) := by decide +kernel
theorem dX0_takeDigit_4 : decode cX0_takeDigit 4 = .ok (.ifCond .eq 7, 3) := by decide +kernel
theorem dX0_takeDigit_7 : decode cX0_takeDigit 7 = .ok (.iconst (-1), 1) := by decide +kernel
theorem dX0_takeDigit_8 : decode cX0_takeDigit 8 = .ok (.goto 15, 3) := by decide +kernel
theorem dX0_takeDigit_11 : decode cX0_takeDigit 11 = .ok (.aload_n 0, 1) := by decide +kernel
theorem dX0_takeDigit_12 : decode cX0_takeDigit 12 = .ok (.getfield 9, 3) := by decide +kernel
theorem dX0_takeDigit_15 : decode cX0_takeDigit 15 = .ok (.aload_n 0, 1) := by decide +kernel
theorem dX0_takeDigit_16 : decode cX0_takeDigit 16 = .ok (.getfield 19, 3) := by decide +kernel
theorem dX0_takeDigit_19 : decode cX0_takeDigit 19 = .ok (.caload, 1) := by decide +kernel
theorem dX0_takeDigit_20 : decode cX0_takeDigit 20 = .ok (.bipush 48, 2) := by decide +kernel
theorem dX0_takeDigit_22 : decode cX0_takeDigit 22 = .ok (.isub, 1) := by decide +kernel
theorem dX0_takeDigit_23 : decode cX0_takeDigit 23 = .ok (.istore_n 3, 1) := by decide +kernel
theorem dX0_takeDigit_24 : decode cX0_takeDigit 24 = .ok (.iload_n 3, 1) := by decide +kernel
theorem dX0_takeDigit_25 : decode cX0_takeDigit 25 = .ok (.iload_n 1, 1) := by decide +kernel
theorem dX0_takeDigit_26 : decode cX0_takeDigit 26 = .ok (.if_icmp .lt 8, 3) := by decide +kernel
theorem dX0_takeDigit_29 : decode cX0_takeDigit 29 = .ok (.iload_n 3, 1) := by decide +kernel
theorem dX0_takeDigit_30 : decode cX0_takeDigit 30 = .ok (.iload_n 2, 1) := by decide +kernel
theorem dX0_takeDigit_31 : decode cX0_takeDigit 31 = .ok (.if_icmp .le 5, 3) := by decide +kernel
theorem dX0_takeDigit_34 : decode cX0_takeDigit 34 = .ok (.iconst (-1), 1) := by decide +kernel
theorem dX0_takeDigit_35 : decode cX0_takeDigit 35 = .ok (.ireturn, 1) := by decide +kernel
theorem dX0_takeDigit_36 : decode cX0_takeDigit 36 = .ok (.aload_n 0, 1) := by decide +kernel
theorem dX0_takeDigit_37 : decode cX0_takeDigit 37 = .ok (.dup, 1) := by decide +kernel
theorem dX0_takeDigit_38 : decode cX0_takeDigit 38 = .ok (.getfield 19, 3) := by decide +kernel
theorem dX0_takeDigit_41 : decode cX0_takeDigit 41 = .ok (.iconst 1, 1) := by decide +kernel
theorem dX0_takeDigit_42 : decode cX0_takeDigit 42 = .ok (.iadd, 1) := by decide +kernel
theorem dX0_takeDigit_43 : decode cX0_takeDigit 43 = .ok (.putfield 19, 3) := by decide +kernel
theorem dX0_takeDigit_46 : decode cX0_takeDigit 46 = .ok (.iload_n 3, 1) := by decide +kernel
theorem dX0_takeDigit_47 : decode cX0_takeDigit 47 = .ok (.ireturn, 1) := by decide +kernel
theorem dX1_init_0 : decode cX1_init 0 = .ok (.aload_n 0, 1) := by decide +kernel
theorem dX1_init_1 : decode cX1_init 1 = .ok (.invokespecial 3, 3) := by decide +kernel
theorem dX1_init_4 : decode cX1_init 4 = .ok (.aload_n 0, 1) := by decide +kernel
theorem dX1_init_5 : decode cX1_init 5 = .ok (.bipush 7, 2) := by decide +kernel
theorem dX1_init_7 : decode cX1_init 7 = .ok (.newarray .long, 2) := by decide +kernel
theorem dX1_init_9 : decode cX1_init 9 = .ok (.putfield 9, 3) := by decide +kernel
theorem dX1_init_12 : decode cX1_init 12 = .ok (.return_, 1) := by decide +kernel
theorem dX1_becomeZero_0 : decode cX1_becomeZero 0 = .ok (.aload_n 0, 1) := by decide +kernel
theorem dX1_becomeZero_1 : decode cX1_becomeZero 1 = .ok (.getfield 9, 3) := by decide +kernel
theorem dX1_becomeZero_4 : decode cX1_becomeZero 4 = .ok (.lconst 0, 1) := by decide +kernel
theorem dX1_becomeZero_5 : decode cX1_becomeZero 5 = .ok (.invokestatic 15, 3) := by decide +kernel
theorem dX1_becomeZero_8 : decode cX1_becomeZero 8 = .ok (.return_, 1) := by decide +kernel
theorem dX1_becomeOne_0 : decode cX1_becomeOne 0 = .ok (.aload_n 0, 1) := by decide +kernel
theorem dX1_becomeOne_1 : decode cX1_becomeOne 1 = .ok (.invokevirtual 21, 3) := by decide +kernel
theorem dX1_becomeOne_4 : decode cX1_becomeOne 4 = .ok (.aload_n 0, 1) := by decide +kernel
theorem dX1_becomeOne_5 : decode cX1_becomeOne 5 = .ok (.getfield 9, 3) := by decide +kernel
theorem dX1_becomeOne_8 : decode cX1_becomeOne 8 = .ok (.iconst 0, 1) := by decide +kernel
theorem dX1_becomeOne_9 : decode cX1_becomeOne 9 = .ok (.lconst 1, 1) := by decide +kernel
theorem dX1_becomeOne_10 : decode cX1_becomeOne 10 = .ok (.lastore, 1) := by decide +kernel
theorem dX1_becomeOne_11 : decode cX1_becomeOne 11 = .ok (.return_, 1) := by decide +kernel
theorem dX1_become_0 : decode cX1_become 0 = .ok (.aload_n 1, 1) := by decide +kernel
theorem dX1_become_1 : decode cX1_become 1 = .ok (.getfield 9, 3) := by decide +kernel
theorem dX1_become_4 : decode cX1_become 4 = .ok (.iconst 0, 1) := by decide +kernel
theorem dX1_become_5 : decode cX1_become 5 = .ok (.aload_n 0, 1) := by decide +kernel
theorem dX1_become_6 : decode cX1_become 6 = .ok (.getfield 9, 3) := by decide +kernel
theorem dX1_become_9 : decode cX1_become 9 = .ok (.iconst 0, 1) := by decide +kernel
theorem dX1_become_10 : decode cX1_become 10 = .ok (.bipush 7, 2) := by decide +kernel
theorem dX1_become_12 : decode cX1_become 12 = .ok (.invokestatic 24, 3) := by decide +kernel
theorem dX1_become_15 : decode cX1_become 15 = .ok (.return_, 1) := by decide +kernel
theorem dX1_get_0 : decode cX1_get 0 = .ok (.iload_n 1, 1) := by decide +kernel
theorem dX1_get_1 : decode cX1_get 1 = .ok (.ifCond .lt 18, 3) := by decide +kernel
theorem dX1_get_4 : decode cX1_get 4 = .ok (.iload_n 1, 1) := by decide +kernel
theorem dX1_get_5 : decode cX1_get 5 = .ok (.bipush 6, 2) := by decide +kernel
theorem dX1_get_7 : decode cX1_get 7 = .ok (.if_icmp .gt 12, 3) := by decide +kernel
theorem dX1_get_10 : decode cX1_get 10 = .ok (.aload_n 0, 1) := by decide +kernel
theorem dX1_get_11 : decode cX1_get 11 = .ok (.getfield 9, 3) := by decide +kernel
theorem dX1_get_14 : decode cX1_get 14 = .ok (.iload_n 1, 1) := by decide +kernel
theorem dX1_get_15 : decode cX1_get 15 = .ok (.laload, 1) := by decide +kernel
theorem dX1_get_16 : decode cX1_get 16 = .ok (.goto 4, 3) := by decide +kernel
theorem dX1_get_19 : decode cX1_get 19 = .ok (.lconst 0, 1) := by decide +kernel
theorem dX1_get_20 : decode cX1_get 20 = .ok (.lreturn, 1) := by decide +kernel
theorem dX1_add_0 : decode cX1_add 0 = .ok (.iload_n 3, 1) := by decide +kernel
theorem dX1_add_1 : decode cX1_add 1 = .ok (.ifCond .lt 19, 3) := by decide +kernel
theorem dX1_add_4 : decode cX1_add 4 = .ok (.iload_n 3, 1) := by decide +kernel
theorem dX1_add_5 : decode cX1_add 5 = .ok (.bipush 6, 2) := by decide +kernel
theorem dX1_add_7 : decode cX1_add 7 = .ok (.if_icmp .gt 13, 3) := by decide +kernel
theorem dX1_add_10 : decode cX1_add 10 = .ok (.aload_n 0, 1) := by decide +kernel
theorem dX1_add_11 : decode cX1_add 11 = .ok (.getfield 9, 3) := by decide +kernel
theorem dX1_add_14 : decode cX1_add 14 = .ok (.iload_n 3, 1) := by decide +kernel
theorem dX1_add_15 : decode cX1_add 15 = .ok (.dup2, 1) := by decide +kernel
theorem dX1_add_16 : decode cX1_add 16 = .ok (.laload, 1) := by decide +kernel
theorem dX1_add_17 : decode cX1_add 17 = .ok (.lload_n 1, 1) := by decide +kernel
theorem dX1_add_18 : decode cX1_add 18 = .ok (.ladd, 1) := by decide +kernel
theorem dX1_add_19 : decode cX1_add 19 = .ok (.lastore, 1) := by decide +kernel
theorem dX1_add_20 : decode cX1_add 20 = .ok (.return_, 1) := by decide +kernel
theorem dX1_degree_0 : decode cX1_degree 0 = .ok (.bipush 6, 2) := by decide +kernel
theorem dX1_degree_2 : decode cX1_degree 2 = .ok (.istore_n 1, 1) := by decide +kernel
theorem dX1_degree_3 : decode cX1_degree 3 = .ok (.iload_n 1, 1) := by decide +kernel
theorem dX1_degree_4 : decode cX1_degree 4 = .ok (.ifCond .le 20, 3) := by decide +kernel
theorem dX1_degree_7 : decode cX1_degree 7 = .ok (.aload_n 0, 1) := by decide +kernel
theorem dX1_degree_8 : decode cX1_degree 8 = .ok (.getfield 9, 3) := by decide +kernel
theorem dX1_degree_11 : decode cX1_degree 11 = .ok (.iload_n 1, 1) := by decide +kernel
theorem dX1_degree_12 : decode cX1_degree 12 = .ok (.laload, 1) := by decide +kernel
theorem dX1_degree_13 : decode cX1_degree 13 = .ok (.lconst 0, 1) := by decide +kernel
theorem dX1_degree_14 : decode cX1_degree 14 = .ok (.lcmp, 1) := by decide +kernel
theorem dX1_degree_15 : decode cX1_degree 15 = .ok (.ifCond .ne 9, 3) := by decide +kernel
theorem dX1_degree_18 : decode cX1_degree 18 = .ok (.iinc 1 (-1), 3) := by decide +kernel
theorem dX1_degree_21 : decode cX1_degree 21 = .ok (.goto (-18), 3) := by decide +kernel
theorem dX1_degree_24 : decode cX1_degree 24 = .ok (.iload_n 1, 1) := by decide +kernel
theorem dX1_degree_25 : decode cX1_degree 25 = .ok (.ireturn, 1) := by decide +kernel
theorem dX1_multiplyByFactorOf_0 : decode cX1_multiplyByFactorOf 0 = .ok (.bipush 6, 2) := by decide +kernel
theorem dX1_multiplyByFactorOf_2 : decode cX1_multiplyByFactorOf 2 = .ok (.istore_n 2, 1) := by decide +kernel
theorem dX1_multiplyByFactorOf_3 : decode cX1_multiplyByFactorOf 3 = .ok (.iload_n 2, 1) := by decide +kernel
theorem dX1_multiplyByFactorOf_4 : decode cX1_multiplyByFactorOf 4 = .ok (.ifCond .le 33, 3) := by decide +kernel
theorem dX1_multiplyByFactorOf_7 : decode cX1_multiplyByFactorOf 7 = .ok (.aload_n 0, 1) := by decide +kernel
theorem dX1_multiplyByFactorOf_8 : decode cX1_multiplyByFactorOf 8 = .ok (.getfield 9, 3) := by decide +kernel
theorem dX1_multiplyByFactorOf_11 : decode cX1_multiplyByFactorOf 11 = .ok (.iload_n 2, 1) := by decide +kernel
theorem dX1_multiplyByFactorOf_12 : decode cX1_multiplyByFactorOf 12 = .ok (.aload_n 0, 1) := by decide +kernel
theorem dX1_multiplyByFactorOf_13 : decode cX1_multiplyByFactorOf 13 = .ok (.getfield 9, 3) := by decide +kernel
theorem dX1_multiplyByFactorOf_16 : decode cX1_multiplyByFactorOf 16 = .ok (.iload_n 2, 1) := by decide +kernel
theorem dX1_multiplyByFactorOf_17 : decode cX1_multiplyByFactorOf 17 = .ok (.iconst 1, 1) := by decide +kernel
theorem dX1_multiplyByFactorOf_18 : decode cX1_multiplyByFactorOf 18 = .ok (.isub, 1) := by decide +kernel
theorem dX1_multiplyByFactorOf_19 : decode cX1_multiplyByFactorOf 19 = .ok (.laload, 1) := by decide +kernel
theorem dX1_multiplyByFactorOf_20 : decode cX1_multiplyByFactorOf 20 = .ok (.iload_n 1, 1) := by decide +kernel
theorem dX1_multiplyByFactorOf_21 : decode cX1_multiplyByFactorOf 21 = .ok (.i2l, 1) := by decide +kernel
theorem dX1_multiplyByFactorOf_22 : decode cX1_multiplyByFactorOf 22 = .ok (.aload_n 0, 1) := by decide +kernel
theorem dX1_multiplyByFactorOf_23 : decode cX1_multiplyByFactorOf 23 = .ok (.getfield 9, 3) := by decide +kernel
theorem dX1_multiplyByFactorOf_26 : decode cX1_multiplyByFactorOf 26 = .ok (.iload_n 2, 1) := by decide +kernel
theorem dX1_multiplyByFactorOf_27 : decode cX1_multiplyByFactorOf 27 = .ok (.laload, 1) := by decide +kernel
theorem dX1_multiplyByFactorOf_28 : decode cX1_multiplyByFactorOf 28 = .ok (.lmul, 1) := by decide +kernel
theorem dX1_multiplyByFactorOf_29 : decode cX1_multiplyByFactorOf 29 = .ok (.lsub, 1) := by decide +kernel
theorem dX1_multiplyByFactorOf_30 : decode cX1_multiplyByFactorOf 30 = .ok (.lastore, 1) := by decide +kernel
theorem dX1_multiplyByFactorOf_31 : decode cX1_multiplyByFactorOf 31 = .ok (.iinc 2 (-1), 3) := by decide +kernel
theorem dX1_multiplyByFactorOf_34 : decode cX1_multiplyByFactorOf 34 = .ok (.goto (-31), 3) := by decide +kernel
theorem dX1_multiplyByFactorOf_37 : decode cX1_multiplyByFactorOf 37 = .ok (.aload_n 0, 1) := by decide +kernel
theorem dX1_multiplyByFactorOf_38 : decode cX1_multiplyByFactorOf 38 = .ok (.getfield 9, 3) := by decide +kernel
theorem dX1_multiplyByFactorOf_41 : decode cX1_multiplyByFactorOf 41 = .ok (.iconst 0, 1) := by decide +kernel
theorem dX1_multiplyByFactorOf_42 : decode cX1_multiplyByFactorOf 42 = .ok (.iload_n 1, 1) := by decide +kernel
theorem dX1_multiplyByFactorOf_43 : decode cX1_multiplyByFactorOf 43 = .ok (.ineg, 1) := by decide +kernel
theorem dX1_multiplyByFactorOf_44 : decode cX1_multiplyByFactorOf 44 = .ok (.i2l, 1) := by decide +kernel
theorem dX1_multiplyByFactorOf_45 : decode cX1_multiplyByFactorOf 45 = .ok (.aload_n 0, 1) := by decide +kernel
theorem dX1_multiplyByFactorOf_46 : decode cX1_multiplyByFactorOf 46 = .ok (.getfield 9, 3) := by decide +kernel
theorem dX1_multiplyByFactorOf_49 : decode cX1_multiplyByFactorOf 49 = .ok (.iconst 0, 1) := by decide +kernel
theorem dX1_multiplyByFactorOf_50 : decode cX1_multiplyByFactorOf 50 = .ok (.laload, 1) := by decide +kernel
theorem dX1_multiplyByFactorOf_51 : decode cX1_multiplyByFactorOf 51 = .ok (.lmul, 1) := by decide +kernel
theorem dX1_multiplyByFactorOf_52 : decode cX1_multiplyByFactorOf 52 = .ok (.lastore, 1) := by decide +kernel
theorem dX1_multiplyByFactorOf_53 : decode cX1_multiplyByFactorOf 53 = .ok (.return_, 1) := by decide +kernel
theorem dX1_divideByFactorOf_0 : decode cX1_divideByFactorOf 0 = .ok (.lconst 0, 1) := by decide +kernel
theorem dX1_divideByFactorOf_1 : decode cX1_divideByFactorOf 1 = .ok (.lstore_n 2, 1) := by decide +kernel
theorem dX1_divideByFactorOf_2 : decode cX1_divideByFactorOf 2 = .ok (.bipush 6, 2) := by decide +kernel
theorem dX1_divideByFactorOf_4 : decode cX1_divideByFactorOf 4 = .ok (.istore 4, 2) := by decide +kernel
theorem dX1_divideByFactorOf_6 : decode cX1_divideByFactorOf 6 = .ok (.iload 4, 2) := by decide +kernel
theorem dX1_divideByFactorOf_8 : decode cX1_divideByFactorOf 8 = .ok (.ifCond .lt 34, 3) := by decide +kernel
theorem dX1_divideByFactorOf_11 : decode cX1_divideByFactorOf 11 = .ok (.aload_n 0, 1) := by decide +kernel
theorem dX1_divideByFactorOf_12 : decode cX1_divideByFactorOf 12 = .ok (.getfield 9, 3) := by decide +kernel
theorem dX1_divideByFactorOf_15 : decode cX1_divideByFactorOf 15 = .ok (.iload 4, 2) := by decide +kernel
theorem dX1_divideByFactorOf_17 : decode cX1_divideByFactorOf 17 = .ok (.laload, 1) := by decide +kernel
theorem dX1_divideByFactorOf_18 : decode cX1_divideByFactorOf 18 = .ok (.iload_n 1, 1) := by decide +kernel
theorem dX1_divideByFactorOf_19 : decode cX1_divideByFactorOf 19 = .ok (.i2l, 1) := by decide +kernel
theorem dX1_divideByFactorOf_20 : decode cX1_divideByFactorOf 20 = .ok (.lload_n 2, 1) := by decide +kernel
theorem dX1_divideByFactorOf_21 : decode cX1_divideByFactorOf 21 = .ok (.lmul, 1) := by decide +kernel
theorem dX1_divideByFactorOf_22 : decode cX1_divideByFactorOf 22 = .ok (.ladd, 1) := by decide +kernel
theorem dX1_divideByFactorOf_23 : decode cX1_divideByFactorOf 23 = .ok (.lstore 5, 2) := by decide +kernel
theorem dX1_divideByFactorOf_25 : decode cX1_divideByFactorOf 25 = .ok (.aload_n 0, 1) := by decide +kernel
theorem dX1_divideByFactorOf_26 : decode cX1_divideByFactorOf 26 = .ok (.getfield 9, 3) := by decide +kernel
theorem dX1_divideByFactorOf_29 : decode cX1_divideByFactorOf 29 = .ok (.iload 4, 2) := by decide +kernel
theorem dX1_divideByFactorOf_31 : decode cX1_divideByFactorOf 31 = .ok (.lload_n 2, 1) := by decide +kernel
theorem dX1_divideByFactorOf_32 : decode cX1_divideByFactorOf 32 = .ok (.lastore, 1) := by decide +kernel
theorem dX1_divideByFactorOf_33 : decode cX1_divideByFactorOf 33 = .ok (.lload 5, 2) := by decide +kernel
theorem dX1_divideByFactorOf_35 : decode cX1_divideByFactorOf 35 = .ok (.lstore_n 2, 1) := by decide +kernel
theorem dX1_divideByFactorOf_36 : decode cX1_divideByFactorOf 36 = .ok (.iinc 4 (-1), 3) := by decide +kernel
theorem dX1_divideByFactorOf_39 : decode cX1_divideByFactorOf 39 = .ok (.goto (-33), 3) := by decide +kernel
theorem dX1_divideByFactorOf_42 : decode cX1_divideByFactorOf 42 = .ok (.lload_n 2, 1) := by decide +kernel
theorem dX1_divideByFactorOf_43 : decode cX1_divideByFactorOf 43 = .ok (.lreturn, 1) := by decide +kernel
theorem dX1_mix_0 : decode cX1_mix 0 = .ok (.iconst 0, 1) := by decide +kernel
theorem dX1_mix_1 : decode cX1_mix 1 = .ok (.istore 6, 2) := by decide +kernel
theorem dX1_mix_3 : decode cX1_mix 3 = .ok (.iload 6, 2) := by decide +kernel
theorem dX1_mix_5 : decode cX1_mix 5 = .ok (.bipush 6, 2) := by decide +kernel
theorem dX1_mix_7 : decode cX1_mix 7 = .ok (.if_icmp .gt 36, 3) := by decide +kernel
theorem dX1_mix_10 : decode cX1_mix 10 = .ok (.aload_n 0, 1) := by decide +kernel
theorem dX1_mix_11 : decode cX1_mix 11 = .ok (.getfield 9, 3) := by decide +kernel
theorem dX1_mix_14 : decode cX1_mix 14 = .ok (.iload 6, 2) := by decide +kernel
theorem dX1_mix_16 : decode cX1_mix 16 = .ok (.lload_n 1, 1) := by decide +kernel
theorem dX1_mix_17 : decode cX1_mix 17 = .ok (.aload_n 0, 1) := by decide +kernel
theorem dX1_mix_18 : decode cX1_mix 18 = .ok (.getfield 9, 3) := by decide +kernel
theorem dX1_mix_21 : decode cX1_mix 21 = .ok (.iload 6, 2) := by decide +kernel
theorem dX1_mix_23 : decode cX1_mix 23 = .ok (.laload, 1) := by decide +kernel
theorem dX1_mix_24 : decode cX1_mix 24 = .ok (.lmul, 1) := by decide +kernel
theorem dX1_mix_25 : decode cX1_mix 25 = .ok (.lload_n 3, 1) := by decide +kernel
theorem dX1_mix_26 : decode cX1_mix 26 = .ok (.aload 5, 2) := by decide +kernel
theorem dX1_mix_28 : decode cX1_mix 28 = .ok (.getfield 9, 3) := by decide +kernel
theorem dX1_mix_31 : decode cX1_mix 31 = .ok (.iload 6, 2) := by decide +kernel
theorem dX1_mix_33 : decode cX1_mix 33 = .ok (.laload, 1) := by decide +kernel
theorem dX1_mix_34 : decode cX1_mix 34 = .ok (.lmul, 1) := by decide +kernel
theorem dX1_mix_35 : decode cX1_mix 35 = .ok (.ladd, 1) := by decide +kernel
theorem dX1_mix_36 : decode cX1_mix 36 = .ok (.lastore, 1) := by decide +kernel
theorem dX1_mix_37 : decode cX1_mix 37 = .ok (.iinc 6 1, 3) := by decide +kernel
theorem dX1_mix_40 : decode cX1_mix 40 = .ok (.goto (-37), 3) := by decide +kernel
theorem dX1_mix_43 : decode cX1_mix 43 = .ok (.return_, 1) := by decide +kernel
theorem dX1_exactlyAt_0 : decode cX1_exactlyAt 0 = .ok (.lconst 0, 1) := by decide +kernel
theorem dX1_exactlyAt_1 : decode cX1_exactlyAt 1 = .ok (.lstore_n 2, 1) := by decide +kernel
theorem dX1_exactlyAt_2 : decode cX1_exactlyAt 2 = .ok (.bipush 6, 2) := by decide +kernel
theorem dX1_exactlyAt_4 : decode cX1_exactlyAt 4 = .ok (.istore 4, 2) := by decide +kernel
theorem dX1_exactlyAt_6 : decode cX1_exactlyAt 6 = .ok (.iload 4, 2) := by decide +kernel
theorem dX1_exactlyAt_8 : decode cX1_exactlyAt 8 = .ok (.ifCond .lt 22, 3) := by decide +kernel
theorem dX1_exactlyAt_11 : decode cX1_exactlyAt 11 = .ok (.lload_n 2, 1) := by decide +kernel
theorem dX1_exactlyAt_12 : decode cX1_exactlyAt 12 = .ok (.iload_n 1, 1) := by decide +kernel
theorem dX1_exactlyAt_13 : decode cX1_exactlyAt 13 = .ok (.i2l, 1) := by decide +kernel
theorem dX1_exactlyAt_14 : decode cX1_exactlyAt 14 = .ok (.lmul, 1) := by decide +kernel
theorem dX1_exactlyAt_15 : decode cX1_exactlyAt 15 = .ok (.aload_n 0, 1) := by decide +kernel
theorem dX1_exactlyAt_16 : decode cX1_exactlyAt 16 = .ok (.getfield 9, 3) := by decide +kernel
theorem dX1_exactlyAt_19 : decode cX1_exactlyAt 19 = .ok (.iload 4, 2) := by decide +kernel
theorem dX1_exactlyAt_21 : decode cX1_exactlyAt 21 = .ok (.laload, 1) := by decide +kernel
theorem dX1_exactlyAt_22 : decode cX1_exactlyAt 22 = .ok (.ladd, 1) := by decide +kernel
theorem dX1_exactlyAt_23 : decode cX1_exactlyAt 23 = .ok (.lstore_n 2, 1) := by decide +kernel
theorem dX1_exactlyAt_24 : decode cX1_exactlyAt 24 = .ok (.iinc 4 (-1), 3) := by decide +kernel
theorem dX1_exactlyAt_27 : decode cX1_exactlyAt 27 = .ok (.goto (-21), 3) := by decide +kernel
theorem dX1_exactlyAt_30 : decode cX1_exactlyAt 30 = .ok (.lload_n 2, 1) := by decide +kernel
theorem dX1_exactlyAt_31 : decode cX1_exactlyAt 31 = .ok (.lreturn, 1) := by decide +kernel
theorem dX1_inDoublesAt_0 : decode cX1_inDoublesAt 0 = .ok (.dconst 0, 1) := by decide +kernel
theorem dX1_inDoublesAt_1 : decode cX1_inDoublesAt 1 = .ok (.dstore_n 3, 1) := by decide +kernel
theorem dX1_inDoublesAt_2 : decode cX1_inDoublesAt 2 = .ok (.bipush 6, 2) := by decide +kernel
theorem dX1_inDoublesAt_4 : decode cX1_inDoublesAt 4 = .ok (.istore 5, 2) := by decide +kernel
theorem dX1_inDoublesAt_6 : decode cX1_inDoublesAt 6 = .ok (.iload 5, 2) := by decide +kernel
theorem dX1_inDoublesAt_8 : decode cX1_inDoublesAt 8 = .ok (.ifCond .lt 22, 3) := by decide +kernel
theorem dX1_inDoublesAt_11 : decode cX1_inDoublesAt 11 = .ok (.dload_n 3, 1) := by decide +kernel
theorem dX1_inDoublesAt_12 : decode cX1_inDoublesAt 12 = .ok (.dload_n 1, 1) := by decide +kernel
theorem dX1_inDoublesAt_13 : decode cX1_inDoublesAt 13 = .ok (.dmul, 1) := by decide +kernel
theorem dX1_inDoublesAt_14 : decode cX1_inDoublesAt 14 = .ok (.aload_n 0, 1) := by decide +kernel
theorem dX1_inDoublesAt_15 : decode cX1_inDoublesAt 15 = .ok (.getfield 9, 3) := by decide +kernel
theorem dX1_inDoublesAt_18 : decode cX1_inDoublesAt 18 = .ok (.iload 5, 2) := by decide +kernel
theorem dX1_inDoublesAt_20 : decode cX1_inDoublesAt 20 = .ok (.laload, 1) := by decide +kernel
theorem dX1_inDoublesAt_21 : decode cX1_inDoublesAt 21 = .ok (.l2d, 1) := by decide +kernel
theorem dX1_inDoublesAt_22 : decode cX1_inDoublesAt 22 = .ok (.dadd, 1) := by decide +kernel
theorem dX1_inDoublesAt_23 : decode cX1_inDoublesAt 23 = .ok (.dstore_n 3, 1) := by decide +kernel
theorem dX1_inDoublesAt_24 : decode cX1_inDoublesAt 24 = .ok (.iinc 5 (-1), 3) := by decide +kernel
theorem dX1_inDoublesAt_27 : decode cX1_inDoublesAt 27 = .ok (.goto (-21), 3) := by decide +kernel
theorem dX1_inDoublesAt_30 : decode cX1_inDoublesAt 30 = .ok (.dload_n 3, 1) := by decide +kernel
theorem dX1_inDoublesAt_31 : decode cX1_inDoublesAt 31 = .ok (.dreturn, 1) := by decide +kernel
theorem dX2_init_0 : decode cX2_init 0 = .ok (.aload_n 0, 1) := by decide +kernel
theorem dX2_init_1 : decode cX2_init 1 = .ok (.invokespecial 3, 3) := by decide +kernel
theorem dX2_init_4 : decode cX2_init 4 = .ok (.aload_n 0, 1) := by decide +kernel
theorem dX2_init_5 : decode cX2_init 5 = .ok (.new 9, 3) := by decide +kernel
theorem dX2_init_8 : decode cX2_init 8 = .ok (.dup, 1) := by decide +kernel
theorem dX2_init_9 : decode cX2_init 9 = .ok (.invokespecial 11, 3) := by decide +kernel
theorem dX2_init_12 : decode cX2_init 12 = .ok (.putfield 12, 3) := by decide +kernel
theorem dX2_init_15 : decode cX2_init 15 = .ok (.aload_n 0, 1) := by decide +kernel
theorem dX2_init_16 : decode cX2_init 16 = .ok (.new 16, 3) := by decide +kernel
theorem dX2_init_19 : decode cX2_init 19 = .ok (.dup, 1) := by decide +kernel
theorem dX2_init_20 : decode cX2_init 20 = .ok (.invokespecial 18, 3) := by decide +kernel
theorem dX2_init_23 : decode cX2_init 23 = .ok (.putfield 19, 3) := by decide +kernel
theorem dX2_init_26 : decode cX2_init 26 = .ok (.aload_n 0, 1) := by decide +kernel
theorem dX2_init_27 : decode cX2_init 27 = .ok (.new 16, 3) := by decide +kernel
theorem dX2_init_30 : decode cX2_init 30 = .ok (.dup, 1) := by decide +kernel
theorem dX2_init_31 : decode cX2_init 31 = .ok (.invokespecial 18, 3) := by decide +kernel
theorem dX2_init_34 : decode cX2_init 34 = .ok (.putfield 23, 3) := by decide +kernel
theorem dX2_init_37 : decode cX2_init 37 = .ok (.aload_n 0, 1) := by decide +kernel
theorem dX2_init_38 : decode cX2_init 38 = .ok (.new 16, 3) := by decide +kernel
theorem dX2_init_41 : decode cX2_init 41 = .ok (.dup, 1) := by decide +kernel
theorem dX2_init_42 : decode cX2_init 42 = .ok (.invokespecial 18, 3) := by decide +kernel
theorem dX2_init_45 : decode cX2_init 45 = .ok (.putfield 26, 3) := by decide +kernel
theorem dX2_init_48 : decode cX2_init 48 = .ok (.aload_n 0, 1) := by decide +kernel
theorem dX2_init_49 : decode cX2_init 49 = .ok (.bipush 7, 2) := by decide +kernel
theorem dX2_init_51 : decode cX2_init 51 = .ok (.newarray .int, 2) := by decide +kernel
theorem dX2_init_53 : decode cX2_init 53 = .ok (.putfield 29, 3) := by decide +kernel
theorem dX2_init_56 : decode cX2_init 56 = .ok (.aload_n 0, 1) := by decide +kernel
theorem dX2_init_57 : decode cX2_init 57 = .ok (.bipush 35, 2) := by decide +kernel
theorem dX2_init_59 : decode cX2_init 59 = .ok (.newarray .long, 2) := by decide +kernel
theorem dX2_init_61 : decode cX2_init 61 = .ok (.putfield 33, 3) := by decide +kernel
theorem dX2_init_64 : decode cX2_init 64 = .ok (.aload_n 0, 1) := by decide +kernel
theorem dX2_init_65 : decode cX2_init 65 = .ok (.bipush 35, 2) := by decide +kernel
theorem dX2_init_67 : decode cX2_init 67 = .ok (.newarray .long, 2) := by decide +kernel
theorem dX2_init_69 : decode cX2_init 69 = .ok (.putfield 37, 3) := by decide +kernel
theorem dX2_init_72 : decode cX2_init 72 = .ok (.aload_n 0, 1) := by decide +kernel
theorem dX2_init_73 : decode cX2_init 73 = .ok (.new 16, 3) := by decide +kernel
theorem dX2_init_76 : decode cX2_init 76 = .ok (.dup, 1) := by decide +kernel
theorem dX2_init_77 : decode cX2_init 77 = .ok (.invokespecial 18, 3) := by decide +kernel
theorem dX2_init_80 : decode cX2_init 80 = .ok (.putfield 40, 3) := by decide +kernel
theorem dX2_init_83 : decode cX2_init 83 = .ok (.aload_n 0, 1) := by decide +kernel
theorem dX2_init_84 : decode cX2_init 84 = .ok (.bipush 7, 2) := by decide +kernel
theorem dX2_init_86 : decode cX2_init 86 = .ok (.newarray .int, 2) := by decide +kernel
theorem dX2_init_88 : decode cX2_init 88 = .ok (.putfield 43, 3) := by decide +kernel
theorem dX2_init_91 : decode cX2_init 91 = .ok (.aload_n 0, 1) := by decide +kernel
theorem dX2_init_92 : decode cX2_init 92 = .ok (.new 16, 3) := by decide +kernel
theorem dX2_init_95 : decode cX2_init 95 = .ok (.dup, 1) := by decide +kernel
theorem dX2_init_96 : decode cX2_init 96 = .ok (.invokespecial 18, 3) := by decide +kernel
theorem dX2_init_99 : decode cX2_init 99 = .ok (.putfield 46, 3) := by decide +kernel
theorem dX2_init_102 : decode cX2_init 102 = .ok (.aload_n 0, 1) := by decide +kernel
theorem dX2_init_103 : decode cX2_init 103 = .ok (.new 16, 3) := by decide +kernel
theorem dX2_init_106 : decode cX2_init 106 = .ok (.dup, 1) := by decide +kernel
theorem dX2_init_107 : decode cX2_init 107 = .ok (.invokespecial 18, 3) := by decide +kernel
theorem dX2_init_110 : decode cX2_init 110 = .ok (.putfield 49, 3) := by decide +kernel
theorem dX2_init_113 : decode cX2_init 113 = .ok (.aload_n 0, 1) := by decide +kernel
theorem dX2_init_114 : decode cX2_init 114 = .ok (.getfield 29, 3) := by decide +kernel
theorem dX2_init_117 : decode cX2_init 117 = .ok (.iconst 3, 1) := by decide +kernel
theorem dX2_init_118 : decode cX2_init 118 = .ok (.iconst 1, 1) := by decide +kernel
theorem dX2_init_119 : decode cX2_init 119 = .ok (.iastore, 1) := by decide +kernel
theorem dX2_init_120 : decode cX2_init 120 = .ok (.aload_n 0, 1) := by decide +kernel
theorem dX2_init_121 : decode cX2_init 121 = .ok (.invokevirtual 52, 3) := by decide +kernel
theorem dX2_init_124 : decode cX2_init 124 = .ok (.return_, 1) := by decide +kernel
theorem dX2_write_0 : decode cX2_write 0 = .ok (.aload_n 0, 1) := by decide +kernel
theorem dX2_write_1 : decode cX2_write 1 = .ok (.getfield 12, 3) := by decide +kernel
theorem dX2_write_4 : decode cX2_write 4 = .ok (.iload_n 1, 1) := by decide +kernel
theorem dX2_write_5 : decode cX2_write 5 = .ok (.invokevirtual 55, 3) := by decide +kernel
theorem dX2_write_8 : decode cX2_write 8 = .ok (.ireturn, 1) := by decide +kernel
theorem dX2_numerator_0 : decode cX2_numerator 0 = .ok (.aload_n 0, 1) := by decide +kernel
theorem dX2_numerator_1 : decode cX2_numerator 1 = .ok (.invokevirtual 59, 3) := by decide +kernel
theorem dX2_numerator_4 : decode cX2_numerator 4 = .ok (.istore_n 1, 1) := by decide +kernel
theorem dX2_numerator_5 : decode cX2_numerator 5 = .ok (.aload_n 0, 1) := by decide +kernel
theorem dX2_numerator_6 : decode cX2_numerator 6 = .ok (.getfield 12, 3) := by decide +kernel
theorem dX2_numerator_9 : decode cX2_numerator 9 = .ok (.invokevirtual 63, 3) := by decide +kernel
theorem dX2_numerator_12 : decode cX2_numerator 12 = .ok (.iload_n 1, 1) := by decide +kernel
theorem dX2_numerator_13 : decode cX2_numerator 13 = .ok (.ifCond .ne 13, 3) := by decide +kernel
theorem dX2_numerator_16 : decode cX2_numerator 16 = .ok (.new 66, 3) := by decide +kernel
theorem dX2_numerator_19 : decode cX2_numerator 19 = .ok (.dup, 1) := by decide +kernel
theorem dX2_numerator_20 : decode cX2_numerator 20 = .ok (.ldc 68, 2) := by decide +kernel
theorem dX2_numerator_22 : decode cX2_numerator 22 = .ok (.invokespecial 70, 3) := by decide +kernel
theorem dX2_numerator_25 : decode cX2_numerator 25 = .ok (.athrow, 1) := by decide +kernel
theorem dX2_numerator_26 : decode cX2_numerator 26 = .ok (.aload_n 0, 1) := by decide +kernel
theorem dX2_numerator_27 : decode cX2_numerator 27 = .ok (.getfield 19, 3) := by decide +kernel
theorem dX2_numerator_30 : decode cX2_numerator 30 = .ok (.aload_n 0, 1) := by decide +kernel
theorem dX2_numerator_31 : decode cX2_numerator 31 = .ok (.getfield 40, 3) := by decide +kernel
theorem dX2_numerator_34 : decode cX2_numerator 34 = .ok (.invokevirtual 73, 3) := by decide +kernel
theorem dX2_numerator_37 : decode cX2_numerator 37 = .ok (.aload_n 0, 1) := by decide +kernel
theorem dX2_numerator_38 : decode cX2_numerator 38 = .ok (.invokevirtual 52, 3) := by decide +kernel
theorem dX2_numerator_41 : decode cX2_numerator 41 = .ok (.aload_n 0, 1) := by decide +kernel
theorem dX2_numerator_42 : decode cX2_numerator 42 = .ok (.getfield 19, 3) := by decide +kernel
theorem dX2_numerator_45 : decode cX2_numerator 45 = .ok (.invokevirtual 77, 3) := by decide +kernel
theorem dX2_numerator_48 : decode cX2_numerator 48 = .ok (.ireturn, 1) := by decide +kernel
theorem dX2_denominator_0 : decode cX2_denominator 0 = .ok (.aload_n 0, 1) := by decide +kernel
theorem dX2_denominator_1 : decode cX2_denominator 1 = .ok (.invokevirtual 81, 3) := by decide +kernel
theorem dX2_denominator_4 : decode cX2_denominator 4 = .ok (.istore_n 1, 1) := by decide +kernel
theorem dX2_denominator_5 : decode cX2_denominator 5 = .ok (.aload_n 0, 1) := by decide +kernel
theorem dX2_denominator_6 : decode cX2_denominator 6 = .ok (.getfield 12, 3) := by decide +kernel
theorem dX2_denominator_9 : decode cX2_denominator 9 = .ok (.invokevirtual 63, 3) := by decide +kernel
theorem dX2_denominator_12 : decode cX2_denominator 12 = .ok (.iload_n 1, 1) := by decide +kernel
theorem dX2_denominator_13 : decode cX2_denominator 13 = .ok (.ifCond .ne 13, 3) := by decide +kernel
theorem dX2_denominator_16 : decode cX2_denominator 16 = .ok (.new 66, 3) := by decide +kernel
theorem dX2_denominator_19 : decode cX2_denominator 19 = .ok (.dup, 1) := by decide +kernel
theorem dX2_denominator_20 : decode cX2_denominator 20 = .ok (.ldc 84, 2) := by decide +kernel
theorem dX2_denominator_22 : decode cX2_denominator 22 = .ok (.invokespecial 70, 3) := by decide +kernel
theorem dX2_denominator_25 : decode cX2_denominator 25 = .ok (.athrow, 1) := by decide +kernel
theorem dX2_denominator_26 : decode cX2_denominator 26 = .ok (.aload_n 0, 1) := by decide +kernel
theorem dX2_denominator_27 : decode cX2_denominator 27 = .ok (.getfield 43, 3) := by decide +kernel
theorem dX2_denominator_30 : decode cX2_denominator 30 = .ok (.invokestatic 86, 3) := by decide +kernel
theorem dX2_denominator_33 : decode cX2_denominator 33 = .ok (.iconst 5, 1) := by decide +kernel
theorem dX2_denominator_34 : decode cX2_denominator 34 = .ok (.if_icmp .le 13, 3) := by decide +kernel
theorem dX2_denominator_37 : decode cX2_denominator 37 = .ok (.new 90, 3) := by decide +kernel
theorem dX2_denominator_40 : decode cX2_denominator 40 = .ok (.dup, 1) := by decide +kernel
theorem dX2_denominator_41 : decode cX2_denominator 41 = .ok (.ldc 92, 2) := by decide +kernel
theorem dX2_denominator_43 : decode cX2_denominator 43 = .ok (.invokespecial 94, 3) := by decide +kernel
theorem dX2_denominator_46 : decode cX2_denominator 46 = .ok (.athrow, 1) := by decide +kernel
theorem dX2_denominator_47 : decode cX2_denominator 47 = .ok (.aload_n 0, 1) := by decide +kernel
theorem dX2_denominator_48 : decode cX2_denominator 48 = .ok (.getfield 43, 3) := by decide +kernel
theorem dX2_denominator_51 : decode cX2_denominator 51 = .ok (.iconst 0, 1) := by decide +kernel
theorem dX2_denominator_52 : decode cX2_denominator 52 = .ok (.aload_n 0, 1) := by decide +kernel
theorem dX2_denominator_53 : decode cX2_denominator 53 = .ok (.getfield 29, 3) := by decide +kernel
theorem dX2_denominator_56 : decode cX2_denominator 56 = .ok (.iconst 0, 1) := by decide +kernel
theorem dX2_denominator_57 : decode cX2_denominator 57 = .ok (.bipush 7, 2) := by decide +kernel
theorem dX2_denominator_59 : decode cX2_denominator 59 = .ok (.invokestatic 95, 3) := by decide +kernel
theorem dX2_denominator_62 : decode cX2_denominator 62 = .ok (.aload_n 0, 1) := by decide +kernel
theorem dX2_denominator_63 : decode cX2_denominator 63 = .ok (.invokevirtual 52, 3) := by decide +kernel
theorem dX2_denominator_66 : decode cX2_denominator 66 = .ok (.aload_n 0, 1) := by decide +kernel
theorem dX2_denominator_67 : decode cX2_denominator 67 = .ok (.getfield 23, 3) := by decide +kernel
theorem dX2_denominator_70 : decode cX2_denominator 70 = .ok (.invokevirtual 77, 3) := by decide +kernel
theorem dX2_denominator_73 : decode cX2_denominator 73 = .ok (.ireturn, 1) := by decide +kernel
theorem dX2_coefficient_0 : decode cX2_coefficient 0 = .ok (.iload_n 1, 1) := by decide +kernel
theorem dX2_coefficient_1 : decode cX2_coefficient 1 = .ok (.tableswitch 54 0 2 #[27, 36, 45], 27) := by decide +kernel
theorem dX2_coefficient_28 : decode cX2_coefficient 28 = .ok (.aload_n 0, 1) := by decide +kernel
theorem dX2_coefficient_29 : decode cX2_coefficient 29 = .ok (.getfield 19, 3) := by decide +kernel
theorem dX2_coefficient_32 : decode cX2_coefficient 32 = .ok (.iload_n 2, 1) := by decide +kernel
theorem dX2_coefficient_33 : decode cX2_coefficient 33 = .ok (.invokevirtual 101, 3) := by decide +kernel
theorem dX2_coefficient_36 : decode cX2_coefficient 36 = .ok (.lreturn, 1) := by decide +kernel
theorem dX2_coefficient_37 : decode cX2_coefficient 37 = .ok (.aload_n 0, 1) := by decide +kernel
theorem dX2_coefficient_38 : decode cX2_coefficient 38 = .ok (.getfield 23, 3) := by decide +kernel
theorem dX2_coefficient_41 : decode cX2_coefficient 41 = .ok (.iload_n 2, 1) := by decide +kernel
theorem dX2_coefficient_42 : decode cX2_coefficient 42 = .ok (.invokevirtual 101, 3) := by decide +kernel
theorem dX2_coefficient_45 : decode cX2_coefficient 45 = .ok (.lreturn, 1) := by decide +kernel
theorem dX2_coefficient_46 : decode cX2_coefficient 46 = .ok (.aload_n 0, 1) := by decide +kernel
theorem dX2_coefficient_47 : decode cX2_coefficient 47 = .ok (.getfield 26, 3) := by decide +kernel
theorem dX2_coefficient_50 : decode cX2_coefficient 50 = .ok (.iload_n 2, 1) := by decide +kernel
theorem dX2_coefficient_51 : decode cX2_coefficient 51 = .ok (.invokevirtual 101, 3) := by decide +kernel
theorem dX2_coefficient_54 : decode cX2_coefficient 54 = .ok (.lreturn, 1) := by decide +kernel
theorem dX2_coefficient_55 : decode cX2_coefficient 55 = .ok (.lconst 0, 1) := by decide +kernel
theorem dX2_coefficient_56 : decode cX2_coefficient 56 = .ok (.lreturn, 1) := by decide +kernel
theorem dX2_many_0 : decode cX2_many 0 = .ok (.iload_n 1, 1) := by decide +kernel
theorem dX2_many_1 : decode cX2_many 1 = .ok (.invokestatic 105, 3) := by decide +kernel
theorem dX2_many_4 : decode cX2_many 4 = .ok (.ifCond .eq 15, 3) := by decide +kernel
theorem dX2_many_7 : decode cX2_many 7 = .ok (.aload_n 0, 1) := by decide +kernel
theorem dX2_many_8 : decode cX2_many 8 = .ok (.getfield 29, 3) := by decide +kernel
theorem dX2_many_11 : decode cX2_many 11 = .ok (.iload_n 1, 1) := by decide +kernel
theorem dX2_many_12 : decode cX2_many 12 = .ok (.bipush (-3), 2) := by decide +kernel
theorem dX2_many_14 : decode cX2_many 14 = .ok (.isub, 1) := by decide +kernel
theorem dX2_many_15 : decode cX2_many 15 = .ok (.iaload, 1) := by decide +kernel
theorem dX2_many_16 : decode cX2_many 16 = .ok (.goto 4, 3) := by decide +kernel
theorem dX2_many_19 : decode cX2_many 19 = .ok (.iconst 0, 1) := by decide +kernel
theorem dX2_many_20 : decode cX2_many 20 = .ok (.ireturn, 1) := by decide +kernel
theorem dX2_part_0 : decode cX2_part 0 = .ok (.iload_n 2, 1) := by decide +kernel
theorem dX2_part_1 : decode cX2_part 1 = .ok (.iconst 1, 1) := by decide +kernel
theorem dX2_part_2 : decode cX2_part 2 = .ok (.if_icmp .lt 19, 3) := by decide +kernel
theorem dX2_part_5 : decode cX2_part 5 = .ok (.iload_n 2, 1) := by decide +kernel
theorem dX2_part_6 : decode cX2_part 6 = .ok (.aload_n 0, 1) := by decide +kernel
theorem dX2_part_7 : decode cX2_part 7 = .ok (.iload_n 1, 1) := by decide +kernel
theorem dX2_part_8 : decode cX2_part 8 = .ok (.invokevirtual 109, 3) := by decide +kernel
theorem dX2_part_11 : decode cX2_part 11 = .ok (.if_icmp .gt 10, 3) := by decide +kernel
theorem dX2_part_14 : decode cX2_part 14 = .ok (.iload_n 3, 1) := by decide +kernel
theorem dX2_part_15 : decode cX2_part 15 = .ok (.invokestatic 113, 3) := by decide +kernel
theorem dX2_part_18 : decode cX2_part 18 = .ok (.ifCond .ne 13, 3) := by decide +kernel
theorem dX2_part_21 : decode cX2_part 21 = .ok (.new 66, 3) := by decide +kernel
theorem dX2_part_24 : decode cX2_part 24 = .ok (.dup, 1) := by decide +kernel
theorem dX2_part_25 : decode cX2_part 25 = .ok (.ldc 116, 2) := by decide +kernel
theorem dX2_part_27 : decode cX2_part 27 = .ok (.invokespecial 70, 3) := by decide +kernel
theorem dX2_part_30 : decode cX2_part 30 = .ok (.athrow, 1) := by decide +kernel
theorem dX2_part_31 : decode cX2_part 31 = .ok (.iload_n 3, 1) := by decide +kernel
theorem dX2_part_32 : decode cX2_part 32 = .ok (.ifCond .ne 12, 3) := by decide +kernel
theorem dX2_part_35 : decode cX2_part 35 = .ok (.aload_n 0, 1) := by decide +kernel
theorem dX2_part_36 : decode cX2_part 36 = .ok (.iload_n 1, 1) := by decide +kernel
theorem dX2_part_37 : decode cX2_part 37 = .ok (.iload_n 2, 1) := by decide +kernel
theorem dX2_part_38 : decode cX2_part 38 = .ok (.invokevirtual 118, 3) := by decide +kernel
theorem dX2_part_41 : decode cX2_part 41 = .ok (.goto 9, 3) := by decide +kernel
theorem dX2_part_44 : decode cX2_part 44 = .ok (.aload_n 0, 1) := by decide +kernel
theorem dX2_part_45 : decode cX2_part 45 = .ok (.iload_n 1, 1) := by decide +kernel
theorem dX2_part_46 : decode cX2_part 46 = .ok (.iload_n 2, 1) := by decide +kernel
theorem dX2_part_47 : decode cX2_part 47 = .ok (.invokevirtual 122, 3) := by decide +kernel
theorem dX2_part_50 : decode cX2_part 50 = .ok (.lreturn, 1) := by decide +kernel
theorem dX2_integral_0 : decode cX2_integral 0 = .ok (.aload_n 0, 1) := by decide +kernel
theorem dX2_integral_1 : decode cX2_integral 1 = .ok (.iload_n 1, 1) := by decide +kernel
theorem dX2_integral_2 : decode cX2_integral 2 = .ok (.iload_n 2, 1) := by decide +kernel
theorem dX2_integral_3 : decode cX2_integral 3 = .ok (.invokevirtual 125, 3) := by decide +kernel
theorem dX2_integral_6 : decode cX2_integral 6 = .ok (.ifCond .eq 10, 3) := by decide +kernel
theorem dX2_integral_9 : decode cX2_integral 9 = .ok (.iload_n 3, 1) := by decide +kernel
theorem dX2_integral_10 : decode cX2_integral 10 = .ok (.invokestatic 113, 3) := by decide +kernel
theorem dX2_integral_13 : decode cX2_integral 13 = .ok (.ifCond .ne 13, 3) := by decide +kernel
theorem dX2_integral_16 : decode cX2_integral 16 = .ok (.new 66, 3) := by decide +kernel
theorem dX2_integral_19 : decode cX2_integral 19 = .ok (.dup, 1) := by decide +kernel
theorem dX2_integral_20 : decode cX2_integral 20 = .ok (.ldc 129, 2) := by decide +kernel
theorem dX2_integral_22 : decode cX2_integral 22 = .ok (.invokespecial 70, 3) := by decide +kernel
theorem dX2_integral_25 : decode cX2_integral 25 = .ok (.athrow, 1) := by decide +kernel
theorem dX2_integral_26 : decode cX2_integral 26 = .ok (.iload_n 1, 1) := by decide +kernel
theorem dX2_integral_27 : decode cX2_integral 27 = .ok (.bipush 9, 2) := by decide +kernel
theorem dX2_integral_29 : decode cX2_integral 29 = .ok (.if_icmp .ne 20, 3) := by decide +kernel
theorem dX2_integral_32 : decode cX2_integral 32 = .ok (.aload_n 0, 1) := by decide +kernel
theorem dX2_integral_33 : decode cX2_integral 33 = .ok (.getfield 26, 3) := by decide +kernel
theorem dX2_integral_36 : decode cX2_integral 36 = .ok (.iload_n 2, 1) := by decide +kernel
theorem dX2_integral_37 : decode cX2_integral 37 = .ok (.iconst 1, 1) := by decide +kernel
theorem dX2_integral_38 : decode cX2_integral 38 = .ok (.isub, 1) := by decide +kernel
theorem dX2_integral_39 : decode cX2_integral 39 = .ok (.invokevirtual 101, 3) := by decide +kernel
theorem dX2_integral_42 : decode cX2_integral 42 = .ok (.iload_n 2, 1) := by decide +kernel
theorem dX2_integral_43 : decode cX2_integral 43 = .ok (.i2l, 1) := by decide +kernel
theorem dX2_integral_44 : decode cX2_integral 44 = .ok (.iload_n 3, 1) := by decide +kernel
theorem dX2_integral_45 : decode cX2_integral 45 = .ok (.invokestatic 131, 3) := by decide +kernel
theorem dX2_integral_48 : decode cX2_integral 48 = .ok (.lreturn, 1) := by decide +kernel
theorem dX2_integral_49 : decode cX2_integral 49 = .ok (.iload_n 2, 1) := by decide +kernel
theorem dX2_integral_50 : decode cX2_integral 50 = .ok (.ifCond .ne 23, 3) := by decide +kernel
theorem dX2_integral_53 : decode cX2_integral 53 = .ok (.iload_n 3, 1) := by decide +kernel
theorem dX2_integral_54 : decode cX2_integral 54 = .ok (.ifCond .ne 12, 3) := by decide +kernel
theorem dX2_integral_57 : decode cX2_integral 57 = .ok (.aload_n 0, 1) := by decide +kernel
theorem dX2_integral_58 : decode cX2_integral 58 = .ok (.iload_n 1, 1) := by decide +kernel
theorem dX2_integral_59 : decode cX2_integral 59 = .ok (.iconst 1, 1) := by decide +kernel
theorem dX2_integral_60 : decode cX2_integral 60 = .ok (.invokevirtual 118, 3) := by decide +kernel
theorem dX2_integral_63 : decode cX2_integral 63 = .ok (.goto 9, 3) := by decide +kernel
theorem dX2_integral_66 : decode cX2_integral 66 = .ok (.aload_n 0, 1) := by decide +kernel
theorem dX2_integral_67 : decode cX2_integral 67 = .ok (.iload_n 1, 1) := by decide +kernel
theorem dX2_integral_68 : decode cX2_integral 68 = .ok (.iconst 1, 1) := by decide +kernel
theorem dX2_integral_69 : decode cX2_integral 69 = .ok (.invokevirtual 122, 3) := by decide +kernel
theorem dX2_integral_72 : decode cX2_integral 72 = .ok (.lreturn, 1) := by decide +kernel
theorem dX2_integral_73 : decode cX2_integral 73 = .ok (.aload_n 0, 1) := by decide +kernel
theorem dX2_integral_74 : decode cX2_integral 74 = .ok (.iload_n 1, 1) := by decide +kernel
theorem dX2_integral_75 : decode cX2_integral 75 = .ok (.iload_n 2, 1) := by decide +kernel
theorem dX2_integral_76 : decode cX2_integral 76 = .ok (.iconst 1, 1) := by decide +kernel
theorem dX2_integral_77 : decode cX2_integral 77 = .ok (.iadd, 1) := by decide +kernel
theorem dX2_integral_78 : decode cX2_integral 78 = .ok (.invokevirtual 118, 3) := by decide +kernel
theorem dX2_integral_81 : decode cX2_integral 81 = .ok (.lneg, 1) := by decide +kernel
theorem dX2_integral_82 : decode cX2_integral 82 = .ok (.aload_n 0, 1) := by decide +kernel
theorem dX2_integral_83 : decode cX2_integral 83 = .ok (.iload_n 1, 1) := by decide +kernel
theorem dX2_integral_84 : decode cX2_integral 84 = .ok (.iload_n 2, 1) := by decide +kernel
theorem dX2_integral_85 : decode cX2_integral 85 = .ok (.iconst 1, 1) := by decide +kernel
theorem dX2_integral_86 : decode cX2_integral 86 = .ok (.iadd, 1) := by decide +kernel
theorem dX2_integral_87 : decode cX2_integral 87 = .ok (.invokevirtual 122, 3) := by decide +kernel
theorem dX2_integral_90 : decode cX2_integral 90 = .ok (.iload_n 2, 1) := by decide +kernel
theorem dX2_integral_91 : decode cX2_integral 91 = .ok (.i2l, 1) := by decide +kernel
theorem dX2_integral_92 : decode cX2_integral 92 = .ok (.lmul, 1) := by decide +kernel
theorem dX2_integral_93 : decode cX2_integral 93 = .ok (.iload_n 3, 1) := by decide +kernel
theorem dX2_integral_94 : decode cX2_integral 94 = .ok (.invokestatic 131, 3) := by decide +kernel
theorem dX2_integral_97 : decode cX2_integral 97 = .ok (.lreturn, 1) := by decide +kernel
theorem dX2_value_0 : decode cX2_value 0 = .ok (.iload_n 1, 1) := by decide +kernel
theorem dX2_value_1 : decode cX2_value 1 = .ok (.bipush (-20), 2) := by decide +kernel
theorem dX2_value_3 : decode cX2_value 3 = .ok (.if_icmp .lt 24, 3) := by decide +kernel
theorem dX2_value_6 : decode cX2_value 6 = .ok (.iload_n 1, 1) := by decide +kernel
theorem dX2_value_7 : decode cX2_value 7 = .ok (.bipush 20, 2) := by decide +kernel
theorem dX2_value_9 : decode cX2_value 9 = .ok (.if_icmp .gt 18, 3) := by decide +kernel
theorem dX2_value_12 : decode cX2_value 12 = .ok (.aload_n 0, 1) := by decide +kernel
theorem dX2_value_13 : decode cX2_value 13 = .ok (.iload_n 1, 1) := by decide +kernel
theorem dX2_value_14 : decode cX2_value 14 = .ok (.invokevirtual 109, 3) := by decide +kernel
theorem dX2_value_17 : decode cX2_value 17 = .ok (.ifCond .gt 10, 3) := by decide +kernel
theorem dX2_value_20 : decode cX2_value 20 = .ok (.iload_n 2, 1) := by decide +kernel
theorem dX2_value_21 : decode cX2_value 21 = .ok (.invokestatic 113, 3) := by decide +kernel
theorem dX2_value_24 : decode cX2_value 24 = .ok (.ifCond .ne 13, 3) := by decide +kernel
theorem dX2_value_27 : decode cX2_value 27 = .ok (.new 66, 3) := by decide +kernel
theorem dX2_value_30 : decode cX2_value 30 = .ok (.dup, 1) := by decide +kernel
theorem dX2_value_31 : decode cX2_value 31 = .ok (.ldc 135, 2) := by decide +kernel
theorem dX2_value_33 : decode cX2_value 33 = .ok (.invokespecial 70, 3) := by decide +kernel
theorem dX2_value_36 : decode cX2_value 36 = .ok (.athrow, 1) := by decide +kernel
theorem dX2_value_37 : decode cX2_value 37 = .ok (.aload_n 0, 1) := by decide +kernel
theorem dX2_value_38 : decode cX2_value 38 = .ok (.getfield 19, 3) := by decide +kernel
theorem dX2_value_41 : decode cX2_value 41 = .ok (.iload_n 1, 1) := by decide +kernel
theorem dX2_value_42 : decode cX2_value 42 = .ok (.invokevirtual 137, 3) := by decide +kernel
theorem dX2_value_45 : decode cX2_value 45 = .ok (.aload_n 0, 1) := by decide +kernel
theorem dX2_value_46 : decode cX2_value 46 = .ok (.getfield 23, 3) := by decide +kernel
theorem dX2_value_49 : decode cX2_value 49 = .ok (.iload_n 1, 1) := by decide +kernel
theorem dX2_value_50 : decode cX2_value 50 = .ok (.invokevirtual 137, 3) := by decide +kernel
theorem dX2_value_53 : decode cX2_value 53 = .ok (.iload_n 2, 1) := by decide +kernel
theorem dX2_value_54 : decode cX2_value 54 = .ok (.invokestatic 131, 3) := by decide +kernel
theorem dX2_value_57 : decode cX2_value 57 = .ok (.lreturn, 1) := by decide +kernel
theorem dX2_at_0 : decode cX2_at 0 = .ok (.dload_n 1, 1) := by decide +kernel
theorem dX2_at_1 : decode cX2_at 1 = .ok (.invokestatic 140, 3) := by decide +kernel
theorem dX2_at_4 : decode cX2_at 4 = .ok (.ifCond .ne 13, 3) := by decide +kernel
theorem dX2_at_7 : decode cX2_at 7 = .ok (.new 66, 3) := by decide +kernel
theorem dX2_at_10 : decode cX2_at 10 = .ok (.dup, 1) := by decide +kernel
theorem dX2_at_11 : decode cX2_at 11 = .ok (.ldc 144, 2) := by decide +kernel
theorem dX2_at_13 : decode cX2_at 13 = .ok (.invokespecial 70, 3) := by decide +kernel
theorem dX2_at_16 : decode cX2_at 16 = .ok (.athrow, 1) := by decide +kernel
theorem dX2_at_17 : decode cX2_at 17 = .ok (.aload_n 0, 1) := by decide +kernel
theorem dX2_at_18 : decode cX2_at 18 = .ok (.getfield 23, 3) := by decide +kernel
theorem dX2_at_21 : decode cX2_at 21 = .ok (.dload_n 1, 1) := by decide +kernel
theorem dX2_at_22 : decode cX2_at 22 = .ok (.invokevirtual 146, 3) := by decide +kernel
theorem dX2_at_25 : decode cX2_at 25 = .ok (.dstore_n 3, 1) := by decide +kernel
theorem dX2_at_26 : decode cX2_at 26 = .ok (.dload_n 3, 1) := by decide +kernel
theorem dX2_at_27 : decode cX2_at 27 = .ok (.dconst 0, 1) := by decide +kernel
theorem dX2_at_28 : decode cX2_at 28 = .ok (.dcmp .l, 1) := by decide +kernel
theorem dX2_at_29 : decode cX2_at 29 = .ok (.ifCond .ne 7, 3) := by decide +kernel
theorem dX2_at_32 : decode cX2_at 32 = .ok (.dconst 0, 1) := by decide +kernel
theorem dX2_at_33 : decode cX2_at 33 = .ok (.goto 13, 3) := by decide +kernel
theorem dX2_at_36 : decode cX2_at 36 = .ok (.aload_n 0, 1) := by decide +kernel
theorem dX2_at_37 : decode cX2_at 37 = .ok (.getfield 19, 3) := by decide +kernel
theorem dX2_at_40 : decode cX2_at 40 = .ok (.dload_n 1, 1) := by decide +kernel
theorem dX2_at_41 : decode cX2_at 41 = .ok (.invokevirtual 146, 3) := by decide +kernel
theorem dX2_at_44 : decode cX2_at 44 = .ok (.dload_n 3, 1) := by decide +kernel
theorem dX2_at_45 : decode cX2_at 45 = .ok (.ddiv, 1) := by decide +kernel
theorem dX2_at_46 : decode cX2_at 46 = .ok (.dreturn, 1) := by decide +kernel
theorem dX2_byParts_0 : decode cX2_byParts 0 = .ok (.dload_n 1, 1) := by decide +kernel
theorem dX2_byParts_1 : decode cX2_byParts 1 = .ok (.invokestatic 140, 3) := by decide +kernel
theorem dX2_byParts_4 : decode cX2_byParts 4 = .ok (.ifCond .ne 13, 3) := by decide +kernel
theorem dX2_byParts_7 : decode cX2_byParts 7 = .ok (.new 66, 3) := by decide +kernel
theorem dX2_byParts_10 : decode cX2_byParts 10 = .ok (.dup, 1) := by decide +kernel
theorem dX2_byParts_11 : decode cX2_byParts 11 = .ok (.ldc 144, 2) := by decide +kernel
theorem dX2_byParts_13 : decode cX2_byParts 13 = .ok (.invokespecial 70, 3) := by decide +kernel
theorem dX2_byParts_16 : decode cX2_byParts 16 = .ok (.athrow, 1) := by decide +kernel
theorem dX2_byParts_17 : decode cX2_byParts 17 = .ok (.aload_n 0, 1) := by decide +kernel
theorem dX2_byParts_18 : decode cX2_byParts 18 = .ok (.getfield 26, 3) := by decide +kernel
theorem dX2_byParts_21 : decode cX2_byParts 21 = .ok (.dload_n 1, 1) := by decide +kernel
theorem dX2_byParts_22 : decode cX2_byParts 22 = .ok (.invokevirtual 146, 3) := by decide +kernel
theorem dX2_byParts_25 : decode cX2_byParts 25 = .ok (.dstore_n 3, 1) := by decide +kernel
theorem dX2_byParts_26 : decode cX2_byParts 26 = .ok (.bipush (-3), 2) := by decide +kernel
theorem dX2_byParts_28 : decode cX2_byParts 28 = .ok (.istore 5, 2) := by decide +kernel
theorem dX2_byParts_30 : decode cX2_byParts 30 = .ok (.iload 5, 2) := by decide +kernel
theorem dX2_byParts_32 : decode cX2_byParts 32 = .ok (.iconst 3, 1) := by decide +kernel
theorem dX2_byParts_33 : decode cX2_byParts 33 = .ok (.if_icmp .gt 18, 3) := by decide +kernel
theorem dX2_byParts_36 : decode cX2_byParts 36 = .ok (.aload_n 0, 1) := by decide +kernel
theorem dX2_byParts_37 : decode cX2_byParts 37 = .ok (.iload 5, 2) := by decide +kernel
theorem dX2_byParts_39 : decode cX2_byParts 39 = .ok (.dload_n 1, 1) := by decide +kernel
theorem dX2_byParts_40 : decode cX2_byParts 40 = .ok (.dload_n 3, 1) := by decide +kernel
theorem dX2_byParts_41 : decode cX2_byParts 41 = .ok (.invokevirtual 150, 3) := by decide +kernel
theorem dX2_byParts_44 : decode cX2_byParts 44 = .ok (.dstore_n 3, 1) := by decide +kernel
theorem dX2_byParts_45 : decode cX2_byParts 45 = .ok (.iinc 5 1, 3) := by decide +kernel
theorem dX2_byParts_48 : decode cX2_byParts 48 = .ok (.goto (-18), 3) := by decide +kernel
theorem dX2_byParts_51 : decode cX2_byParts 51 = .ok (.dload_n 3, 1) := by decide +kernel
theorem dX2_byParts_52 : decode cX2_byParts 52 = .ok (.dreturn, 1) := by decide +kernel
theorem dX2_withPartsOf_0 : decode cX2_withPartsOf 0 = .ok (.dload 4, 2) := by decide +kernel
theorem dX2_withPartsOf_2 : decode cX2_withPartsOf 2 = .ok (.dstore 6, 2) := by decide +kernel
theorem dX2_withPartsOf_4 : decode cX2_withPartsOf 4 = .ok (.dload_n 2, 1) := by decide +kernel
theorem dX2_withPartsOf_5 : decode cX2_withPartsOf 5 = .ok (.iload_n 1, 1) := by decide +kernel
theorem dX2_withPartsOf_6 : decode cX2_withPartsOf 6 = .ok (.i2d, 1) := by decide +kernel
theorem dX2_withPartsOf_7 : decode cX2_withPartsOf 7 = .ok (.dsub, 1) := by decide +kernel
theorem dX2_withPartsOf_8 : decode cX2_withPartsOf 8 = .ok (.dstore 8, 2) := by decide +kernel
theorem dX2_withPartsOf_10 : decode cX2_withPartsOf 10 = .ok (.dload 8, 2) := by decide +kernel
theorem dX2_withPartsOf_12 : decode cX2_withPartsOf 12 = .ok (.dstore 10, 2) := by decide +kernel
theorem dX2_withPartsOf_14 : decode cX2_withPartsOf 14 = .ok (.aload_n 0, 1) := by decide +kernel
theorem dX2_withPartsOf_15 : decode cX2_withPartsOf 15 = .ok (.iload_n 1, 1) := by decide +kernel
theorem dX2_withPartsOf_16 : decode cX2_withPartsOf 16 = .ok (.invokevirtual 109, 3) := by decide +kernel
theorem dX2_withPartsOf_19 : decode cX2_withPartsOf 19 = .ok (.istore 12, 2) := by decide +kernel
theorem dX2_withPartsOf_21 : decode cX2_withPartsOf 21 = .ok (.iconst 1, 1) := by decide +kernel
theorem dX2_withPartsOf_22 : decode cX2_withPartsOf 22 = .ok (.istore 13, 2) := by decide +kernel
theorem dX2_withPartsOf_24 : decode cX2_withPartsOf 24 = .ok (.iload 13, 2) := by decide +kernel
theorem dX2_withPartsOf_26 : decode cX2_withPartsOf 26 = .ok (.iload 12, 2) := by decide +kernel
theorem dX2_withPartsOf_28 : decode cX2_withPartsOf 28 = .ok (.if_icmp .gt 48, 3) := by decide +kernel
theorem dX2_withPartsOf_31 : decode cX2_withPartsOf 31 = .ok (.dload 10, 2) := by decide +kernel
theorem dX2_withPartsOf_33 : decode cX2_withPartsOf 33 = .ok (.dconst 0, 1) := by decide +kernel
theorem dX2_withPartsOf_34 : decode cX2_withPartsOf 34 = .ok (.dcmp .l, 1) := by decide +kernel
theorem dX2_withPartsOf_35 : decode cX2_withPartsOf 35 = .ok (.ifCond .eq 28, 3) := by decide +kernel
theorem dX2_withPartsOf_38 : decode cX2_withPartsOf 38 = .ok (.dload 6, 2) := by decide +kernel
theorem dX2_withPartsOf_40 : decode cX2_withPartsOf 40 = .ok (.aload_n 0, 1) := by decide +kernel
theorem dX2_withPartsOf_41 : decode cX2_withPartsOf 41 = .ok (.iload_n 1, 1) := by decide +kernel
theorem dX2_withPartsOf_42 : decode cX2_withPartsOf 42 = .ok (.iload 13, 2) := by decide +kernel
theorem dX2_withPartsOf_44 : decode cX2_withPartsOf 44 = .ok (.invokevirtual 118, 3) := by decide +kernel
theorem dX2_withPartsOf_47 : decode cX2_withPartsOf 47 = .ok (.l2d, 1) := by decide +kernel
theorem dX2_withPartsOf_48 : decode cX2_withPartsOf 48 = .ok (.aload_n 0, 1) := by decide +kernel
theorem dX2_withPartsOf_49 : decode cX2_withPartsOf 49 = .ok (.iload_n 1, 1) := by decide +kernel
theorem dX2_withPartsOf_50 : decode cX2_withPartsOf 50 = .ok (.iload 13, 2) := by decide +kernel
theorem dX2_withPartsOf_52 : decode cX2_withPartsOf 52 = .ok (.invokevirtual 122, 3) := by decide +kernel
theorem dX2_withPartsOf_55 : decode cX2_withPartsOf 55 = .ok (.l2d, 1) := by decide +kernel
theorem dX2_withPartsOf_56 : decode cX2_withPartsOf 56 = .ok (.ddiv, 1) := by decide +kernel
theorem dX2_withPartsOf_57 : decode cX2_withPartsOf 57 = .ok (.dload 10, 2) := by decide +kernel
theorem dX2_withPartsOf_59 : decode cX2_withPartsOf 59 = .ok (.ddiv, 1) := by decide +kernel
theorem dX2_withPartsOf_60 : decode cX2_withPartsOf 60 = .ok (.dadd, 1) := by decide +kernel
theorem dX2_withPartsOf_61 : decode cX2_withPartsOf 61 = .ok (.dstore 6, 2) := by decide +kernel
theorem dX2_withPartsOf_63 : decode cX2_withPartsOf 63 = .ok (.dload 10, 2) := by decide +kernel
theorem dX2_withPartsOf_65 : decode cX2_withPartsOf 65 = .ok (.dload 8, 2) := by decide +kernel
theorem dX2_withPartsOf_67 : decode cX2_withPartsOf 67 = .ok (.dmul, 1) := by decide +kernel
theorem dX2_withPartsOf_68 : decode cX2_withPartsOf 68 = .ok (.dstore 10, 2) := by decide +kernel
theorem dX2_withPartsOf_70 : decode cX2_withPartsOf 70 = .ok (.iinc 13 1, 3) := by decide +kernel
theorem dX2_withPartsOf_73 : decode cX2_withPartsOf 73 = .ok (.goto (-49), 3) := by decide +kernel
theorem dX2_withPartsOf_76 : decode cX2_withPartsOf 76 = .ok (.dload 6, 2) := by decide +kernel
theorem dX2_withPartsOf_78 : decode cX2_withPartsOf 78 = .ok (.dreturn, 1) := by decide +kernel
theorem dX2_isPossibleRoot_0 : decode cX2_isPossibleRoot 0 = .ok (.iload_n 0, 1) := by decide +kernel
theorem dX2_isPossibleRoot_1 : decode cX2_isPossibleRoot 1 = .ok (.bipush (-3), 2) := by decide +kernel
theorem dX2_isPossibleRoot_3 : decode cX2_isPossibleRoot 3 = .ok (.if_icmp .lt 12, 3) := by decide +kernel
theorem dX2_isPossibleRoot_6 : decode cX2_isPossibleRoot 6 = .ok (.iload_n 0, 1) := by decide +kernel
theorem dX2_isPossibleRoot_7 : decode cX2_isPossibleRoot 7 = .ok (.iconst 3, 1) := by decide +kernel
theorem dX2_isPossibleRoot_8 : decode cX2_isPossibleRoot 8 = .ok (.if_icmp .gt 7, 3) := by decide +kernel
theorem dX2_isPossibleRoot_11 : decode cX2_isPossibleRoot 11 = .ok (.iconst 1, 1) := by decide +kernel
theorem dX2_isPossibleRoot_12 : decode cX2_isPossibleRoot 12 = .ok (.goto 4, 3) := by decide +kernel
theorem dX2_isPossibleRoot_15 : decode cX2_isPossibleRoot 15 = .ok (.iconst 0, 1) := by decide +kernel
theorem dX2_isPossibleRoot_16 : decode cX2_isPossibleRoot 16 = .ok (.ireturn, 1) := by decide +kernel
theorem dX2_isSide_0 : decode cX2_isSide 0 = .ok (.iload_n 0, 1) := by decide +kernel
theorem dX2_isSide_1 : decode cX2_isSide 1 = .ok (.ifCond .eq 8, 3) := by decide +kernel
theorem dX2_isSide_4 : decode cX2_isSide 4 = .ok (.iload_n 0, 1) := by decide +kernel
theorem dX2_isSide_5 : decode cX2_isSide 5 = .ok (.iconst 1, 1) := by decide +kernel
theorem dX2_isSide_6 : decode cX2_isSide 6 = .ok (.if_icmp .ne 7, 3) := by decide +kernel
theorem dX2_isSide_9 : decode cX2_isSide 9 = .ok (.iconst 1, 1) := by decide +kernel
theorem dX2_isSide_10 : decode cX2_isSide 10 = .ok (.goto 4, 3) := by decide +kernel
theorem dX2_isSide_13 : decode cX2_isSide 13 = .ok (.iconst 0, 1) := by decide +kernel
theorem dX2_isSide_14 : decode cX2_isSide 14 = .ok (.ireturn, 1) := by decide +kernel
theorem dX2_isNear_0 : decode cX2_isNear 0 = .ok (.dload_n 0, 1) := by decide +kernel
theorem dX2_isNear_1 : decode cX2_isNear 1 = .ok (.ldc2_w 154, 3) := by decide +kernel
theorem dX2_isNear_4 : decode cX2_isNear 4 = .ok (.dcmp .l, 1) := by decide +kernel
theorem dX2_isNear_5 : decode cX2_isNear 5 = .ok (.ifCond .lt 15, 3) := by decide +kernel
theorem dX2_isNear_8 : decode cX2_isNear 8 = .ok (.dload_n 0, 1) := by decide +kernel
theorem dX2_isNear_9 : decode cX2_isNear 9 = .ok (.ldc2_w 156, 3) := by decide +kernel
theorem dX2_isNear_12 : decode cX2_isNear 12 = .ok (.dcmp .g, 1) := by decide +kernel
theorem dX2_isNear_13 : decode cX2_isNear 13 = .ok (.ifCond .gt 7, 3) := by decide +kernel
theorem dX2_isNear_16 : decode cX2_isNear 16 = .ok (.iconst 1, 1) := by decide +kernel
theorem dX2_isNear_17 : decode cX2_isNear 17 = .ok (.goto 4, 3) := by decide +kernel
theorem dX2_isNear_20 : decode cX2_isNear 20 = .ok (.iconst 0, 1) := by decide +kernel
theorem dX2_isNear_21 : decode cX2_isNear 21 = .ok (.ireturn, 1) := by decide +kernel
theorem dX2_isInIntegral_0 : decode cX2_isInIntegral 0 = .ok (.iload_n 1, 1) := by decide +kernel
theorem dX2_isInIntegral_1 : decode cX2_isInIntegral 1 = .ok (.bipush 9, 2) := by decide +kernel
theorem dX2_isInIntegral_3 : decode cX2_isInIntegral 3 = .ok (.if_icmp .ne 16, 3) := by decide +kernel
theorem dX2_isInIntegral_6 : decode cX2_isInIntegral 6 = .ok (.iload_n 2, 1) := by decide +kernel
theorem dX2_isInIntegral_7 : decode cX2_isInIntegral 7 = .ok (.iconst 1, 1) := by decide +kernel
theorem dX2_isInIntegral_8 : decode cX2_isInIntegral 8 = .ok (.if_icmp .lt 7, 3) := by decide +kernel
theorem dX2_isInIntegral_11 : decode cX2_isInIntegral 11 = .ok (.iconst 1, 1) := by decide +kernel
theorem dX2_isInIntegral_12 : decode cX2_isInIntegral 12 = .ok (.goto 25, 3) := by decide +kernel
theorem dX2_isInIntegral_15 : decode cX2_isInIntegral 15 = .ok (.iconst 0, 1) := by decide +kernel
theorem dX2_isInIntegral_16 : decode cX2_isInIntegral 16 = .ok (.goto 21, 3) := by decide +kernel
theorem dX2_isInIntegral_19 : decode cX2_isInIntegral 19 = .ok (.iload_n 2, 1) := by decide +kernel
theorem dX2_isInIntegral_20 : decode cX2_isInIntegral 20 = .ok (.ifCond .lt 16, 3) := by decide +kernel
theorem dX2_isInIntegral_23 : decode cX2_isInIntegral 23 = .ok (.iload_n 2, 1) := by decide +kernel
theorem dX2_isInIntegral_24 : decode cX2_isInIntegral 24 = .ok (.aload_n 0, 1) := by decide +kernel
theorem dX2_isInIntegral_25 : decode cX2_isInIntegral 25 = .ok (.iload_n 1, 1) := by decide +kernel
theorem dX2_isInIntegral_26 : decode cX2_isInIntegral 26 = .ok (.invokevirtual 109, 3) := by decide +kernel
theorem dX2_isInIntegral_29 : decode cX2_isInIntegral 29 = .ok (.if_icmp .ge 7, 3) := by decide +kernel
theorem dX2_isInIntegral_32 : decode cX2_isInIntegral 32 = .ok (.iconst 1, 1) := by decide +kernel
theorem dX2_isInIntegral_33 : decode cX2_isInIntegral 33 = .ok (.goto 4, 3) := by decide +kernel
theorem dX2_isInIntegral_36 : decode cX2_isInIntegral 36 = .ok (.iconst 0, 1) := by decide +kernel
theorem dX2_isInIntegral_37 : decode cX2_isInIntegral 37 = .ok (.ireturn, 1) := by decide +kernel
theorem dX2_placeOfPart_0 : decode cX2_placeOfPart 0 = .ok (.iload_n 0, 1) := by decide +kernel
theorem dX2_placeOfPart_1 : decode cX2_placeOfPart 1 = .ok (.invokestatic 105, 3) := by decide +kernel
theorem dX2_placeOfPart_4 : decode cX2_placeOfPart 4 = .ok (.ifCond .eq 17, 3) := by decide +kernel
theorem dX2_placeOfPart_7 : decode cX2_placeOfPart 7 = .ok (.iload_n 1, 1) := by decide +kernel
theorem dX2_placeOfPart_8 : decode cX2_placeOfPart 8 = .ok (.iconst 1, 1) := by decide +kernel
theorem dX2_placeOfPart_9 : decode cX2_placeOfPart 9 = .ok (.if_icmp .lt 12, 3) := by decide +kernel
theorem dX2_placeOfPart_12 : decode cX2_placeOfPart 12 = .ok (.iload_n 1, 1) := by decide +kernel
theorem dX2_placeOfPart_13 : decode cX2_placeOfPart 13 = .ok (.iconst 5, 1) := by decide +kernel
theorem dX2_placeOfPart_14 : decode cX2_placeOfPart 14 = .ok (.if_icmp .gt 7, 3) := by decide +kernel
theorem dX2_placeOfPart_17 : decode cX2_placeOfPart 17 = .ok (.iconst 1, 1) := by decide +kernel
theorem dX2_placeOfPart_18 : decode cX2_placeOfPart 18 = .ok (.goto 4, 3) := by decide +kernel
theorem dX2_placeOfPart_21 : decode cX2_placeOfPart 21 = .ok (.iconst 0, 1) := by decide +kernel
theorem dX2_placeOfPart_22 : decode cX2_placeOfPart 22 = .ok (.istore_n 2, 1) := by decide +kernel
theorem dX2_placeOfPart_23 : decode cX2_placeOfPart 23 = .ok (.iload_n 2, 1) := by decide +kernel
theorem dX2_placeOfPart_24 : decode cX2_placeOfPart 24 = .ok (.ifCond .eq 16, 3) := by decide +kernel
theorem dX2_placeOfPart_27 : decode cX2_placeOfPart 27 = .ok (.iload_n 0, 1) := by decide +kernel
theorem dX2_placeOfPart_28 : decode cX2_placeOfPart 28 = .ok (.bipush (-3), 2) := by decide +kernel
theorem dX2_placeOfPart_30 : decode cX2_placeOfPart 30 = .ok (.isub, 1) := by decide +kernel
theorem dX2_placeOfPart_31 : decode cX2_placeOfPart 31 = .ok (.iconst 5, 1) := by decide +kernel
theorem dX2_placeOfPart_32 : decode cX2_placeOfPart 32 = .ok (.imul, 1) := by decide +kernel
theorem dX2_placeOfPart_33 : decode cX2_placeOfPart 33 = .ok (.iload_n 1, 1) := by decide +kernel
theorem dX2_placeOfPart_34 : decode cX2_placeOfPart 34 = .ok (.iadd, 1) := by decide +kernel
theorem dX2_placeOfPart_35 : decode cX2_placeOfPart 35 = .ok (.iconst 1, 1) := by decide +kernel
theorem dX2_placeOfPart_36 : decode cX2_placeOfPart 36 = .ok (.isub, 1) := by decide +kernel
theorem dX2_placeOfPart_37 : decode cX2_placeOfPart 37 = .ok (.goto 4, 3) := by decide +kernel
theorem dX2_placeOfPart_40 : decode cX2_placeOfPart 40 = .ok (.iconst (-1), 1) := by decide +kernel
theorem dX2_placeOfPart_41 : decode cX2_placeOfPart 41 = .ok (.ireturn, 1) := by decide +kernel
theorem dX2_partAbove_0 : decode cX2_partAbove 0 = .ok (.iload_n 1, 1) := by decide +kernel
theorem dX2_partAbove_1 : decode cX2_partAbove 1 = .ok (.iload_n 2, 1) := by decide +kernel
theorem dX2_partAbove_2 : decode cX2_partAbove 2 = .ok (.invokestatic 158, 3) := by decide +kernel
theorem dX2_partAbove_5 : decode cX2_partAbove 5 = .ok (.istore_n 3, 1) := by decide +kernel
theorem dX2_partAbove_6 : decode cX2_partAbove 6 = .ok (.iload_n 3, 1) := by decide +kernel
theorem dX2_partAbove_7 : decode cX2_partAbove 7 = .ok (.ifCond .ge 7, 3) := by decide +kernel
theorem dX2_partAbove_10 : decode cX2_partAbove 10 = .ok (.lconst 0, 1) := by decide +kernel
theorem dX2_partAbove_11 : decode cX2_partAbove 11 = .ok (.goto 9, 3) := by decide +kernel
theorem dX2_partAbove_14 : decode cX2_partAbove 14 = .ok (.aload_n 0, 1) := by decide +kernel
theorem dX2_partAbove_15 : decode cX2_partAbove 15 = .ok (.getfield 33, 3) := by decide +kernel
theorem dX2_partAbove_18 : decode cX2_partAbove 18 = .ok (.iload_n 3, 1) := by decide +kernel
theorem dX2_partAbove_19 : decode cX2_partAbove 19 = .ok (.laload, 1) := by decide +kernel
theorem dX2_partAbove_20 : decode cX2_partAbove 20 = .ok (.lreturn, 1) := by decide +kernel
theorem dX2_partBelow_0 : decode cX2_partBelow 0 = .ok (.iload_n 1, 1) := by decide +kernel
theorem dX2_partBelow_1 : decode cX2_partBelow 1 = .ok (.iload_n 2, 1) := by decide +kernel
theorem dX2_partBelow_2 : decode cX2_partBelow 2 = .ok (.invokestatic 158, 3) := by decide +kernel
theorem dX2_partBelow_5 : decode cX2_partBelow 5 = .ok (.istore_n 3, 1) := by decide +kernel
theorem dX2_partBelow_6 : decode cX2_partBelow 6 = .ok (.iload_n 3, 1) := by decide +kernel
theorem dX2_partBelow_7 : decode cX2_partBelow 7 = .ok (.ifCond .ge 7, 3) := by decide +kernel
theorem dX2_partBelow_10 : decode cX2_partBelow 10 = .ok (.lconst 1, 1) := by decide +kernel
theorem dX2_partBelow_11 : decode cX2_partBelow 11 = .ok (.goto 9, 3) := by decide +kernel
theorem dX2_partBelow_14 : decode cX2_partBelow 14 = .ok (.aload_n 0, 1) := by decide +kernel
theorem dX2_partBelow_15 : decode cX2_partBelow 15 = .ok (.getfield 37, 3) := by decide +kernel
theorem dX2_partBelow_18 : decode cX2_partBelow 18 = .ok (.iload_n 3, 1) := by decide +kernel
theorem dX2_partBelow_19 : decode cX2_partBelow 19 = .ok (.laload, 1) := by decide +kernel
theorem dX2_partBelow_20 : decode cX2_partBelow 20 = .ok (.lreturn, 1) := by decide +kernel
theorem dX2_keepPart_0 : decode cX2_keepPart 0 = .ok (.iload_n 1, 1) := by decide +kernel
theorem dX2_keepPart_1 : decode cX2_keepPart 1 = .ok (.iload_n 2, 1) := by decide +kernel
theorem dX2_keepPart_2 : decode cX2_keepPart 2 = .ok (.invokestatic 158, 3) := by decide +kernel
theorem dX2_keepPart_5 : decode cX2_keepPart 5 = .ok (.istore 7, 2) := by decide +kernel
theorem dX2_keepPart_7 : decode cX2_keepPart 7 = .ok (.iload 7, 2) := by decide +kernel
theorem dX2_keepPart_9 : decode cX2_keepPart 9 = .ok (.ifCond .lt 31, 3) := by decide +kernel
theorem dX2_keepPart_12 : decode cX2_keepPart 12 = .ok (.aload_n 0, 1) := by decide +kernel
theorem dX2_keepPart_13 : decode cX2_keepPart 13 = .ok (.getfield 33, 3) := by decide +kernel
theorem dX2_keepPart_16 : decode cX2_keepPart 16 = .ok (.iload 7, 2) := by decide +kernel
theorem dX2_keepPart_18 : decode cX2_keepPart 18 = .ok (.lload_n 3, 1) := by decide +kernel
theorem dX2_keepPart_19 : decode cX2_keepPart 19 = .ok (.lload 5, 2) := by decide +kernel
theorem dX2_keepPart_21 : decode cX2_keepPart 21 = .ok (.iconst 0, 1) := by decide +kernel
theorem dX2_keepPart_22 : decode cX2_keepPart 22 = .ok (.invokestatic 131, 3) := by decide +kernel
theorem dX2_keepPart_25 : decode cX2_keepPart 25 = .ok (.lastore, 1) := by decide +kernel
theorem dX2_keepPart_26 : decode cX2_keepPart 26 = .ok (.aload_n 0, 1) := by decide +kernel
theorem dX2_keepPart_27 : decode cX2_keepPart 27 = .ok (.getfield 37, 3) := by decide +kernel
theorem dX2_keepPart_30 : decode cX2_keepPart 30 = .ok (.iload 7, 2) := by decide +kernel
theorem dX2_keepPart_32 : decode cX2_keepPart 32 = .ok (.lload_n 3, 1) := by decide +kernel
theorem dX2_keepPart_33 : decode cX2_keepPart 33 = .ok (.lload 5, 2) := by decide +kernel
theorem dX2_keepPart_35 : decode cX2_keepPart 35 = .ok (.iconst 1, 1) := by decide +kernel
theorem dX2_keepPart_36 : decode cX2_keepPart 36 = .ok (.invokestatic 131, 3) := by decide +kernel
theorem dX2_keepPart_39 : decode cX2_keepPart 39 = .ok (.lastore, 1) := by decide +kernel
theorem dX2_keepPart_40 : decode cX2_keepPart 40 = .ok (.return_, 1) := by decide +kernel
theorem dX2_inLowestTerms_0 : decode cX2_inLowestTerms 0 = .ok (.lload_n 0, 1) := by decide +kernel
theorem dX2_inLowestTerms_1 : decode cX2_inLowestTerms 1 = .ok (.lload_n 2, 1) := by decide +kernel
theorem dX2_inLowestTerms_2 : decode cX2_inLowestTerms 2 = .ok (.invokestatic 162, 3) := by decide +kernel
theorem dX2_inLowestTerms_5 : decode cX2_inLowestTerms 5 = .ok (.lstore 5, 2) := by decide +kernel
theorem dX2_inLowestTerms_7 : decode cX2_inLowestTerms 7 = .ok (.lload_n 2, 1) := by decide +kernel
theorem dX2_inLowestTerms_8 : decode cX2_inLowestTerms 8 = .ok (.lconst 0, 1) := by decide +kernel
theorem dX2_inLowestTerms_9 : decode cX2_inLowestTerms 9 = .ok (.lcmp, 1) := by decide +kernel
theorem dX2_inLowestTerms_10 : decode cX2_inLowestTerms 10 = .ok (.ifCond .eq 10, 3) := by decide +kernel
theorem dX2_inLowestTerms_13 : decode cX2_inLowestTerms 13 = .ok (.lload 5, 2) := by decide +kernel
theorem dX2_inLowestTerms_15 : decode cX2_inLowestTerms 15 = .ok (.lconst 0, 1) := by decide +kernel
theorem dX2_inLowestTerms_16 : decode cX2_inLowestTerms 16 = .ok (.lcmp, 1) := by decide +kernel
theorem dX2_inLowestTerms_17 : decode cX2_inLowestTerms 17 = .ok (.ifCond .ne 14, 3) := by decide +kernel
theorem dX2_inLowestTerms_20 : decode cX2_inLowestTerms 20 = .ok (.iload 4, 2) := by decide +kernel
theorem dX2_inLowestTerms_22 : decode cX2_inLowestTerms 22 = .ok (.ifCond .ne 7, 3) := by decide +kernel
theorem dX2_inLowestTerms_25 : decode cX2_inLowestTerms 25 = .ok (.lconst 0, 1) := by decide +kernel
theorem dX2_inLowestTerms_26 : decode cX2_inLowestTerms 26 = .ok (.goto 4, 3) := by decide +kernel
theorem dX2_inLowestTerms_29 : decode cX2_inLowestTerms 29 = .ok (.lconst 1, 1) := by decide +kernel
theorem dX2_inLowestTerms_30 : decode cX2_inLowestTerms 30 = .ok (.lreturn, 1) := by decide +kernel
theorem dX2_inLowestTerms_31 : decode cX2_inLowestTerms 31 = .ok (.lload_n 2, 1) := by decide +kernel
theorem dX2_inLowestTerms_32 : decode cX2_inLowestTerms 32 = .ok (.lconst 0, 1) := by decide +kernel
theorem dX2_inLowestTerms_33 : decode cX2_inLowestTerms 33 = .ok (.lcmp, 1) := by decide +kernel
theorem dX2_inLowestTerms_34 : decode cX2_inLowestTerms 34 = .ok (.ifCond .ge 9, 3) := by decide +kernel
theorem dX2_inLowestTerms_37 : decode cX2_inLowestTerms 37 = .ok (.lload 5, 2) := by decide +kernel
theorem dX2_inLowestTerms_39 : decode cX2_inLowestTerms 39 = .ok (.lneg, 1) := by decide +kernel
theorem dX2_inLowestTerms_40 : decode cX2_inLowestTerms 40 = .ok (.goto 5, 3) := by decide +kernel
theorem dX2_inLowestTerms_43 : decode cX2_inLowestTerms 43 = .ok (.lload 5, 2) := by decide +kernel
theorem dX2_inLowestTerms_45 : decode cX2_inLowestTerms 45 = .ok (.lstore 7, 2) := by decide +kernel
theorem dX2_inLowestTerms_47 : decode cX2_inLowestTerms 47 = .ok (.iload 4, 2) := by decide +kernel
theorem dX2_inLowestTerms_49 : decode cX2_inLowestTerms 49 = .ok (.ifCond .ne 7, 3) := by decide +kernel
theorem dX2_inLowestTerms_52 : decode cX2_inLowestTerms 52 = .ok (.lload_n 0, 1) := by decide +kernel
theorem dX2_inLowestTerms_53 : decode cX2_inLowestTerms 53 = .ok (.goto 4, 3) := by decide +kernel
theorem dX2_inLowestTerms_56 : decode cX2_inLowestTerms 56 = .ok (.lload_n 2, 1) := by decide +kernel
theorem dX2_inLowestTerms_57 : decode cX2_inLowestTerms 57 = .ok (.lload 7, 2) := by decide +kernel
theorem dX2_inLowestTerms_59 : decode cX2_inLowestTerms 59 = .ok (.ldiv, 1) := by decide +kernel
theorem dX2_inLowestTerms_60 : decode cX2_inLowestTerms 60 = .ok (.lreturn, 1) := by decide +kernel
theorem dX2_commonDivisor_0 : decode cX2_commonDivisor 0 = .ok (.lload_n 0, 1) := by decide +kernel
theorem dX2_commonDivisor_1 : decode cX2_commonDivisor 1 = .ok (.invokestatic 166, 3) := by decide +kernel
theorem dX2_commonDivisor_4 : decode cX2_commonDivisor 4 = .ok (.lstore 4, 2) := by decide +kernel
theorem dX2_commonDivisor_6 : decode cX2_commonDivisor 6 = .ok (.lload_n 2, 1) := by decide +kernel
theorem dX2_commonDivisor_7 : decode cX2_commonDivisor 7 = .ok (.invokestatic 166, 3) := by decide +kernel
theorem dX2_commonDivisor_10 : decode cX2_commonDivisor 10 = .ok (.lstore 6, 2) := by decide +kernel
theorem dX2_commonDivisor_12 : decode cX2_commonDivisor 12 = .ok (.iconst 0, 1) := by decide +kernel
theorem dX2_commonDivisor_13 : decode cX2_commonDivisor 13 = .ok (.istore 8, 2) := by decide +kernel
theorem dX2_commonDivisor_15 : decode cX2_commonDivisor 15 = .ok (.iload 8, 2) := by decide +kernel
theorem dX2_commonDivisor_17 : decode cX2_commonDivisor 17 = .ok (.bipush 100, 2) := by decide +kernel
theorem dX2_commonDivisor_19 : decode cX2_commonDivisor 19 = .ok (.if_icmp .ge 31, 3) := by decide +kernel
theorem dX2_commonDivisor_22 : decode cX2_commonDivisor 22 = .ok (.lload 6, 2) := by decide +kernel
theorem dX2_commonDivisor_24 : decode cX2_commonDivisor 24 = .ok (.lconst 0, 1) := by decide +kernel
theorem dX2_commonDivisor_25 : decode cX2_commonDivisor 25 = .ok (.lcmp, 1) := by decide +kernel
theorem dX2_commonDivisor_26 : decode cX2_commonDivisor 26 = .ok (.ifCond .eq 24, 3) := by decide +kernel
theorem dX2_commonDivisor_29 : decode cX2_commonDivisor 29 = .ok (.lload 4, 2) := by decide +kernel
theorem dX2_commonDivisor_31 : decode cX2_commonDivisor 31 = .ok (.lload 6, 2) := by decide +kernel
theorem dX2_commonDivisor_33 : decode cX2_commonDivisor 33 = .ok (.lrem, 1) := by decide +kernel
theorem dX2_commonDivisor_34 : decode cX2_commonDivisor 34 = .ok (.lstore 9, 2) := by decide +kernel
theorem dX2_commonDivisor_36 : decode cX2_commonDivisor 36 = .ok (.lload 6, 2) := by decide +kernel
theorem dX2_commonDivisor_38 : decode cX2_commonDivisor 38 = .ok (.lstore 4, 2) := by decide +kernel
theorem dX2_commonDivisor_40 : decode cX2_commonDivisor 40 = .ok (.lload 9, 2) := by decide +kernel
theorem dX2_commonDivisor_42 : decode cX2_commonDivisor 42 = .ok (.lstore 6, 2) := by decide +kernel
theorem dX2_commonDivisor_44 : decode cX2_commonDivisor 44 = .ok (.iinc 8 1, 3) := by decide +kernel
theorem dX2_commonDivisor_47 : decode cX2_commonDivisor 47 = .ok (.goto (-32), 3) := by decide +kernel
theorem dX2_commonDivisor_50 : decode cX2_commonDivisor 50 = .ok (.lload 4, 2) := by decide +kernel
theorem dX2_commonDivisor_52 : decode cX2_commonDivisor 52 = .ok (.lreturn, 1) := by decide +kernel
theorem dX2_sum_0 : decode cX2_sum 0 = .ok (.iconst 0, 1) := by decide +kernel
theorem dX2_sum_1 : decode cX2_sum 1 = .ok (.istore_n 1, 1) := by decide +kernel
theorem dX2_sum_2 : decode cX2_sum 2 = .ok (.aload_n 0, 1) := by decide +kernel
theorem dX2_sum_3 : decode cX2_sum 3 = .ok (.astore_n 2, 1) := by decide +kernel
theorem dX2_sum_4 : decode cX2_sum 4 = .ok (.aload_n 2, 1) := by decide +kernel
theorem dX2_sum_5 : decode cX2_sum 5 = .ok (.arraylength, 1) := by decide +kernel
theorem dX2_sum_6 : decode cX2_sum 6 = .ok (.istore_n 3, 1) := by decide +kernel
theorem dX2_sum_7 : decode cX2_sum 7 = .ok (.iconst 0, 1) := by decide +kernel
theorem dX2_sum_8 : decode cX2_sum 8 = .ok (.istore 4, 2) := by decide +kernel
theorem dX2_sum_10 : decode cX2_sum 10 = .ok (.iload 4, 2) := by decide +kernel
theorem dX2_sum_12 : decode cX2_sum 12 = .ok (.iload_n 3, 1) := by decide +kernel
theorem dX2_sum_13 : decode cX2_sum 13 = .ok (.if_icmp .ge 20, 3) := by decide +kernel
theorem dX2_sum_16 : decode cX2_sum 16 = .ok (.aload_n 2, 1) := by decide +kernel
theorem dX2_sum_17 : decode cX2_sum 17 = .ok (.iload 4, 2) := by decide +kernel
theorem dX2_sum_19 : decode cX2_sum 19 = .ok (.iaload, 1) := by decide +kernel
theorem dX2_sum_20 : decode cX2_sum 20 = .ok (.istore 5, 2) := by decide +kernel
theorem dX2_sum_22 : decode cX2_sum 22 = .ok (.iload_n 1, 1) := by decide +kernel
theorem dX2_sum_23 : decode cX2_sum 23 = .ok (.iload 5, 2) := by decide +kernel
theorem dX2_sum_25 : decode cX2_sum 25 = .ok (.iadd, 1) := by decide +kernel
theorem dX2_sum_26 : decode cX2_sum 26 = .ok (.istore_n 1, 1) := by decide +kernel
theorem dX2_sum_27 : decode cX2_sum 27 = .ok (.iinc 4 1, 3) := by decide +kernel
theorem dX2_sum_30 : decode cX2_sum 30 = .ok (.goto (-20), 3) := by decide +kernel
theorem dX2_sum_33 : decode cX2_sum 33 = .ok (.iload_n 1, 1) := by decide +kernel
theorem dX2_sum_34 : decode cX2_sum 34 = .ok (.ireturn, 1) := by decide +kernel
theorem dX2_takeApart_0 : decode cX2_takeApart 0 = .ok (.aload_n 0, 1) := by decide +kernel
theorem dX2_takeApart_1 : decode cX2_takeApart 1 = .ok (.getfield 23, 3) := by decide +kernel
theorem dX2_takeApart_4 : decode cX2_takeApart 4 = .ok (.invokevirtual 172, 3) := by decide +kernel
theorem dX2_takeApart_7 : decode cX2_takeApart 7 = .ok (.aload_n 0, 1) := by decide +kernel
theorem dX2_takeApart_8 : decode cX2_takeApart 8 = .ok (.getfield 26, 3) := by decide +kernel
theorem dX2_takeApart_11 : decode cX2_takeApart 11 = .ok (.aload_n 0, 1) := by decide +kernel
theorem dX2_takeApart_12 : decode cX2_takeApart 12 = .ok (.getfield 19, 3) := by decide +kernel
theorem dX2_takeApart_15 : decode cX2_takeApart 15 = .ok (.invokevirtual 73, 3) := by decide +kernel
theorem dX2_takeApart_18 : decode cX2_takeApart 18 = .ok (.aload_n 0, 1) := by decide +kernel
theorem dX2_takeApart_19 : decode cX2_takeApart 19 = .ok (.getfield 33, 3) := by decide +kernel
theorem dX2_takeApart_22 : decode cX2_takeApart 22 = .ok (.lconst 0, 1) := by decide +kernel
theorem dX2_takeApart_23 : decode cX2_takeApart 23 = .ok (.invokestatic 175, 3) := by decide +kernel
theorem dX2_takeApart_26 : decode cX2_takeApart 26 = .ok (.aload_n 0, 1) := by decide +kernel
theorem dX2_takeApart_27 : decode cX2_takeApart 27 = .ok (.getfield 37, 3) := by decide +kernel
theorem dX2_takeApart_30 : decode cX2_takeApart 30 = .ok (.lconst 1, 1) := by decide +kernel
theorem dX2_takeApart_31 : decode cX2_takeApart 31 = .ok (.invokestatic 175, 3) := by decide +kernel
theorem dX2_takeApart_34 : decode cX2_takeApart 34 = .ok (.bipush (-3), 2) := by decide +kernel
theorem dX2_takeApart_36 : decode cX2_takeApart 36 = .ok (.istore_n 1, 1) := by decide +kernel
theorem dX2_takeApart_37 : decode cX2_takeApart 37 = .ok (.iload_n 1, 1) := by decide +kernel
theorem dX2_takeApart_38 : decode cX2_takeApart 38 = .ok (.iconst 3, 1) := by decide +kernel
theorem dX2_takeApart_39 : decode cX2_takeApart 39 = .ok (.if_icmp .gt 50, 3) := by decide +kernel
theorem dX2_takeApart_42 : decode cX2_takeApart 42 = .ok (.aload_n 0, 1) := by decide +kernel
theorem dX2_takeApart_43 : decode cX2_takeApart 43 = .ok (.iload_n 1, 1) := by decide +kernel
theorem dX2_takeApart_44 : decode cX2_takeApart 44 = .ok (.invokevirtual 109, 3) := by decide +kernel
theorem dX2_takeApart_47 : decode cX2_takeApart 47 = .ok (.istore_n 2, 1) := by decide +kernel
theorem dX2_takeApart_48 : decode cX2_takeApart 48 = .ok (.iconst 0, 1) := by decide +kernel
theorem dX2_takeApart_49 : decode cX2_takeApart 49 = .ok (.istore_n 3, 1) := by decide +kernel
theorem dX2_takeApart_50 : decode cX2_takeApart 50 = .ok (.iload_n 3, 1) := by decide +kernel
theorem dX2_takeApart_51 : decode cX2_takeApart 51 = .ok (.iload_n 2, 1) := by decide +kernel
theorem dX2_takeApart_52 : decode cX2_takeApart 52 = .ok (.if_icmp .ge 26, 3) := by decide +kernel
theorem dX2_takeApart_55 : decode cX2_takeApart 55 = .ok (.aload_n 0, 1) := by decide +kernel
theorem dX2_takeApart_56 : decode cX2_takeApart 56 = .ok (.getfield 23, 3) := by decide +kernel
theorem dX2_takeApart_59 : decode cX2_takeApart 59 = .ok (.iload_n 1, 1) := by decide +kernel
theorem dX2_takeApart_60 : decode cX2_takeApart 60 = .ok (.invokevirtual 181, 3) := by decide +kernel
theorem dX2_takeApart_63 : decode cX2_takeApart 63 = .ok (.aload_n 0, 1) := by decide +kernel
theorem dX2_takeApart_64 : decode cX2_takeApart 64 = .ok (.getfield 26, 3) := by decide +kernel
theorem dX2_takeApart_67 : decode cX2_takeApart 67 = .ok (.iload_n 1, 1) := by decide +kernel
theorem dX2_takeApart_68 : decode cX2_takeApart 68 = .ok (.invokevirtual 185, 3) := by decide +kernel
theorem dX2_takeApart_71 : decode cX2_takeApart 71 = .ok (.pop2, 1) := by decide +kernel
theorem dX2_takeApart_72 : decode cX2_takeApart 72 = .ok (.iinc 3 1, 3) := by decide +kernel
theorem dX2_takeApart_75 : decode cX2_takeApart 75 = .ok (.goto (-25), 3) := by decide +kernel
theorem dX2_takeApart_78 : decode cX2_takeApart 78 = .ok (.aload_n 0, 1) := by decide +kernel
theorem dX2_takeApart_79 : decode cX2_takeApart 79 = .ok (.iload_n 1, 1) := by decide +kernel
theorem dX2_takeApart_80 : decode cX2_takeApart 80 = .ok (.invokevirtual 188, 3) := by decide +kernel
theorem dX2_takeApart_83 : decode cX2_takeApart 83 = .ok (.iinc 1 1, 3) := by decide +kernel
theorem dX2_takeApart_86 : decode cX2_takeApart 86 = .ok (.goto (-49), 3) := by decide +kernel
theorem dX2_takeApart_89 : decode cX2_takeApart 89 = .ok (.return_, 1) := by decide +kernel
theorem dX2_makePartsOf_0 : decode cX2_makePartsOf 0 = .ok (.aload_n 0, 1) := by decide +kernel
theorem dX2_makePartsOf_1 : decode cX2_makePartsOf 1 = .ok (.getfield 46, 3) := by decide +kernel
theorem dX2_makePartsOf_4 : decode cX2_makePartsOf 4 = .ok (.aload_n 0, 1) := by decide +kernel
theorem dX2_makePartsOf_5 : decode cX2_makePartsOf 5 = .ok (.getfield 19, 3) := by decide +kernel
theorem dX2_makePartsOf_8 : decode cX2_makePartsOf 8 = .ok (.invokevirtual 73, 3) := by decide +kernel
theorem dX2_makePartsOf_11 : decode cX2_makePartsOf 11 = .ok (.aload_n 0, 1) := by decide +kernel
theorem dX2_makePartsOf_12 : decode cX2_makePartsOf 12 = .ok (.iload_n 1, 1) := by decide +kernel
theorem dX2_makePartsOf_13 : decode cX2_makePartsOf 13 = .ok (.invokevirtual 191, 3) := by decide +kernel
theorem dX2_makePartsOf_16 : decode cX2_makePartsOf 16 = .ok (.aload_n 0, 1) := by decide +kernel
theorem dX2_makePartsOf_17 : decode cX2_makePartsOf 17 = .ok (.getfield 49, 3) := by decide +kernel
theorem dX2_makePartsOf_20 : decode cX2_makePartsOf 20 = .ok (.iload_n 1, 1) := by decide +kernel
theorem dX2_makePartsOf_21 : decode cX2_makePartsOf 21 = .ok (.invokevirtual 185, 3) := by decide +kernel
theorem dX2_makePartsOf_24 : decode cX2_makePartsOf 24 = .ok (.lstore_n 2, 1) := by decide +kernel
theorem dX2_makePartsOf_25 : decode cX2_makePartsOf 25 = .ok (.lconst 1, 1) := by decide +kernel
theorem dX2_makePartsOf_26 : decode cX2_makePartsOf 26 = .ok (.lstore 4, 2) := by decide +kernel
theorem dX2_makePartsOf_28 : decode cX2_makePartsOf 28 = .ok (.aload_n 0, 1) := by decide +kernel
theorem dX2_makePartsOf_29 : decode cX2_makePartsOf 29 = .ok (.iload_n 1, 1) := by decide +kernel
theorem dX2_makePartsOf_30 : decode cX2_makePartsOf 30 = .ok (.invokevirtual 109, 3) := by decide +kernel
theorem dX2_makePartsOf_33 : decode cX2_makePartsOf 33 = .ok (.istore 6, 2) := by decide +kernel
theorem dX2_makePartsOf_35 : decode cX2_makePartsOf 35 = .ok (.iload 6, 2) := by decide +kernel
theorem dX2_makePartsOf_37 : decode cX2_makePartsOf 37 = .ok (.iconst 1, 1) := by decide +kernel
theorem dX2_makePartsOf_38 : decode cX2_makePartsOf 38 = .ok (.if_icmp .lt 51, 3) := by decide +kernel
theorem dX2_makePartsOf_41 : decode cX2_makePartsOf 41 = .ok (.aload_n 0, 1) := by decide +kernel
theorem dX2_makePartsOf_42 : decode cX2_makePartsOf 42 = .ok (.getfield 46, 3) := by decide +kernel
theorem dX2_makePartsOf_45 : decode cX2_makePartsOf 45 = .ok (.iload_n 1, 1) := by decide +kernel
theorem dX2_makePartsOf_46 : decode cX2_makePartsOf 46 = .ok (.invokevirtual 185, 3) := by decide +kernel
theorem dX2_makePartsOf_49 : decode cX2_makePartsOf 49 = .ok (.lstore 7, 2) := by decide +kernel
theorem dX2_makePartsOf_51 : decode cX2_makePartsOf 51 = .ok (.lload 4, 2) := by decide +kernel
theorem dX2_makePartsOf_53 : decode cX2_makePartsOf 53 = .ok (.lload_n 2, 1) := by decide +kernel
theorem dX2_makePartsOf_54 : decode cX2_makePartsOf 54 = .ok (.lmul, 1) := by decide +kernel
theorem dX2_makePartsOf_55 : decode cX2_makePartsOf 55 = .ok (.lstore 4, 2) := by decide +kernel
theorem dX2_makePartsOf_57 : decode cX2_makePartsOf 57 = .ok (.aload_n 0, 1) := by decide +kernel
theorem dX2_makePartsOf_58 : decode cX2_makePartsOf 58 = .ok (.iload_n 1, 1) := by decide +kernel
theorem dX2_makePartsOf_59 : decode cX2_makePartsOf 59 = .ok (.iload 6, 2) := by decide +kernel
theorem dX2_makePartsOf_61 : decode cX2_makePartsOf 61 = .ok (.lload 7, 2) := by decide +kernel
theorem dX2_makePartsOf_63 : decode cX2_makePartsOf 63 = .ok (.lload 4, 2) := by decide +kernel
theorem dX2_makePartsOf_65 : decode cX2_makePartsOf 65 = .ok (.invokevirtual 194, 3) := by decide +kernel
theorem dX2_makePartsOf_68 : decode cX2_makePartsOf 68 = .ok (.aload_n 0, 1) := by decide +kernel
theorem dX2_makePartsOf_69 : decode cX2_makePartsOf 69 = .ok (.getfield 46, 3) := by decide +kernel
theorem dX2_makePartsOf_72 : decode cX2_makePartsOf 72 = .ok (.lload_n 2, 1) := by decide +kernel
theorem dX2_makePartsOf_73 : decode cX2_makePartsOf 73 = .ok (.lload 7, 2) := by decide +kernel
theorem dX2_makePartsOf_75 : decode cX2_makePartsOf 75 = .ok (.lneg, 1) := by decide +kernel
theorem dX2_makePartsOf_76 : decode cX2_makePartsOf 76 = .ok (.aload_n 0, 1) := by decide +kernel
theorem dX2_makePartsOf_77 : decode cX2_makePartsOf 77 = .ok (.getfield 49, 3) := by decide +kernel
theorem dX2_makePartsOf_80 : decode cX2_makePartsOf 80 = .ok (.invokevirtual 198, 3) := by decide +kernel
theorem dX2_makePartsOf_83 : decode cX2_makePartsOf 83 = .ok (.iinc 6 (-1), 3) := by decide +kernel
theorem dX2_makePartsOf_86 : decode cX2_makePartsOf 86 = .ok (.goto (-51), 3) := by decide +kernel
theorem dX2_makePartsOf_89 : decode cX2_makePartsOf 89 = .ok (.return_, 1) := by decide +kernel
theorem dX2_multiplyOtherFactors_0 : decode cX2_multiplyOtherFactors 0 = .ok (.aload_n 0, 1) := by decide +kernel
theorem dX2_multiplyOtherFactors_1 : decode cX2_multiplyOtherFactors 1 = .ok (.getfield 49, 3) := by decide +kernel
theorem dX2_multiplyOtherFactors_4 : decode cX2_multiplyOtherFactors 4 = .ok (.invokevirtual 172, 3) := by decide +kernel
theorem dX2_multiplyOtherFactors_7 : decode cX2_multiplyOtherFactors 7 = .ok (.bipush (-3), 2) := by decide +kernel
theorem dX2_multiplyOtherFactors_9 : decode cX2_multiplyOtherFactors 9 = .ok (.istore_n 2, 1) := by decide +kernel
theorem dX2_multiplyOtherFactors_10 : decode cX2_multiplyOtherFactors 10 = .ok (.iload_n 2, 1) := by decide +kernel
theorem dX2_multiplyOtherFactors_11 : decode cX2_multiplyOtherFactors 11 = .ok (.iconst 3, 1) := by decide +kernel
theorem dX2_multiplyOtherFactors_12 : decode cX2_multiplyOtherFactors 12 = .ok (.if_icmp .gt 47, 3) := by decide +kernel
theorem dX2_multiplyOtherFactors_15 : decode cX2_multiplyOtherFactors 15 = .ok (.iload_n 2, 1) := by decide +kernel
theorem dX2_multiplyOtherFactors_16 : decode cX2_multiplyOtherFactors 16 = .ok (.iload_n 1, 1) := by decide +kernel
theorem dX2_multiplyOtherFactors_17 : decode cX2_multiplyOtherFactors 17 = .ok (.if_icmp .ne 7, 3) := by decide +kernel
theorem dX2_multiplyOtherFactors_20 : decode cX2_multiplyOtherFactors 20 = .ok (.iconst 0, 1) := by decide +kernel
theorem dX2_multiplyOtherFactors_21 : decode cX2_multiplyOtherFactors 21 = .ok (.goto 8, 3) := by decide +kernel
theorem dX2_multiplyOtherFactors_24 : decode cX2_multiplyOtherFactors 24 = .ok (.aload_n 0, 1) := by decide +kernel
theorem dX2_multiplyOtherFactors_25 : decode cX2_multiplyOtherFactors 25 = .ok (.iload_n 2, 1) := by decide +kernel
theorem dX2_multiplyOtherFactors_26 : decode cX2_multiplyOtherFactors 26 = .ok (.invokevirtual 109, 3) := by decide +kernel
theorem dX2_multiplyOtherFactors_29 : decode cX2_multiplyOtherFactors 29 = .ok (.istore_n 3, 1) := by decide +kernel
theorem dX2_multiplyOtherFactors_30 : decode cX2_multiplyOtherFactors 30 = .ok (.iconst 0, 1) := by decide +kernel
theorem dX2_multiplyOtherFactors_31 : decode cX2_multiplyOtherFactors 31 = .ok (.istore 4, 2) := by decide +kernel
theorem dX2_multiplyOtherFactors_33 : decode cX2_multiplyOtherFactors 33 = .ok (.iload 4, 2) := by decide +kernel
theorem dX2_multiplyOtherFactors_35 : decode cX2_multiplyOtherFactors 35 = .ok (.iload_n 3, 1) := by decide +kernel
theorem dX2_multiplyOtherFactors_36 : decode cX2_multiplyOtherFactors 36 = .ok (.if_icmp .ge 17, 3) := by decide +kernel
theorem dX2_multiplyOtherFactors_39 : decode cX2_multiplyOtherFactors 39 = .ok (.aload_n 0, 1) := by decide +kernel
theorem dX2_multiplyOtherFactors_40 : decode cX2_multiplyOtherFactors 40 = .ok (.getfield 49, 3) := by decide +kernel
theorem dX2_multiplyOtherFactors_43 : decode cX2_multiplyOtherFactors 43 = .ok (.iload_n 2, 1) := by decide +kernel
theorem dX2_multiplyOtherFactors_44 : decode cX2_multiplyOtherFactors 44 = .ok (.invokevirtual 181, 3) := by decide +kernel
theorem dX2_multiplyOtherFactors_47 : decode cX2_multiplyOtherFactors 47 = .ok (.iinc 4 1, 3) := by decide +kernel
theorem dX2_multiplyOtherFactors_50 : decode cX2_multiplyOtherFactors 50 = .ok (.goto (-17), 3) := by decide +kernel
theorem dX2_multiplyOtherFactors_53 : decode cX2_multiplyOtherFactors 53 = .ok (.iinc 2 1, 3) := by decide +kernel
theorem dX2_multiplyOtherFactors_56 : decode cX2_multiplyOtherFactors 56 = .ok (.goto (-46), 3) := by decide +kernel
theorem dX2_multiplyOtherFactors_59 : decode cX2_multiplyOtherFactors 59 = .ok (.return_, 1) := by decide +kernel
theorem dX2_readPolynomial_0 : decode cX2_readPolynomial 0 = .ok (.aload_n 0, 1) := by decide +kernel
theorem dX2_readPolynomial_1 : decode cX2_readPolynomial 1 = .ok (.getfield 40, 3) := by decide +kernel
theorem dX2_readPolynomial_4 : decode cX2_readPolynomial 4 = .ok (.invokevirtual 202, 3) := by decide +kernel
theorem dX2_readPolynomial_7 : decode cX2_readPolynomial 7 = .ok (.aload_n 0, 1) := by decide +kernel
theorem dX2_readPolynomial_8 : decode cX2_readPolynomial 8 = .ok (.iconst 1, 1) := by decide +kernel
theorem dX2_readPolynomial_9 : decode cX2_readPolynomial 9 = .ok (.invokevirtual 205, 3) := by decide +kernel
theorem dX2_readPolynomial_12 : decode cX2_readPolynomial 12 = .ok (.istore_n 1, 1) := by decide +kernel
theorem dX2_readPolynomial_13 : decode cX2_readPolynomial 13 = .ok (.iconst 1, 1) := by decide +kernel
theorem dX2_readPolynomial_14 : decode cX2_readPolynomial 14 = .ok (.istore_n 2, 1) := by decide +kernel
theorem dX2_readPolynomial_15 : decode cX2_readPolynomial 15 = .ok (.iload_n 2, 1) := by decide +kernel
theorem dX2_readPolynomial_16 : decode cX2_readPolynomial 16 = .ok (.bipush 30, 2) := by decide +kernel
theorem dX2_readPolynomial_18 : decode cX2_readPolynomial 18 = .ok (.if_icmp .ge 29, 3) := by decide +kernel
theorem dX2_readPolynomial_21 : decode cX2_readPolynomial 21 = .ok (.iload_n 1, 1) := by decide +kernel
theorem dX2_readPolynomial_22 : decode cX2_readPolynomial 22 = .ok (.ifCond .eq 25, 3) := by decide +kernel
theorem dX2_readPolynomial_25 : decode cX2_readPolynomial 25 = .ok (.aload_n 0, 1) := by decide +kernel
theorem dX2_readPolynomial_26 : decode cX2_readPolynomial 26 = .ok (.getfield 12, 3) := by decide +kernel
theorem dX2_readPolynomial_29 : decode cX2_readPolynomial 29 = .ok (.invokevirtual 209, 3) := by decide +kernel
theorem dX2_readPolynomial_32 : decode cX2_readPolynomial 32 = .ok (.ifCond .ne 15, 3) := by decide +kernel
theorem dX2_readPolynomial_35 : decode cX2_readPolynomial 35 = .ok (.aload_n 0, 1) := by decide +kernel
theorem dX2_readPolynomial_36 : decode cX2_readPolynomial 36 = .ok (.iconst 0, 1) := by decide +kernel
theorem dX2_readPolynomial_37 : decode cX2_readPolynomial 37 = .ok (.invokevirtual 205, 3) := by decide +kernel
theorem dX2_readPolynomial_40 : decode cX2_readPolynomial 40 = .ok (.istore_n 1, 1) := by decide +kernel
theorem dX2_readPolynomial_41 : decode cX2_readPolynomial 41 = .ok (.iinc 2 1, 3) := by decide +kernel
theorem dX2_readPolynomial_44 : decode cX2_readPolynomial 44 = .ok (.goto (-29), 3) := by decide +kernel
theorem dX2_readPolynomial_47 : decode cX2_readPolynomial 47 = .ok (.iload_n 1, 1) := by decide +kernel
theorem dX2_readPolynomial_48 : decode cX2_readPolynomial 48 = .ok (.ifCond .eq 17, 3) := by decide +kernel
theorem dX2_readPolynomial_51 : decode cX2_readPolynomial 51 = .ok (.aload_n 0, 1) := by decide +kernel
theorem dX2_readPolynomial_52 : decode cX2_readPolynomial 52 = .ok (.getfield 12, 3) := by decide +kernel
theorem dX2_readPolynomial_55 : decode cX2_readPolynomial 55 = .ok (.invokevirtual 209, 3) := by decide +kernel
theorem dX2_readPolynomial_58 : decode cX2_readPolynomial 58 = .ok (.ifCond .eq 7, 3) := by decide +kernel
theorem dX2_readPolynomial_61 : decode cX2_readPolynomial 61 = .ok (.iconst 1, 1) := by decide +kernel
theorem dX2_readPolynomial_62 : decode cX2_readPolynomial 62 = .ok (.goto 4, 3) := by decide +kernel
theorem dX2_readPolynomial_65 : decode cX2_readPolynomial 65 = .ok (.iconst 0, 1) := by decide +kernel
theorem dX2_readPolynomial_66 : decode cX2_readPolynomial 66 = .ok (.ireturn, 1) := by decide +kernel
theorem dX2_readTerm_0 : decode cX2_readTerm 0 = .ok (.aload_n 0, 1) := by decide +kernel
theorem dX2_readTerm_1 : decode cX2_readTerm 1 = .ok (.getfield 12, 3) := by decide +kernel
theorem dX2_readTerm_4 : decode cX2_readTerm 4 = .ok (.bipush 45, 2) := by decide +kernel
theorem dX2_readTerm_6 : decode cX2_readTerm 6 = .ok (.invokevirtual 212, 3) := by decide +kernel
theorem dX2_readTerm_9 : decode cX2_readTerm 9 = .ok (.istore_n 2, 1) := by decide +kernel
theorem dX2_readTerm_10 : decode cX2_readTerm 10 = .ok (.iload_n 2, 1) := by decide +kernel
theorem dX2_readTerm_11 : decode cX2_readTerm 11 = .ok (.ifCond .ne 21, 3) := by decide +kernel
theorem dX2_readTerm_14 : decode cX2_readTerm 14 = .ok (.aload_n 0, 1) := by decide +kernel
theorem dX2_readTerm_15 : decode cX2_readTerm 15 = .ok (.getfield 12, 3) := by decide +kernel
theorem dX2_readTerm_18 : decode cX2_readTerm 18 = .ok (.bipush 43, 2) := by decide +kernel
theorem dX2_readTerm_20 : decode cX2_readTerm 20 = .ok (.invokevirtual 212, 3) := by decide +kernel
theorem dX2_readTerm_23 : decode cX2_readTerm 23 = .ok (.ifCond .ne 9, 3) := by decide +kernel
theorem dX2_readTerm_26 : decode cX2_readTerm 26 = .ok (.iload_n 1, 1) := by decide +kernel
theorem dX2_readTerm_27 : decode cX2_readTerm 27 = .ok (.ifCond .ne 5, 3) := by decide +kernel
theorem dX2_readTerm_30 : decode cX2_readTerm 30 = .ok (.iconst 0, 1) := by decide +kernel
theorem dX2_readTerm_31 : decode cX2_readTerm 31 = .ok (.ireturn, 1) := by decide +kernel
theorem dX2_readTerm_32 : decode cX2_readTerm 32 = .ok (.aload_n 0, 1) := by decide +kernel
theorem dX2_readTerm_33 : decode cX2_readTerm 33 = .ok (.invokevirtual 215, 3) := by decide +kernel
theorem dX2_readTerm_36 : decode cX2_readTerm 36 = .ok (.istore_n 3, 1) := by decide +kernel
theorem dX2_readTerm_37 : decode cX2_readTerm 37 = .ok (.aload_n 0, 1) := by decide +kernel
theorem dX2_readTerm_38 : decode cX2_readTerm 38 = .ok (.getfield 12, 3) := by decide +kernel
theorem dX2_readTerm_41 : decode cX2_readTerm 41 = .ok (.bipush 120, 2) := by decide +kernel
theorem dX2_readTerm_43 : decode cX2_readTerm 43 = .ok (.invokevirtual 212, 3) := by decide +kernel
theorem dX2_readTerm_46 : decode cX2_readTerm 46 = .ok (.istore 4, 2) := by decide +kernel
theorem dX2_readTerm_48 : decode cX2_readTerm 48 = .ok (.iload 4, 2) := by decide +kernel
theorem dX2_readTerm_50 : decode cX2_readTerm 50 = .ok (.ifCond .eq 10, 3) := by decide +kernel
theorem dX2_readTerm_53 : decode cX2_readTerm 53 = .ok (.aload_n 0, 1) := by decide +kernel
theorem dX2_readTerm_54 : decode cX2_readTerm 54 = .ok (.invokevirtual 218, 3) := by decide +kernel
theorem dX2_readTerm_57 : decode cX2_readTerm 57 = .ok (.goto 4, 3) := by decide +kernel
theorem dX2_readTerm_60 : decode cX2_readTerm 60 = .ok (.iconst 0, 1) := by decide +kernel
theorem dX2_readTerm_61 : decode cX2_readTerm 61 = .ok (.istore 5, 2) := by decide +kernel
theorem dX2_readTerm_63 : decode cX2_readTerm 63 = .ok (.iload_n 3, 1) := by decide +kernel
theorem dX2_readTerm_64 : decode cX2_readTerm 64 = .ok (.ifCond .ge 8, 3) := by decide +kernel
theorem dX2_readTerm_67 : decode cX2_readTerm 67 = .ok (.iload 4, 2) := by decide +kernel
theorem dX2_readTerm_69 : decode cX2_readTerm 69 = .ok (.ifCond .eq 8, 3) := by decide +kernel
theorem dX2_readTerm_72 : decode cX2_readTerm 72 = .ok (.iload 5, 2) := by decide +kernel
theorem dX2_readTerm_74 : decode cX2_readTerm 74 = .ok (.ifCond .ge 5, 3) := by decide +kernel
theorem dX2_readTerm_77 : decode cX2_readTerm 77 = .ok (.iconst 0, 1) := by decide +kernel
theorem dX2_readTerm_78 : decode cX2_readTerm 78 = .ok (.ireturn, 1) := by decide +kernel
theorem dX2_readTerm_79 : decode cX2_readTerm 79 = .ok (.iload_n 3, 1) := by decide +kernel
theorem dX2_readTerm_80 : decode cX2_readTerm 80 = .ok (.ifCond .ge 7, 3) := by decide +kernel
theorem dX2_readTerm_83 : decode cX2_readTerm 83 = .ok (.iconst 1, 1) := by decide +kernel
theorem dX2_readTerm_84 : decode cX2_readTerm 84 = .ok (.goto 4, 3) := by decide +kernel
theorem dX2_readTerm_87 : decode cX2_readTerm 87 = .ok (.iload_n 3, 1) := by decide +kernel
theorem dX2_readTerm_88 : decode cX2_readTerm 88 = .ok (.istore 6, 2) := by decide +kernel
theorem dX2_readTerm_90 : decode cX2_readTerm 90 = .ok (.aload_n 0, 1) := by decide +kernel
theorem dX2_readTerm_91 : decode cX2_readTerm 91 = .ok (.getfield 40, 3) := by decide +kernel
theorem dX2_readTerm_94 : decode cX2_readTerm 94 = .ok (.iload_n 2, 1) := by decide +kernel
theorem dX2_readTerm_95 : decode cX2_readTerm 95 = .ok (.ifCond .eq 10, 3) := by decide +kernel
theorem dX2_readTerm_98 : decode cX2_readTerm 98 = .ok (.iload 6, 2) := by decide +kernel
theorem dX2_readTerm_100 : decode cX2_readTerm 100 = .ok (.ineg, 1) := by decide +kernel
theorem dX2_readTerm_101 : decode cX2_readTerm 101 = .ok (.i2l, 1) := by decide +kernel
theorem dX2_readTerm_102 : decode cX2_readTerm 102 = .ok (.goto 6, 3) := by decide +kernel
theorem dX2_readTerm_105 : decode cX2_readTerm 105 = .ok (.iload 6, 2) := by decide +kernel
theorem dX2_readTerm_107 : decode cX2_readTerm 107 = .ok (.i2l, 1) := by decide +kernel
theorem dX2_readTerm_108 : decode cX2_readTerm 108 = .ok (.iload 5, 2) := by decide +kernel
theorem dX2_readTerm_110 : decode cX2_readTerm 110 = .ok (.invokevirtual 221, 3) := by decide +kernel
theorem dX2_readTerm_113 : decode cX2_readTerm 113 = .ok (.iconst 1, 1) := by decide +kernel
theorem dX2_readTerm_114 : decode cX2_readTerm 114 = .ok (.ireturn, 1) := by decide +kernel
theorem dX2_readNumber_0 : decode cX2_readNumber 0 = .ok (.aload_n 0, 1) := by decide +kernel
theorem dX2_readNumber_1 : decode cX2_readNumber 1 = .ok (.getfield 12, 3) := by decide +kernel
theorem dX2_readNumber_4 : decode cX2_readNumber 4 = .ok (.iconst 0, 1) := by decide +kernel
theorem dX2_readNumber_5 : decode cX2_readNumber 5 = .ok (.bipush 9, 2) := by decide +kernel
theorem dX2_readNumber_7 : decode cX2_readNumber 7 = .ok (.invokevirtual 225, 3) := by decide +kernel
theorem dX2_readNumber_10 : decode cX2_readNumber 10 = .ok (.istore_n 1, 1) := by decide +kernel
theorem dX2_readNumber_11 : decode cX2_readNumber 11 = .ok (.iload_n 1, 1) := by decide +kernel
theorem dX2_readNumber_12 : decode cX2_readNumber 12 = .ok (.ifCond .ge 7, 3) := by decide +kernel
theorem dX2_readNumber_15 : decode cX2_readNumber 15 = .ok (.iconst (-1), 1) := by decide +kernel
theorem dX2_readNumber_16 : decode cX2_readNumber 16 = .ok (.goto 13, 3) := by decide +kernel
theorem dX2_readNumber_19 : decode cX2_readNumber 19 = .ok (.aload_n 0, 1) := by decide +kernel
theorem dX2_readNumber_20 : decode cX2_readNumber 20 = .ok (.getfield 12, 3) := by decide +kernel
theorem dX2_readNumber_23 : decode cX2_readNumber 23 = .ok (.iconst 0, 1) := by decide +kernel
theorem dX2_readNumber_24 : decode cX2_readNumber 24 = .ok (.bipush 9, 2) := by decide +kernel
theorem dX2_readNumber_26 : decode cX2_readNumber 26 = .ok (.invokevirtual 225, 3) := by decide +kernel
theorem dX2_readNumber_29 : decode cX2_readNumber 29 = .ok (.istore_n 2, 1) := by decide +kernel
theorem dX2_readNumber_30 : decode cX2_readNumber 30 = .ok (.iload_n 2, 1) := by decide +kernel
theorem dX2_readNumber_31 : decode cX2_readNumber 31 = .ok (.ifCond .ge 7, 3) := by decide +kernel
theorem dX2_readNumber_34 : decode cX2_readNumber 34 = .ok (.iload_n 1, 1) := by decide +kernel
theorem dX2_readNumber_35 : decode cX2_readNumber 35 = .ok (.goto 9, 3) := by decide +kernel
theorem dX2_readNumber_38 : decode cX2_readNumber 38 = .ok (.bipush 10, 2) := by decide +kernel
theorem dX2_readNumber_40 : decode cX2_readNumber 40 = .ok (.iload_n 1, 1) := by decide +kernel
theorem dX2_readNumber_41 : decode cX2_readNumber 41 = .ok (.imul, 1) := by decide +kernel
theorem dX2_readNumber_42 : decode cX2_readNumber 42 = .ok (.iload_n 2, 1) := by decide +kernel
theorem dX2_readNumber_43 : decode cX2_readNumber 43 = .ok (.iadd, 1) := by decide +kernel
theorem dX2_readNumber_44 : decode cX2_readNumber 44 = .ok (.ireturn, 1) := by decide +kernel
theorem dX2_readPowerOfX_0 : decode cX2_readPowerOfX 0 = .ok (.aload_n 0, 1) := by decide +kernel
theorem dX2_readPowerOfX_1 : decode cX2_readPowerOfX 1 = .ok (.getfield 12, 3) := by decide +kernel
theorem dX2_readPowerOfX_4 : decode cX2_readPowerOfX 4 = .ok (.bipush 94, 2) := by decide +kernel
theorem dX2_readPowerOfX_6 : decode cX2_readPowerOfX 6 = .ok (.invokevirtual 212, 3) := by decide +kernel
theorem dX2_readPowerOfX_9 : decode cX2_readPowerOfX 9 = .ok (.ifCond .eq 16, 3) := by decide +kernel
theorem dX2_readPowerOfX_12 : decode cX2_readPowerOfX 12 = .ok (.aload_n 0, 1) := by decide +kernel
theorem dX2_readPowerOfX_13 : decode cX2_readPowerOfX 13 = .ok (.getfield 12, 3) := by decide +kernel
theorem dX2_readPowerOfX_16 : decode cX2_readPowerOfX 16 = .ok (.iconst 0, 1) := by decide +kernel
theorem dX2_readPowerOfX_17 : decode cX2_readPowerOfX 17 = .ok (.bipush 6, 2) := by decide +kernel
theorem dX2_readPowerOfX_19 : decode cX2_readPowerOfX 19 = .ok (.invokevirtual 225, 3) := by decide +kernel
theorem dX2_readPowerOfX_22 : decode cX2_readPowerOfX 22 = .ok (.goto 4, 3) := by decide +kernel
theorem dX2_readPowerOfX_25 : decode cX2_readPowerOfX 25 = .ok (.iconst 1, 1) := by decide +kernel
theorem dX2_readPowerOfX_26 : decode cX2_readPowerOfX 26 = .ok (.ireturn, 1) := by decide +kernel
theorem dX2_readProduct_0 : decode cX2_readProduct 0 = .ok (.aload_n 0, 1) := by decide +kernel
theorem dX2_readProduct_1 : decode cX2_readProduct 1 = .ok (.getfield 43, 3) := by decide +kernel
theorem dX2_readProduct_4 : decode cX2_readProduct 4 = .ok (.iconst 0, 1) := by decide +kernel
theorem dX2_readProduct_5 : decode cX2_readProduct 5 = .ok (.invokestatic 228, 3) := by decide +kernel
theorem dX2_readProduct_8 : decode cX2_readProduct 8 = .ok (.aload_n 0, 1) := by decide +kernel
theorem dX2_readProduct_9 : decode cX2_readProduct 9 = .ok (.invokevirtual 231, 3) := by decide +kernel
theorem dX2_readProduct_12 : decode cX2_readProduct 12 = .ok (.istore_n 1, 1) := by decide +kernel
theorem dX2_readProduct_13 : decode cX2_readProduct 13 = .ok (.iconst 1, 1) := by decide +kernel
theorem dX2_readProduct_14 : decode cX2_readProduct 14 = .ok (.istore_n 2, 1) := by decide +kernel
theorem dX2_readProduct_15 : decode cX2_readProduct 15 = .ok (.iload_n 2, 1) := by decide +kernel
theorem dX2_readProduct_16 : decode cX2_readProduct 16 = .ok (.bipush 30, 2) := by decide +kernel
theorem dX2_readProduct_18 : decode cX2_readProduct 18 = .ok (.if_icmp .ge 28, 3) := by decide +kernel
theorem dX2_readProduct_21 : decode cX2_readProduct 21 = .ok (.iload_n 1, 1) := by decide +kernel
theorem dX2_readProduct_22 : decode cX2_readProduct 22 = .ok (.ifCond .eq 24, 3) := by decide +kernel
theorem dX2_readProduct_25 : decode cX2_readProduct 25 = .ok (.aload_n 0, 1) := by decide +kernel
theorem dX2_readProduct_26 : decode cX2_readProduct 26 = .ok (.getfield 12, 3) := by decide +kernel
theorem dX2_readProduct_29 : decode cX2_readProduct 29 = .ok (.invokevirtual 209, 3) := by decide +kernel
theorem dX2_readProduct_32 : decode cX2_readProduct 32 = .ok (.ifCond .ne 14, 3) := by decide +kernel
theorem dX2_readProduct_35 : decode cX2_readProduct 35 = .ok (.aload_n 0, 1) := by decide +kernel
theorem dX2_readProduct_36 : decode cX2_readProduct 36 = .ok (.invokevirtual 231, 3) := by decide +kernel
theorem dX2_readProduct_39 : decode cX2_readProduct 39 = .ok (.istore_n 1, 1) := by decide +kernel
theorem dX2_readProduct_40 : decode cX2_readProduct 40 = .ok (.iinc 2 1, 3) := by decide +kernel
theorem dX2_readProduct_43 : decode cX2_readProduct 43 = .ok (.goto (-28), 3) := by decide +kernel
theorem dX2_readProduct_46 : decode cX2_readProduct 46 = .ok (.iload_n 1, 1) := by decide +kernel
theorem dX2_readProduct_47 : decode cX2_readProduct 47 = .ok (.ifCond .eq 17, 3) := by decide +kernel
theorem dX2_readProduct_50 : decode cX2_readProduct 50 = .ok (.aload_n 0, 1) := by decide +kernel
theorem dX2_readProduct_51 : decode cX2_readProduct 51 = .ok (.getfield 12, 3) := by decide +kernel
theorem dX2_readProduct_54 : decode cX2_readProduct 54 = .ok (.invokevirtual 209, 3) := by decide +kernel
theorem dX2_readProduct_57 : decode cX2_readProduct 57 = .ok (.ifCond .eq 7, 3) := by decide +kernel
theorem dX2_readProduct_60 : decode cX2_readProduct 60 = .ok (.iconst 1, 1) := by decide +kernel
theorem dX2_readProduct_61 : decode cX2_readProduct 61 = .ok (.goto 4, 3) := by decide +kernel
theorem dX2_readProduct_64 : decode cX2_readProduct 64 = .ok (.iconst 0, 1) := by decide +kernel
theorem dX2_readProduct_65 : decode cX2_readProduct 65 = .ok (.ireturn, 1) := by decide +kernel
theorem dX2_readFactor_0 : decode cX2_readFactor 0 = .ok (.aload_n 0, 1) := by decide +kernel
theorem dX2_readFactor_1 : decode cX2_readFactor 1 = .ok (.getfield 12, 3) := by decide +kernel
theorem dX2_readFactor_4 : decode cX2_readFactor 4 = .ok (.bipush 40, 2) := by decide +kernel
theorem dX2_readFactor_6 : decode cX2_readFactor 6 = .ok (.invokevirtual 212, 3) := by decide +kernel
theorem dX2_readFactor_9 : decode cX2_readFactor 9 = .ok (.ifCond .eq 15, 3) := by decide +kernel
theorem dX2_readFactor_12 : decode cX2_readFactor 12 = .ok (.aload_n 0, 1) := by decide +kernel
theorem dX2_readFactor_13 : decode cX2_readFactor 13 = .ok (.getfield 12, 3) := by decide +kernel
theorem dX2_readFactor_16 : decode cX2_readFactor 16 = .ok (.bipush 120, 2) := by decide +kernel
theorem dX2_readFactor_18 : decode cX2_readFactor 18 = .ok (.invokevirtual 212, 3) := by decide +kernel
theorem dX2_readFactor_21 : decode cX2_readFactor 21 = .ok (.ifCond .ne 5, 3) := by decide +kernel
theorem dX2_readFactor_24 : decode cX2_readFactor 24 = .ok (.iconst 0, 1) := by decide +kernel
theorem dX2_readFactor_25 : decode cX2_readFactor 25 = .ok (.ireturn, 1) := by decide +kernel
theorem dX2_readFactor_26 : decode cX2_readFactor 26 = .ok (.aload_n 0, 1) := by decide +kernel
theorem dX2_readFactor_27 : decode cX2_readFactor 27 = .ok (.invokevirtual 234, 3) := by decide +kernel
theorem dX2_readFactor_30 : decode cX2_readFactor 30 = .ok (.istore_n 1, 1) := by decide +kernel
theorem dX2_readFactor_31 : decode cX2_readFactor 31 = .ok (.iload_n 1, 1) := by decide +kernel
theorem dX2_readFactor_32 : decode cX2_readFactor 32 = .ok (.invokestatic 105, 3) := by decide +kernel
theorem dX2_readFactor_35 : decode cX2_readFactor 35 = .ok (.ifCond .eq 15, 3) := by decide +kernel
theorem dX2_readFactor_38 : decode cX2_readFactor 38 = .ok (.aload_n 0, 1) := by decide +kernel
theorem dX2_readFactor_39 : decode cX2_readFactor 39 = .ok (.getfield 12, 3) := by decide +kernel
theorem dX2_readFactor_42 : decode cX2_readFactor 42 = .ok (.bipush 41, 2) := by decide +kernel
theorem dX2_readFactor_44 : decode cX2_readFactor 44 = .ok (.invokevirtual 212, 3) := by decide +kernel
theorem dX2_readFactor_47 : decode cX2_readFactor 47 = .ok (.ifCond .ne 5, 3) := by decide +kernel
theorem dX2_readFactor_50 : decode cX2_readFactor 50 = .ok (.iconst 0, 1) := by decide +kernel
theorem dX2_readFactor_51 : decode cX2_readFactor 51 = .ok (.ireturn, 1) := by decide +kernel
theorem dX2_readFactor_52 : decode cX2_readFactor 52 = .ok (.aload_n 0, 1) := by decide +kernel
theorem dX2_readFactor_53 : decode cX2_readFactor 53 = .ok (.getfield 12, 3) := by decide +kernel
theorem dX2_readFactor_56 : decode cX2_readFactor 56 = .ok (.bipush 94, 2) := by decide +kernel
theorem dX2_readFactor_58 : decode cX2_readFactor 58 = .ok (.invokevirtual 212, 3) := by decide +kernel
theorem dX2_readFactor_61 : decode cX2_readFactor 61 = .ok (.ifCond .eq 15, 3) := by decide +kernel
theorem dX2_readFactor_64 : decode cX2_readFactor 64 = .ok (.aload_n 0, 1) := by decide +kernel
theorem dX2_readFactor_65 : decode cX2_readFactor 65 = .ok (.getfield 12, 3) := by decide +kernel
theorem dX2_readFactor_68 : decode cX2_readFactor 68 = .ok (.iconst 1, 1) := by decide +kernel
theorem dX2_readFactor_69 : decode cX2_readFactor 69 = .ok (.iconst 3, 1) := by decide +kernel
theorem dX2_readFactor_70 : decode cX2_readFactor 70 = .ok (.invokevirtual 225, 3) := by decide +kernel
theorem dX2_readFactor_73 : decode cX2_readFactor 73 = .ok (.goto 4, 3) := by decide +kernel
theorem dX2_readFactor_76 : decode cX2_readFactor 76 = .ok (.iconst 1, 1) := by decide +kernel
theorem dX2_readFactor_77 : decode cX2_readFactor 77 = .ok (.istore_n 2, 1) := by decide +kernel
theorem dX2_readFactor_78 : decode cX2_readFactor 78 = .ok (.iload_n 2, 1) := by decide +kernel
theorem dX2_readFactor_79 : decode cX2_readFactor 79 = .ok (.ifCond .ge 5, 3) := by decide +kernel
theorem dX2_readFactor_82 : decode cX2_readFactor 82 = .ok (.iconst 0, 1) := by decide +kernel
theorem dX2_readFactor_83 : decode cX2_readFactor 83 = .ok (.ireturn, 1) := by decide +kernel
theorem dX2_readFactor_84 : decode cX2_readFactor 84 = .ok (.aload_n 0, 1) := by decide +kernel
theorem dX2_readFactor_85 : decode cX2_readFactor 85 = .ok (.getfield 43, 3) := by decide +kernel
theorem dX2_readFactor_88 : decode cX2_readFactor 88 = .ok (.iload_n 1, 1) := by decide +kernel
theorem dX2_readFactor_89 : decode cX2_readFactor 89 = .ok (.bipush (-3), 2) := by decide +kernel
theorem dX2_readFactor_91 : decode cX2_readFactor 91 = .ok (.isub, 1) := by decide +kernel
theorem dX2_readFactor_92 : decode cX2_readFactor 92 = .ok (.dup2, 1) := by decide +kernel
theorem dX2_readFactor_93 : decode cX2_readFactor 93 = .ok (.iaload, 1) := by decide +kernel
theorem dX2_readFactor_94 : decode cX2_readFactor 94 = .ok (.iload_n 2, 1) := by decide +kernel
theorem dX2_readFactor_95 : decode cX2_readFactor 95 = .ok (.iadd, 1) := by decide +kernel
theorem dX2_readFactor_96 : decode cX2_readFactor 96 = .ok (.iastore, 1) := by decide +kernel
theorem dX2_readFactor_97 : decode cX2_readFactor 97 = .ok (.iconst 1, 1) := by decide +kernel
theorem dX2_readFactor_98 : decode cX2_readFactor 98 = .ok (.ireturn, 1) := by decide +kernel
theorem dX2_readRoot_0 : decode cX2_readRoot 0 = .ok (.aload_n 0, 1) := by decide +kernel
theorem dX2_readRoot_1 : decode cX2_readRoot 1 = .ok (.getfield 12, 3) := by decide +kernel
theorem dX2_readRoot_4 : decode cX2_readRoot 4 = .ok (.bipush 45, 2) := by decide +kernel
theorem dX2_readRoot_6 : decode cX2_readRoot 6 = .ok (.invokevirtual 212, 3) := by decide +kernel
theorem dX2_readRoot_9 : decode cX2_readRoot 9 = .ok (.istore_n 1, 1) := by decide +kernel
theorem dX2_readRoot_10 : decode cX2_readRoot 10 = .ok (.iload_n 1, 1) := by decide +kernel
theorem dX2_readRoot_11 : decode cX2_readRoot 11 = .ok (.ifCond .ne 17, 3) := by decide +kernel
theorem dX2_readRoot_14 : decode cX2_readRoot 14 = .ok (.aload_n 0, 1) := by decide +kernel
theorem dX2_readRoot_15 : decode cX2_readRoot 15 = .ok (.getfield 12, 3) := by decide +kernel
theorem dX2_readRoot_18 : decode cX2_readRoot 18 = .ok (.bipush 43, 2) := by decide +kernel
theorem dX2_readRoot_20 : decode cX2_readRoot 20 = .ok (.invokevirtual 212, 3) := by decide +kernel
theorem dX2_readRoot_23 : decode cX2_readRoot 23 = .ok (.ifCond .ne 5, 3) := by decide +kernel
theorem dX2_readRoot_26 : decode cX2_readRoot 26 = .ok (.iconst 0, 1) := by decide +kernel
theorem dX2_readRoot_27 : decode cX2_readRoot 27 = .ok (.ireturn, 1) := by decide +kernel
theorem dX2_readRoot_28 : decode cX2_readRoot 28 = .ok (.aload_n 0, 1) := by decide +kernel
theorem dX2_readRoot_29 : decode cX2_readRoot 29 = .ok (.getfield 12, 3) := by decide +kernel
theorem dX2_readRoot_32 : decode cX2_readRoot 32 = .ok (.iconst 1, 1) := by decide +kernel
theorem dX2_readRoot_33 : decode cX2_readRoot 33 = .ok (.iconst 3, 1) := by decide +kernel
theorem dX2_readRoot_34 : decode cX2_readRoot 34 = .ok (.invokevirtual 225, 3) := by decide +kernel
theorem dX2_readRoot_37 : decode cX2_readRoot 37 = .ok (.istore_n 2, 1) := by decide +kernel
theorem dX2_readRoot_38 : decode cX2_readRoot 38 = .ok (.iload_n 2, 1) := by decide +kernel
theorem dX2_readRoot_39 : decode cX2_readRoot 39 = .ok (.ifCond .ge 5, 3) := by decide +kernel
theorem dX2_readRoot_42 : decode cX2_readRoot 42 = .ok (.iconst 4, 1) := by decide +kernel
theorem dX2_readRoot_43 : decode cX2_readRoot 43 = .ok (.ireturn, 1) := by decide +kernel
theorem dX2_readRoot_44 : decode cX2_readRoot 44 = .ok (.iload_n 1, 1) := by decide +kernel
theorem dX2_readRoot_45 : decode cX2_readRoot 45 = .ok (.ifCond .eq 7, 3) := by decide +kernel
theorem dX2_readRoot_48 : decode cX2_readRoot 48 = .ok (.iload_n 2, 1) := by decide +kernel
theorem dX2_readRoot_49 : decode cX2_readRoot 49 = .ok (.goto 5, 3) := by decide +kernel
theorem dX2_readRoot_52 : decode cX2_readRoot 52 = .ok (.iload_n 2, 1) := by decide +kernel
theorem dX2_readRoot_53 : decode cX2_readRoot 53 = .ok (.ineg, 1) := by decide +kernel
theorem dX2_readRoot_54 : decode cX2_readRoot 54 = .ok (.ireturn, 1) := by decide +kernel
theorem dJ9_abs_067f4_0 : decode cJ9_abs_067f4 0 = .ok (.lload_n 0, 1) := by decide +kernel
theorem dJ9_abs_067f4_1 : decode cJ9_abs_067f4 1 = .ok (.lconst 0, 1) := by decide +kernel
theorem dJ9_abs_067f4_2 : decode cJ9_abs_067f4 2 = .ok (.lcmp, 1) := by decide +kernel
theorem dJ9_abs_067f4_3 : decode cJ9_abs_067f4 3 = .ok (.ifCond .ge 8, 3) := by decide +kernel
theorem dJ9_abs_067f4_6 : decode cJ9_abs_067f4 6 = .ok (.lload_n 0, 1) := by decide +kernel
theorem dJ9_abs_067f4_7 : decode cJ9_abs_067f4 7 = .ok (.lneg, 1) := by decide +kernel
theorem dJ9_abs_067f4_8 : decode cJ9_abs_067f4 8 = .ok (.goto 4, 3) := by decide +kernel
theorem dJ9_abs_067f4_11 : decode cJ9_abs_067f4 11 = .ok (.lload_n 0, 1) := by decide +kernel
theorem dJ9_abs_067f4_12 : decode cJ9_abs_067f4 12 = .ok (.lreturn, 1) := by decide +kernel
theorem dJ7_fill_d0a16_0 : decode cJ7_fill_d0a16 0 = .ok (.iconst 0, 1) := by decide +kernel
theorem dJ7_fill_d0a16_1 : decode cJ7_fill_d0a16 1 = .ok (.istore_n 3, 1) := by decide +kernel
theorem dJ7_fill_d0a16_2 : decode cJ7_fill_d0a16 2 = .ok (.aload_n 0, 1) := by decide +kernel
theorem dJ7_fill_d0a16_3 : decode cJ7_fill_d0a16 3 = .ok (.arraylength, 1) := by decide +kernel
theorem dJ7_fill_d0a16_4 : decode cJ7_fill_d0a16 4 = .ok (.istore 4, 2) := by decide +kernel
theorem dJ7_fill_d0a16_6 : decode cJ7_fill_d0a16 6 = .ok (.iload_n 3, 1) := by decide +kernel
theorem dJ7_fill_d0a16_7 : decode cJ7_fill_d0a16 7 = .ok (.iload 4, 2) := by decide +kernel
theorem dJ7_fill_d0a16_9 : decode cJ7_fill_d0a16 9 = .ok (.if_icmp .ge 13, 3) := by decide +kernel
theorem dJ7_fill_d0a16_12 : decode cJ7_fill_d0a16 12 = .ok (.aload_n 0, 1) := by decide +kernel
theorem dJ7_fill_d0a16_13 : decode cJ7_fill_d0a16 13 = .ok (.iload_n 3, 1) := by decide +kernel
theorem dJ7_fill_d0a16_14 : decode cJ7_fill_d0a16 14 = .ok (.lload_n 1, 1) := by decide +kernel
theorem dJ7_fill_d0a16_15 : decode cJ7_fill_d0a16 15 = .ok (.lastore, 1) := by decide +kernel
theorem dJ7_fill_d0a16_16 : decode cJ7_fill_d0a16 16 = .ok (.iinc 3 1, 3) := by decide +kernel
theorem dJ7_fill_d0a16_19 : decode cJ7_fill_d0a16 19 = .ok (.goto (-13), 3) := by decide +kernel
theorem dJ7_fill_d0a16_22 : decode cJ7_fill_d0a16 22 = .ok (.return_, 1) := by decide +kernel
theorem dJ7_fill_53178_0 : decode cJ7_fill_53178 0 = .ok (.iconst 0, 1) := by decide +kernel
theorem dJ7_fill_53178_1 : decode cJ7_fill_53178 1 = .ok (.istore_n 2, 1) := by decide +kernel
theorem dJ7_fill_53178_2 : decode cJ7_fill_53178 2 = .ok (.aload_n 0, 1) := by decide +kernel
theorem dJ7_fill_53178_3 : decode cJ7_fill_53178 3 = .ok (.arraylength, 1) := by decide +kernel
theorem dJ7_fill_53178_4 : decode cJ7_fill_53178 4 = .ok (.istore_n 3, 1) := by decide +kernel
theorem dJ7_fill_53178_5 : decode cJ7_fill_53178 5 = .ok (.iload_n 2, 1) := by decide +kernel
theorem dJ7_fill_53178_6 : decode cJ7_fill_53178 6 = .ok (.iload_n 3, 1) := by decide +kernel
theorem dJ7_fill_53178_7 : decode cJ7_fill_53178 7 = .ok (.if_icmp .ge 13, 3) := by decide +kernel
theorem dJ7_fill_53178_10 : decode cJ7_fill_53178 10 = .ok (.aload_n 0, 1) := by decide +kernel
theorem dJ7_fill_53178_11 : decode cJ7_fill_53178 11 = .ok (.iload_n 2, 1) := by decide +kernel
theorem dJ7_fill_53178_12 : decode cJ7_fill_53178 12 = .ok (.iload_n 1, 1) := by decide +kernel
theorem dJ7_fill_53178_13 : decode cJ7_fill_53178 13 = .ok (.iastore, 1) := by decide +kernel
theorem dJ7_fill_53178_14 : decode cJ7_fill_53178 14 = .ok (.iinc 2 1, 3) := by decide +kernel
theorem dJ7_fill_53178_17 : decode cJ7_fill_53178 17 = .ok (.goto (-12), 3) := by decide +kernel
theorem dJ7_fill_53178_20 : decode cJ7_fill_53178 20 = .ok (.return_, 1) := by decide +kernel
end
section
theorem dX3_init_0 : decode cX3_init 0 = .ok (.aload_n 0, 1) := by decide +kernel
theorem dX3_init_1 : decode cX3_init 1 = .ok (.invokespecial 1, 3) := by decide +kernel
theorem dX3_init_4 : decode cX3_init 4 = .ok (.aload_n 0, 1) := by decide +kernel
theorem dX3_init_5 : decode cX3_init 5 = .ok (.bipush 30, 2) := by decide +kernel
theorem dX3_init_7 : decode cX3_init 7 = .ok (.newarray .char, 2) := by decide +kernel
theorem dX3_init_9 : decode cX3_init 9 = .ok (.putfield 7, 3) := by decide +kernel
theorem dX3_init_12 : decode cX3_init 12 = .ok (.aload_n 0, 1) := by decide +kernel
theorem dX3_init_13 : decode cX3_init 13 = .ok (.bipush 7, 2) := by decide +kernel
theorem dX3_init_15 : decode cX3_init 15 = .ok (.newarray .long, 2) := by decide +kernel
theorem dX3_init_17 : decode cX3_init 17 = .ok (.putfield 13, 3) := by decide +kernel
theorem dX3_init_20 : decode cX3_init 20 = .ok (.aload_n 0, 1) := by decide +kernel
theorem dX3_init_21 : decode cX3_init 21 = .ok (.bipush 6, 2) := by decide +kernel
theorem dX3_init_23 : decode cX3_init 23 = .ok (.newarray .long, 2) := by decide +kernel
theorem dX3_init_25 : decode cX3_init 25 = .ok (.dup, 1) := by decide +kernel
theorem dX3_init_26 : decode cX3_init 26 = .ok (.iconst 0, 1) := by decide +kernel
theorem dX3_init_27 : decode cX3_init 27 = .ok (.lconst 0, 1) := by decide +kernel
theorem dX3_init_28 : decode cX3_init 28 = .ok (.lastore, 1) := by decide +kernel
theorem dX3_init_29 : decode cX3_init 29 = .ok (.dup, 1) := by decide +kernel
theorem dX3_init_30 : decode cX3_init 30 = .ok (.iconst 1, 1) := by decide +kernel
theorem dX3_init_31 : decode cX3_init 31 = .ok (.lconst 1, 1) := by decide +kernel
theorem dX3_init_32 : decode cX3_init 32 = .ok (.lastore, 1) := by decide +kernel
theorem dX3_init_33 : decode cX3_init 33 = .ok (.dup, 1) := by decide +kernel
theorem dX3_init_34 : decode cX3_init 34 = .ok (.iconst 2, 1) := by decide +kernel
theorem dX3_init_35 : decode cX3_init 35 = .ok (.lconst 0, 1) := by decide +kernel
theorem dX3_init_36 : decode cX3_init 36 = .ok (.lastore, 1) := by decide +kernel
theorem dX3_init_37 : decode cX3_init 37 = .ok (.dup, 1) := by decide +kernel
theorem dX3_init_38 : decode cX3_init 38 = .ok (.iconst 3, 1) := by decide +kernel
theorem dX3_init_39 : decode cX3_init 39 = .ok (.lconst 0, 1) := by decide +kernel
theorem dX3_init_40 : decode cX3_init 40 = .ok (.lastore, 1) := by decide +kernel
theorem dX3_init_41 : decode cX3_init 41 = .ok (.dup, 1) := by decide +kernel
theorem dX3_init_42 : decode cX3_init 42 = .ok (.iconst 4, 1) := by decide +kernel
theorem dX3_init_43 : decode cX3_init 43 = .ok (.lconst 0, 1) := by decide +kernel
theorem dX3_init_44 : decode cX3_init 44 = .ok (.lastore, 1) := by decide +kernel
theorem dX3_init_45 : decode cX3_init 45 = .ok (.dup, 1) := by decide +kernel
theorem dX3_init_46 : decode cX3_init 46 = .ok (.iconst 5, 1) := by decide +kernel
theorem dX3_init_47 : decode cX3_init 47 = .ok (.lconst 0, 1) := by decide +kernel
theorem dX3_init_48 : decode cX3_init 48 = .ok (.lastore, 1) := by decide +kernel
theorem dX3_init_49 : decode cX3_init 49 = .ok (.putfield 17, 3) := by decide +kernel
theorem dX3_init_52 : decode cX3_init 52 = .ok (.aload_n 0, 1) := by decide +kernel
theorem dX3_init_53 : decode cX3_init 53 = .ok (.bipush 7, 2) := by decide +kernel
theorem dX3_init_55 : decode cX3_init 55 = .ok (.newarray .long, 2) := by decide +kernel
theorem dX3_init_57 : decode cX3_init 57 = .ok (.putfield 20, 3) := by decide +kernel
theorem dX3_init_60 : decode cX3_init 60 = .ok (.aload_n 0, 1) := by decide +kernel
theorem dX3_init_61 : decode cX3_init 61 = .ok (.iconst 1, 1) := by decide +kernel
theorem dX3_init_62 : decode cX3_init 62 = .ok (.putfield 23, 3) := by decide +kernel
theorem dX3_init_65 : decode cX3_init 65 = .ok (.aload_n 0, 1) := by decide +kernel
theorem dX3_init_66 : decode cX3_init 66 = .ok (.bipush 7, 2) := by decide +kernel
theorem dX3_init_68 : decode cX3_init 68 = .ok (.newarray .int, 2) := by decide +kernel
theorem dX3_init_70 : decode cX3_init 70 = .ok (.dup, 1) := by decide +kernel
theorem dX3_init_71 : decode cX3_init 71 = .ok (.iconst 0, 1) := by decide +kernel
theorem dX3_init_72 : decode cX3_init 72 = .ok (.iconst 0, 1) := by decide +kernel
theorem dX3_init_73 : decode cX3_init 73 = .ok (.iastore, 1) := by decide +kernel
theorem dX3_init_74 : decode cX3_init 74 = .ok (.dup, 1) := by decide +kernel
theorem dX3_init_75 : decode cX3_init 75 = .ok (.iconst 1, 1) := by decide +kernel
theorem dX3_init_76 : decode cX3_init 76 = .ok (.iconst 0, 1) := by decide +kernel
theorem dX3_init_77 : decode cX3_init 77 = .ok (.iastore, 1) := by decide +kernel
theorem dX3_init_78 : decode cX3_init 78 = .ok (.dup, 1) := by decide +kernel
theorem dX3_init_79 : decode cX3_init 79 = .ok (.iconst 2, 1) := by decide +kernel
theorem dX3_init_80 : decode cX3_init 80 = .ok (.iconst 0, 1) := by decide +kernel
theorem dX3_init_81 : decode cX3_init 81 = .ok (.iastore, 1) := by decide +kernel
theorem dX3_init_82 : decode cX3_init 82 = .ok (.dup, 1) := by decide +kernel
theorem dX3_init_83 : decode cX3_init 83 = .ok (.iconst 3, 1) := by decide +kernel
theorem dX3_init_84 : decode cX3_init 84 = .ok (.iconst 1, 1) := by decide +kernel
theorem dX3_init_85 : decode cX3_init 85 = .ok (.iastore, 1) := by decide +kernel
theorem dX3_init_86 : decode cX3_init 86 = .ok (.dup, 1) := by decide +kernel
theorem dX3_init_87 : decode cX3_init 87 = .ok (.iconst 4, 1) := by decide +kernel
theorem dX3_init_88 : decode cX3_init 88 = .ok (.iconst 0, 1) := by decide +kernel
theorem dX3_init_89 : decode cX3_init 89 = .ok (.iastore, 1) := by decide +kernel
theorem dX3_init_90 : decode cX3_init 90 = .ok (.dup, 1) := by decide +kernel
theorem dX3_init_91 : decode cX3_init 91 = .ok (.iconst 5, 1) := by decide +kernel
theorem dX3_init_92 : decode cX3_init 92 = .ok (.iconst 0, 1) := by decide +kernel
theorem dX3_init_93 : decode cX3_init 93 = .ok (.iastore, 1) := by decide +kernel
theorem dX3_init_94 : decode cX3_init 94 = .ok (.dup, 1) := by decide +kernel
theorem dX3_init_95 : decode cX3_init 95 = .ok (.bipush 6, 2) := by decide +kernel
theorem dX3_init_97 : decode cX3_init 97 = .ok (.iconst 0, 1) := by decide +kernel
theorem dX3_init_98 : decode cX3_init 98 = .ok (.iastore, 1) := by decide +kernel
theorem dX3_init_99 : decode cX3_init 99 = .ok (.putfield 27, 3) := by decide +kernel
theorem dX3_init_102 : decode cX3_init 102 = .ok (.aload_n 0, 1) := by decide +kernel
theorem dX3_init_103 : decode cX3_init 103 = .ok (.bipush 7, 2) := by decide +kernel
theorem dX3_init_105 : decode cX3_init 105 = .ok (.newarray .int, 2) := by decide +kernel
theorem dX3_init_107 : decode cX3_init 107 = .ok (.putfield 31, 3) := by decide +kernel
theorem dX3_init_110 : decode cX3_init 110 = .ok (.aload_n 0, 1) := by decide +kernel
theorem dX3_init_111 : decode cX3_init 111 = .ok (.bipush 7, 2) := by decide +kernel
theorem dX3_init_113 : decode cX3_init 113 = .ok (.newarray .long, 2) := by decide +kernel
theorem dX3_init_115 : decode cX3_init 115 = .ok (.putfield 34, 3) := by decide +kernel
theorem dX3_init_118 : decode cX3_init 118 = .ok (.aload_n 0, 1) := by decide +kernel
theorem dX3_init_119 : decode cX3_init 119 = .ok (.bipush 6, 2) := by decide +kernel
theorem dX3_init_121 : decode cX3_init 121 = .ok (.newarray .long, 2) := by decide +kernel
theorem dX3_init_123 : decode cX3_init 123 = .ok (.putfield 37, 3) := by decide +kernel
theorem dX3_init_126 : decode cX3_init 126 = .ok (.aload_n 0, 1) := by decide +kernel
theorem dX3_init_127 : decode cX3_init 127 = .ok (.bipush 6, 2) := by decide +kernel
theorem dX3_init_129 : decode cX3_init 129 = .ok (.newarray .long, 2) := by decide +kernel
theorem dX3_init_131 : decode cX3_init 131 = .ok (.putfield 40, 3) := by decide +kernel
theorem dX3_init_134 : decode cX3_init 134 = .ok (.aload_n 0, 1) := by decide +kernel
theorem dX3_init_135 : decode cX3_init 135 = .ok (.bipush 7, 2) := by decide +kernel
theorem dX3_init_137 : decode cX3_init 137 = .ok (.newarray .long, 2) := by decide +kernel
theorem dX3_init_139 : decode cX3_init 139 = .ok (.putfield 43, 3) := by decide +kernel
theorem dX3_init_142 : decode cX3_init 142 = .ok (.return_, 1) := by decide +kernel
theorem dX3_thrown_0 : decode cX3_thrown 0 = .ok (.aload_n 0, 1) := by decide +kernel
theorem dX3_thrown_1 : decode cX3_thrown 1 = .ok (.getfield 46, 3) := by decide +kernel
theorem dX3_thrown_4 : decode cX3_thrown 4 = .ok (.ireturn, 1) := by decide +kernel
theorem dX3_fails_0 : decode cX3_fails 0 = .ok (.aload_n 0, 1) := by decide +kernel
theorem dX3_fails_1 : decode cX3_fails 1 = .ok (.iload_n 1, 1) := by decide +kernel
theorem dX3_fails_2 : decode cX3_fails 2 = .ok (.putfield 46, 3) := by decide +kernel
theorem dX3_fails_5 : decode cX3_fails 5 = .ok (.iconst 0, 1) := by decide +kernel
theorem dX3_fails_6 : decode cX3_fails 6 = .ok (.ireturn, 1) := by decide +kernel
theorem dX3_write_0 : decode cX3_write 0 = .ok (.aload_n 0, 1) := by decide +kernel
theorem dX3_write_1 : decode cX3_write 1 = .ok (.iconst 0, 1) := by decide +kernel
theorem dX3_write_2 : decode cX3_write 2 = .ok (.putfield 46, 3) := by decide +kernel
theorem dX3_write_5 : decode cX3_write 5 = .ok (.iload_n 1, 1) := by decide +kernel
theorem dX3_write_6 : decode cX3_write 6 = .ok (.bipush 32, 2) := by decide +kernel
theorem dX3_write_8 : decode cX3_write 8 = .ok (.if_icmp .lt 18, 3) := by decide +kernel
theorem dX3_write_11 : decode cX3_write 11 = .ok (.iload_n 1, 1) := by decide +kernel
theorem dX3_write_12 : decode cX3_write 12 = .ok (.bipush 126, 2) := by decide +kernel
theorem dX3_write_14 : decode cX3_write 14 = .ok (.if_icmp .gt 12, 3) := by decide +kernel
theorem dX3_write_17 : decode cX3_write 17 = .ok (.aload_n 0, 1) := by decide +kernel
theorem dX3_write_18 : decode cX3_write 18 = .ok (.getfield 49, 3) := by decide +kernel
theorem dX3_write_21 : decode cX3_write 21 = .ok (.bipush 30, 2) := by decide +kernel
theorem dX3_write_23 : decode cX3_write 23 = .ok (.if_icmp .lt 5, 3) := by decide +kernel
theorem dX3_write_26 : decode cX3_write 26 = .ok (.iconst 0, 1) := by decide +kernel
theorem dX3_write_27 : decode cX3_write 27 = .ok (.ireturn, 1) := by decide +kernel
theorem dX3_write_28 : decode cX3_write 28 = .ok (.aload_n 0, 1) := by decide +kernel
theorem dX3_write_29 : decode cX3_write 29 = .ok (.getfield 7, 3) := by decide +kernel
theorem dX3_write_32 : decode cX3_write 32 = .ok (.aload_n 0, 1) := by decide +kernel
theorem dX3_write_33 : decode cX3_write 33 = .ok (.getfield 49, 3) := by decide +kernel
theorem dX3_write_36 : decode cX3_write 36 = .ok (.iload_n 1, 1) := by decide +kernel
theorem dX3_write_37 : decode cX3_write 37 = .ok (.castore, 1) := by decide +kernel
theorem dX3_write_38 : decode cX3_write 38 = .ok (.aload_n 0, 1) := by decide +kernel
theorem dX3_write_39 : decode cX3_write 39 = .ok (.dup, 1) := by decide +kernel
theorem dX3_write_40 : decode cX3_write 40 = .ok (.getfield 49, 3) := by decide +kernel
theorem dX3_write_43 : decode cX3_write 43 = .ok (.iconst 1, 1) := by decide +kernel
theorem dX3_write_44 : decode cX3_write 44 = .ok (.iadd, 1) := by decide +kernel
theorem dX3_write_45 : decode cX3_write 45 = .ok (.putfield 49, 3) := by decide +kernel
theorem dX3_write_48 : decode cX3_write 48 = .ok (.iconst 1, 1) := by decide +kernel
theorem dX3_write_49 : decode cX3_write 49 = .ok (.ireturn, 1) := by decide +kernel
theorem dX3_look_0 : decode cX3_look 0 = .ok (.aload_n 0, 1) := by decide +kernel
theorem dX3_look_1 : decode cX3_look 1 = .ok (.getfield 52, 3) := by decide +kernel
theorem dX3_look_4 : decode cX3_look 4 = .ok (.aload_n 0, 1) := by decide +kernel
theorem dX3_look_5 : decode cX3_look 5 = .ok (.getfield 49, 3) := by decide +kernel
theorem dX3_look_8 : decode cX3_look 8 = .ok (.if_icmp .ge 15, 3) := by decide +kernel
theorem dX3_look_11 : decode cX3_look 11 = .ok (.aload_n 0, 1) := by decide +kernel
theorem dX3_look_12 : decode cX3_look 12 = .ok (.getfield 7, 3) := by decide +kernel
theorem dX3_look_15 : decode cX3_look 15 = .ok (.aload_n 0, 1) := by decide +kernel
theorem dX3_look_16 : decode cX3_look 16 = .ok (.getfield 52, 3) := by decide +kernel
theorem dX3_look_19 : decode cX3_look 19 = .ok (.caload, 1) := by decide +kernel
theorem dX3_look_20 : decode cX3_look 20 = .ok (.goto 4, 3) := by decide +kernel
theorem dX3_look_23 : decode cX3_look 23 = .ok (.iconst 0, 1) := by decide +kernel
theorem dX3_look_24 : decode cX3_look 24 = .ok (.ireturn, 1) := by decide +kernel
theorem dX3_pass_0 : decode cX3_pass 0 = .ok (.aload_n 0, 1) := by decide +kernel
theorem dX3_pass_1 : decode cX3_pass 1 = .ok (.invokevirtual 55, 3) := by decide +kernel
theorem dX3_pass_4 : decode cX3_pass 4 = .ok (.iload_n 1, 1) := by decide +kernel
theorem dX3_pass_5 : decode cX3_pass 5 = .ok (.if_icmp .ne 7, 3) := by decide +kernel
theorem dX3_pass_8 : decode cX3_pass 8 = .ok (.iconst 1, 1) := by decide +kernel
theorem dX3_pass_9 : decode cX3_pass 9 = .ok (.goto 4, 3) := by decide +kernel
theorem dX3_pass_12 : decode cX3_pass 12 = .ok (.iconst 0, 1) := by decide +kernel
theorem dX3_pass_13 : decode cX3_pass 13 = .ok (.istore_n 2, 1) := by decide +kernel
theorem dX3_pass_14 : decode cX3_pass 14 = .ok (.aload_n 0, 1) := by decide +kernel
theorem dX3_pass_15 : decode cX3_pass 15 = .ok (.iload_n 2, 1) := by decide +kernel
theorem dX3_pass_16 : decode cX3_pass 16 = .ok (.ifCond .eq 12, 3) := by decide +kernel
theorem dX3_pass_19 : decode cX3_pass 19 = .ok (.aload_n 0, 1) := by decide +kernel
theorem dX3_pass_20 : decode cX3_pass 20 = .ok (.getfield 52, 3) := by decide +kernel
theorem dX3_pass_23 : decode cX3_pass 23 = .ok (.iconst 1, 1) := by decide +kernel
theorem dX3_pass_24 : decode cX3_pass 24 = .ok (.iadd, 1) := by decide +kernel
theorem dX3_pass_25 : decode cX3_pass 25 = .ok (.goto 7, 3) := by decide +kernel
theorem dX3_pass_28 : decode cX3_pass 28 = .ok (.aload_n 0, 1) := by decide +kernel
theorem dX3_pass_29 : decode cX3_pass 29 = .ok (.getfield 52, 3) := by decide +kernel
theorem dX3_pass_32 : decode cX3_pass 32 = .ok (.putfield 52, 3) := by decide +kernel
theorem dX3_pass_35 : decode cX3_pass 35 = .ok (.iload_n 2, 1) := by decide +kernel
theorem dX3_pass_36 : decode cX3_pass 36 = .ok (.ireturn, 1) := by decide +kernel
theorem dX3_isDigit_0 : decode cX3_isDigit 0 = .ok (.aload_n 0, 1) := by decide +kernel
theorem dX3_isDigit_1 : decode cX3_isDigit 1 = .ok (.invokevirtual 55, 3) := by decide +kernel
theorem dX3_isDigit_4 : decode cX3_isDigit 4 = .ok (.bipush 48, 2) := by decide +kernel
theorem dX3_isDigit_6 : decode cX3_isDigit 6 = .ok (.if_icmp .lt 16, 3) := by decide +kernel
theorem dX3_isDigit_9 : decode cX3_isDigit 9 = .ok (.aload_n 0, 1) := by decide +kernel
theorem dX3_isDigit_10 : decode cX3_isDigit 10 = .ok (.invokevirtual 55, 3) := by decide +kernel
theorem dX3_isDigit_13 : decode cX3_isDigit 13 = .ok (.bipush 57, 2) := by decide +kernel
theorem dX3_isDigit_15 : decode cX3_isDigit 15 = .ok (.if_icmp .gt 7, 3) := by decide +kernel
theorem dX3_isDigit_18 : decode cX3_isDigit 18 = .ok (.iconst 1, 1) := by decide +kernel
theorem dX3_isDigit_19 : decode cX3_isDigit 19 = .ok (.goto 4, 3) := by decide +kernel
theorem dX3_isDigit_22 : decode cX3_isDigit 22 = .ok (.iconst 0, 1) := by decide +kernel
theorem dX3_isDigit_23 : decode cX3_isDigit 23 = .ok (.ireturn, 1) := by decide +kernel
theorem dX3_digit_0 : decode cX3_digit 0 = .ok (.aload_n 0, 1) := by decide +kernel
theorem dX3_digit_1 : decode cX3_digit 1 = .ok (.dup, 1) := by decide +kernel
theorem dX3_digit_2 : decode cX3_digit 2 = .ok (.getfield 52, 3) := by decide +kernel
theorem dX3_digit_5 : decode cX3_digit 5 = .ok (.iconst 1, 1) := by decide +kernel
theorem dX3_digit_6 : decode cX3_digit 6 = .ok (.iadd, 1) := by decide +kernel
theorem dX3_digit_7 : decode cX3_digit 7 = .ok (.putfield 52, 3) := by decide +kernel
theorem dX3_digit_10 : decode cX3_digit 10 = .ok (.aload_n 0, 1) := by decide +kernel
theorem dX3_digit_11 : decode cX3_digit 11 = .ok (.getfield 7, 3) := by decide +kernel
theorem dX3_digit_14 : decode cX3_digit 14 = .ok (.aload_n 0, 1) := by decide +kernel
theorem dX3_digit_15 : decode cX3_digit 15 = .ok (.getfield 52, 3) := by decide +kernel
theorem dX3_digit_18 : decode cX3_digit 18 = .ok (.iconst 1, 1) := by decide +kernel
theorem dX3_digit_19 : decode cX3_digit 19 = .ok (.isub, 1) := by decide +kernel
theorem dX3_digit_20 : decode cX3_digit 20 = .ok (.caload, 1) := by decide +kernel
theorem dX3_digit_21 : decode cX3_digit 21 = .ok (.bipush 48, 2) := by decide +kernel
theorem dX3_digit_23 : decode cX3_digit 23 = .ok (.isub, 1) := by decide +kernel
theorem dX3_digit_24 : decode cX3_digit 24 = .ok (.ireturn, 1) := by decide +kernel
theorem dX3_readTerm_0 : decode cX3_readTerm 0 = .ok (.aload_n 0, 1) := by decide +kernel
theorem dX3_readTerm_1 : decode cX3_readTerm 1 = .ok (.invokevirtual 59, 3) := by decide +kernel
theorem dX3_readTerm_4 : decode cX3_readTerm 4 = .ok (.istore_n 3, 1) := by decide +kernel
theorem dX3_readTerm_5 : decode cX3_readTerm 5 = .ok (.iload_n 3, 1) := by decide +kernel
theorem dX3_readTerm_6 : decode cX3_readTerm 6 = .ok (.ifCond .eq 11, 3) := by decide +kernel
theorem dX3_readTerm_9 : decode cX3_readTerm 9 = .ok (.aload_n 0, 1) := by decide +kernel
theorem dX3_readTerm_10 : decode cX3_readTerm 10 = .ok (.invokevirtual 63, 3) := by decide +kernel
theorem dX3_readTerm_13 : decode cX3_readTerm 13 = .ok (.i2l, 1) := by decide +kernel
theorem dX3_readTerm_14 : decode cX3_readTerm 14 = .ok (.goto 4, 3) := by decide +kernel
theorem dX3_readTerm_17 : decode cX3_readTerm 17 = .ok (.lconst 1, 1) := by decide +kernel
theorem dX3_readTerm_18 : decode cX3_readTerm 18 = .ok (.lstore 4, 2) := by decide +kernel
theorem dX3_readTerm_20 : decode cX3_readTerm 20 = .ok (.iload_n 3, 1) := by decide +kernel
theorem dX3_readTerm_21 : decode cX3_readTerm 21 = .ok (.ifCond .eq 25, 3) := by decide +kernel
theorem dX3_readTerm_24 : decode cX3_readTerm 24 = .ok (.aload_n 0, 1) := by decide +kernel
theorem dX3_readTerm_25 : decode cX3_readTerm 25 = .ok (.invokevirtual 59, 3) := by decide +kernel
theorem dX3_readTerm_28 : decode cX3_readTerm 28 = .ok (.ifCond .eq 18, 3) := by decide +kernel
theorem dX3_readTerm_31 : decode cX3_readTerm 31 = .ok (.ldc2_w 67, 3) := by decide +kernel
theorem dX3_readTerm_34 : decode cX3_readTerm 34 = .ok (.lload 4, 2) := by decide +kernel
theorem dX3_readTerm_36 : decode cX3_readTerm 36 = .ok (.lmul, 1) := by decide +kernel
theorem dX3_readTerm_37 : decode cX3_readTerm 37 = .ok (.aload_n 0, 1) := by decide +kernel
theorem dX3_readTerm_38 : decode cX3_readTerm 38 = .ok (.invokevirtual 63, 3) := by decide +kernel
theorem dX3_readTerm_41 : decode cX3_readTerm 41 = .ok (.i2l, 1) := by decide +kernel
theorem dX3_readTerm_42 : decode cX3_readTerm 42 = .ok (.ladd, 1) := by decide +kernel
theorem dX3_readTerm_43 : decode cX3_readTerm 43 = .ok (.goto 5, 3) := by decide +kernel
theorem dX3_readTerm_46 : decode cX3_readTerm 46 = .ok (.lload 4, 2) := by decide +kernel
theorem dX3_readTerm_48 : decode cX3_readTerm 48 = .ok (.lstore 4, 2) := by decide +kernel
theorem dX3_readTerm_50 : decode cX3_readTerm 50 = .ok (.iconst 0, 1) := by decide +kernel
theorem dX3_readTerm_51 : decode cX3_readTerm 51 = .ok (.istore 6, 2) := by decide +kernel
theorem dX3_readTerm_53 : decode cX3_readTerm 53 = .ok (.aload_n 0, 1) := by decide +kernel
theorem dX3_readTerm_54 : decode cX3_readTerm 54 = .ok (.bipush 120, 2) := by decide +kernel
theorem dX3_readTerm_56 : decode cX3_readTerm 56 = .ok (.invokevirtual 69, 3) := by decide +kernel
theorem dX3_readTerm_59 : decode cX3_readTerm 59 = .ok (.istore 7, 2) := by decide +kernel
theorem dX3_readTerm_61 : decode cX3_readTerm 61 = .ok (.iload_n 3, 1) := by decide +kernel
theorem dX3_readTerm_62 : decode cX3_readTerm 62 = .ok (.ifCond .ne 10, 3) := by decide +kernel
theorem dX3_readTerm_65 : decode cX3_readTerm 65 = .ok (.iload 7, 2) := by decide +kernel
theorem dX3_readTerm_67 : decode cX3_readTerm 67 = .ok (.ifCond .ne 5, 3) := by decide +kernel
theorem dX3_readTerm_70 : decode cX3_readTerm 70 = .ok (.iconst 0, 1) := by decide +kernel
theorem dX3_readTerm_71 : decode cX3_readTerm 71 = .ok (.ireturn, 1) := by decide +kernel
theorem dX3_readTerm_72 : decode cX3_readTerm 72 = .ok (.iload 7, 2) := by decide +kernel
theorem dX3_readTerm_74 : decode cX3_readTerm 74 = .ok (.ifCond .eq 30, 3) := by decide +kernel
theorem dX3_readTerm_77 : decode cX3_readTerm 77 = .ok (.iconst 1, 1) := by decide +kernel
theorem dX3_readTerm_78 : decode cX3_readTerm 78 = .ok (.istore 6, 2) := by decide +kernel
theorem dX3_readTerm_80 : decode cX3_readTerm 80 = .ok (.aload_n 0, 1) := by decide +kernel
theorem dX3_readTerm_81 : decode cX3_readTerm 81 = .ok (.bipush 94, 2) := by decide +kernel
theorem dX3_readTerm_83 : decode cX3_readTerm 83 = .ok (.invokevirtual 69, 3) := by decide +kernel
theorem dX3_readTerm_86 : decode cX3_readTerm 86 = .ok (.ifCond .eq 18, 3) := by decide +kernel
theorem dX3_readTerm_89 : decode cX3_readTerm 89 = .ok (.aload_n 0, 1) := by decide +kernel
theorem dX3_readTerm_90 : decode cX3_readTerm 90 = .ok (.invokevirtual 59, 3) := by decide +kernel
theorem dX3_readTerm_93 : decode cX3_readTerm 93 = .ok (.ifCond .ne 5, 3) := by decide +kernel
theorem dX3_readTerm_96 : decode cX3_readTerm 96 = .ok (.iconst 0, 1) := by decide +kernel
theorem dX3_readTerm_97 : decode cX3_readTerm 97 = .ok (.ireturn, 1) := by decide +kernel
theorem dX3_readTerm_98 : decode cX3_readTerm 98 = .ok (.aload_n 0, 1) := by decide +kernel
theorem dX3_readTerm_99 : decode cX3_readTerm 99 = .ok (.invokevirtual 63, 3) := by decide +kernel
theorem dX3_readTerm_102 : decode cX3_readTerm 102 = .ok (.istore 6, 2) := by decide +kernel
theorem dX3_readTerm_104 : decode cX3_readTerm 104 = .ok (.iload 6, 2) := by decide +kernel
theorem dX3_readTerm_106 : decode cX3_readTerm 106 = .ok (.bipush 6, 2) := by decide +kernel
theorem dX3_readTerm_108 : decode cX3_readTerm 108 = .ok (.if_icmp .le 5, 3) := by decide +kernel
theorem dX3_readTerm_111 : decode cX3_readTerm 111 = .ok (.iconst 0, 1) := by decide +kernel
theorem dX3_readTerm_112 : decode cX3_readTerm 112 = .ok (.ireturn, 1) := by decide +kernel
theorem dX3_readTerm_113 : decode cX3_readTerm 113 = .ok (.aload_n 0, 1) := by decide +kernel
theorem dX3_readTerm_114 : decode cX3_readTerm 114 = .ok (.getfield 43, 3) := by decide +kernel
theorem dX3_readTerm_117 : decode cX3_readTerm 117 = .ok (.iload 6, 2) := by decide +kernel
theorem dX3_readTerm_119 : decode cX3_readTerm 119 = .ok (.aload_n 0, 1) := by decide +kernel
theorem dX3_readTerm_120 : decode cX3_readTerm 120 = .ok (.getfield 43, 3) := by decide +kernel
theorem dX3_readTerm_123 : decode cX3_readTerm 123 = .ok (.iload 6, 2) := by decide +kernel
theorem dX3_readTerm_125 : decode cX3_readTerm 125 = .ok (.laload, 1) := by decide +kernel
theorem dX3_readTerm_126 : decode cX3_readTerm 126 = .ok (.lload_n 1, 1) := by decide +kernel
theorem dX3_readTerm_127 : decode cX3_readTerm 127 = .ok (.lload 4, 2) := by decide +kernel
theorem dX3_readTerm_129 : decode cX3_readTerm 129 = .ok (.lmul, 1) := by decide +kernel
theorem dX3_readTerm_130 : decode cX3_readTerm 130 = .ok (.ladd, 1) := by decide +kernel
theorem dX3_readTerm_131 : decode cX3_readTerm 131 = .ok (.lastore, 1) := by decide +kernel
theorem dX3_readTerm_132 : decode cX3_readTerm 132 = .ok (.iconst 1, 1) := by decide +kernel
theorem dX3_readTerm_133 : decode cX3_readTerm 133 = .ok (.ireturn, 1) := by decide +kernel
theorem dX3_readPolynomial_0 : decode cX3_readPolynomial 0 = .ok (.aload_n 0, 1) := by decide +kernel
theorem dX3_readPolynomial_1 : decode cX3_readPolynomial 1 = .ok (.iconst 0, 1) := by decide +kernel
theorem dX3_readPolynomial_2 : decode cX3_readPolynomial 2 = .ok (.putfield 52, 3) := by decide +kernel
theorem dX3_readPolynomial_5 : decode cX3_readPolynomial 5 = .ok (.iconst 0, 1) := by decide +kernel
theorem dX3_readPolynomial_6 : decode cX3_readPolynomial 6 = .ok (.istore_n 1, 1) := by decide +kernel
theorem dX3_readPolynomial_7 : decode cX3_readPolynomial 7 = .ok (.iload_n 1, 1) := by decide +kernel
theorem dX3_readPolynomial_8 : decode cX3_readPolynomial 8 = .ok (.bipush 7, 2) := by decide +kernel
theorem dX3_readPolynomial_10 : decode cX3_readPolynomial 10 = .ok (.if_icmp .ge 16, 3) := by decide +kernel
theorem dX3_readPolynomial_13 : decode cX3_readPolynomial 13 = .ok (.aload_n 0, 1) := by decide +kernel
theorem dX3_readPolynomial_14 : decode cX3_readPolynomial 14 = .ok (.getfield 43, 3) := by decide +kernel
theorem dX3_readPolynomial_17 : decode cX3_readPolynomial 17 = .ok (.iload_n 1, 1) := by decide +kernel
theorem dX3_readPolynomial_18 : decode cX3_readPolynomial 18 = .ok (.lconst 0, 1) := by decide +kernel
theorem dX3_readPolynomial_19 : decode cX3_readPolynomial 19 = .ok (.lastore, 1) := by decide +kernel
theorem dX3_readPolynomial_20 : decode cX3_readPolynomial 20 = .ok (.iinc 1 1, 3) := by decide +kernel
theorem dX3_readPolynomial_23 : decode cX3_readPolynomial 23 = .ok (.goto (-16), 3) := by decide +kernel
theorem dX3_readPolynomial_26 : decode cX3_readPolynomial 26 = .ok (.aload_n 0, 1) := by decide +kernel
theorem dX3_readPolynomial_27 : decode cX3_readPolynomial 27 = .ok (.bipush 45, 2) := by decide +kernel
theorem dX3_readPolynomial_29 : decode cX3_readPolynomial 29 = .ok (.invokevirtual 69, 3) := by decide +kernel
theorem dX3_readPolynomial_32 : decode cX3_readPolynomial 32 = .ok (.istore_n 1, 1) := by decide +kernel
theorem dX3_readPolynomial_33 : decode cX3_readPolynomial 33 = .ok (.iload_n 1, 1) := by decide +kernel
theorem dX3_readPolynomial_34 : decode cX3_readPolynomial 34 = .ok (.ifCond .ne 10, 3) := by decide +kernel
theorem dX3_readPolynomial_37 : decode cX3_readPolynomial 37 = .ok (.aload_n 0, 1) := by decide +kernel
theorem dX3_readPolynomial_38 : decode cX3_readPolynomial 38 = .ok (.bipush 43, 2) := by decide +kernel
theorem dX3_readPolynomial_40 : decode cX3_readPolynomial 40 = .ok (.invokevirtual 69, 3) := by decide +kernel
theorem dX3_readPolynomial_43 : decode cX3_readPolynomial 43 = .ok (.pop, 1) := by decide +kernel
theorem dX3_readPolynomial_44 : decode cX3_readPolynomial 44 = .ok (.aload_n 0, 1) := by decide +kernel
theorem dX3_readPolynomial_45 : decode cX3_readPolynomial 45 = .ok (.iload_n 1, 1) := by decide +kernel
theorem dX3_readPolynomial_46 : decode cX3_readPolynomial 46 = .ok (.ifCond .eq 9, 3) := by decide +kernel
theorem dX3_readPolynomial_49 : decode cX3_readPolynomial 49 = .ok (.ldc2_w 73, 3) := by decide +kernel
theorem dX3_readPolynomial_52 : decode cX3_readPolynomial 52 = .ok (.goto 4, 3) := by decide +kernel
theorem dX3_readPolynomial_55 : decode cX3_readPolynomial 55 = .ok (.lconst 1, 1) := by decide +kernel
theorem dX3_readPolynomial_56 : decode cX3_readPolynomial 56 = .ok (.invokevirtual 75, 3) := by decide +kernel
theorem dX3_readPolynomial_59 : decode cX3_readPolynomial 59 = .ok (.istore_n 2, 1) := by decide +kernel
theorem dX3_readPolynomial_60 : decode cX3_readPolynomial 60 = .ok (.iload_n 2, 1) := by decide +kernel
theorem dX3_readPolynomial_61 : decode cX3_readPolynomial 61 = .ok (.ifCond .eq 84, 3) := by decide +kernel
theorem dX3_readPolynomial_64 : decode cX3_readPolynomial 64 = .ok (.aload_n 0, 1) := by decide +kernel
theorem dX3_readPolynomial_65 : decode cX3_readPolynomial 65 = .ok (.getfield 52, 3) := by decide +kernel
theorem dX3_readPolynomial_68 : decode cX3_readPolynomial 68 = .ok (.aload_n 0, 1) := by decide +kernel
theorem dX3_readPolynomial_69 : decode cX3_readPolynomial 69 = .ok (.getfield 49, 3) := by decide +kernel
theorem dX3_readPolynomial_72 : decode cX3_readPolynomial 72 = .ok (.if_icmp .ge 73, 3) := by decide +kernel
theorem dX3_readPolynomial_75 : decode cX3_readPolynomial 75 = .ok (.aload_n 0, 1) := by decide +kernel
theorem dX3_readPolynomial_76 : decode cX3_readPolynomial 76 = .ok (.invokevirtual 55, 3) := by decide +kernel
theorem dX3_readPolynomial_79 : decode cX3_readPolynomial 79 = .ok (.bipush 45, 2) := by decide +kernel
theorem dX3_readPolynomial_81 : decode cX3_readPolynomial 81 = .ok (.if_icmp .ne 7, 3) := by decide +kernel
theorem dX3_readPolynomial_84 : decode cX3_readPolynomial 84 = .ok (.iconst 1, 1) := by decide +kernel
theorem dX3_readPolynomial_85 : decode cX3_readPolynomial 85 = .ok (.goto 4, 3) := by decide +kernel
theorem dX3_readPolynomial_88 : decode cX3_readPolynomial 88 = .ok (.iconst 0, 1) := by decide +kernel
theorem dX3_readPolynomial_89 : decode cX3_readPolynomial 89 = .ok (.istore_n 1, 1) := by decide +kernel
theorem dX3_readPolynomial_90 : decode cX3_readPolynomial 90 = .ok (.aload_n 0, 1) := by decide +kernel
theorem dX3_readPolynomial_91 : decode cX3_readPolynomial 91 = .ok (.bipush 43, 2) := by decide +kernel
theorem dX3_readPolynomial_93 : decode cX3_readPolynomial 93 = .ok (.invokevirtual 69, 3) := by decide +kernel
theorem dX3_readPolynomial_96 : decode cX3_readPolynomial 96 = .ok (.ifCond .ne 12, 3) := by decide +kernel
theorem dX3_readPolynomial_99 : decode cX3_readPolynomial 99 = .ok (.aload_n 0, 1) := by decide +kernel
theorem dX3_readPolynomial_100 : decode cX3_readPolynomial 100 = .ok (.bipush 45, 2) := by decide +kernel
theorem dX3_readPolynomial_102 : decode cX3_readPolynomial 102 = .ok (.invokevirtual 69, 3) := by decide +kernel
theorem dX3_readPolynomial_105 : decode cX3_readPolynomial 105 = .ok (.ifCond .eq 7, 3) := by decide +kernel
theorem dX3_readPolynomial_108 : decode cX3_readPolynomial 108 = .ok (.iconst 1, 1) := by decide +kernel
theorem dX3_readPolynomial_109 : decode cX3_readPolynomial 109 = .ok (.goto 4, 3) := by decide +kernel
theorem dX3_readPolynomial_112 : decode cX3_readPolynomial 112 = .ok (.iconst 0, 1) := by decide +kernel
theorem dX3_readPolynomial_113 : decode cX3_readPolynomial 113 = .ok (.istore_n 2, 1) := by decide +kernel
theorem dX3_readPolynomial_114 : decode cX3_readPolynomial 114 = .ok (.iload_n 2, 1) := by decide +kernel
theorem dX3_readPolynomial_115 : decode cX3_readPolynomial 115 = .ok (.ifCond .eq 25, 3) := by decide +kernel
theorem dX3_readPolynomial_118 : decode cX3_readPolynomial 118 = .ok (.aload_n 0, 1) := by decide +kernel
theorem dX3_readPolynomial_119 : decode cX3_readPolynomial 119 = .ok (.iload_n 1, 1) := by decide +kernel
theorem dX3_readPolynomial_120 : decode cX3_readPolynomial 120 = .ok (.ifCond .eq 9, 3) := by decide +kernel
theorem dX3_readPolynomial_123 : decode cX3_readPolynomial 123 = .ok (.ldc2_w 73, 3) := by decide +kernel
theorem dX3_readPolynomial_126 : decode cX3_readPolynomial 126 = .ok (.goto 4, 3) := by decide +kernel
theorem dX3_readPolynomial_129 : decode cX3_readPolynomial 129 = .ok (.lconst 1, 1) := by decide +kernel
theorem dX3_readPolynomial_130 : decode cX3_readPolynomial 130 = .ok (.invokevirtual 75, 3) := by decide +kernel
theorem dX3_readPolynomial_133 : decode cX3_readPolynomial 133 = .ok (.ifCond .eq 7, 3) := by decide +kernel
theorem dX3_readPolynomial_136 : decode cX3_readPolynomial 136 = .ok (.iconst 1, 1) := by decide +kernel
theorem dX3_readPolynomial_137 : decode cX3_readPolynomial 137 = .ok (.goto 4, 3) := by decide +kernel
theorem dX3_readPolynomial_140 : decode cX3_readPolynomial 140 = .ok (.iconst 0, 1) := by decide +kernel
theorem dX3_readPolynomial_141 : decode cX3_readPolynomial 141 = .ok (.istore_n 2, 1) := by decide +kernel
theorem dX3_readPolynomial_142 : decode cX3_readPolynomial 142 = .ok (.goto (-82), 3) := by decide +kernel
theorem dX3_readPolynomial_145 : decode cX3_readPolynomial 145 = .ok (.iload_n 2, 1) := by decide +kernel
theorem dX3_readPolynomial_146 : decode cX3_readPolynomial 146 = .ok (.ireturn, 1) := by decide +kernel
theorem dX3_numerator_0 : decode cX3_numerator 0 = .ok (.aload_n 0, 1) := by decide +kernel
theorem dX3_numerator_1 : decode cX3_numerator 1 = .ok (.iconst 0, 1) := by decide +kernel
theorem dX3_numerator_2 : decode cX3_numerator 2 = .ok (.putfield 46, 3) := by decide +kernel
theorem dX3_numerator_5 : decode cX3_numerator 5 = .ok (.aload_n 0, 1) := by decide +kernel
theorem dX3_numerator_6 : decode cX3_numerator 6 = .ok (.invokevirtual 79, 3) := by decide +kernel
theorem dX3_numerator_9 : decode cX3_numerator 9 = .ok (.istore_n 1, 1) := by decide +kernel
theorem dX3_numerator_10 : decode cX3_numerator 10 = .ok (.aload_n 0, 1) := by decide +kernel
theorem dX3_numerator_11 : decode cX3_numerator 11 = .ok (.iconst 0, 1) := by decide +kernel
theorem dX3_numerator_12 : decode cX3_numerator 12 = .ok (.putfield 49, 3) := by decide +kernel
theorem dX3_numerator_15 : decode cX3_numerator 15 = .ok (.iload_n 1, 1) := by decide +kernel
theorem dX3_numerator_16 : decode cX3_numerator 16 = .ok (.ifCond .ne 9, 3) := by decide +kernel
theorem dX3_numerator_19 : decode cX3_numerator 19 = .ok (.aload_n 0, 1) := by decide +kernel
theorem dX3_numerator_20 : decode cX3_numerator 20 = .ok (.iconst 1, 1) := by decide +kernel
theorem dX3_numerator_21 : decode cX3_numerator 21 = .ok (.invokevirtual 82, 3) := by decide +kernel
theorem dX3_numerator_24 : decode cX3_numerator 24 = .ok (.ireturn, 1) := by decide +kernel
theorem dX3_numerator_25 : decode cX3_numerator 25 = .ok (.iconst 0, 1) := by decide +kernel
theorem dX3_numerator_26 : decode cX3_numerator 26 = .ok (.istore_n 2, 1) := by decide +kernel
theorem dX3_numerator_27 : decode cX3_numerator 27 = .ok (.iconst 0, 1) := by decide +kernel
theorem dX3_numerator_28 : decode cX3_numerator 28 = .ok (.istore_n 3, 1) := by decide +kernel
theorem dX3_numerator_29 : decode cX3_numerator 29 = .ok (.iload_n 3, 1) := by decide +kernel
theorem dX3_numerator_30 : decode cX3_numerator 30 = .ok (.bipush 7, 2) := by decide +kernel
theorem dX3_numerator_32 : decode cX3_numerator 32 = .ok (.if_icmp .ge 38, 3) := by decide +kernel
theorem dX3_numerator_35 : decode cX3_numerator 35 = .ok (.aload_n 0, 1) := by decide +kernel
theorem dX3_numerator_36 : decode cX3_numerator 36 = .ok (.getfield 13, 3) := by decide +kernel
theorem dX3_numerator_39 : decode cX3_numerator 39 = .ok (.iload_n 3, 1) := by decide +kernel
theorem dX3_numerator_40 : decode cX3_numerator 40 = .ok (.aload_n 0, 1) := by decide +kernel
theorem dX3_numerator_41 : decode cX3_numerator 41 = .ok (.getfield 43, 3) := by decide +kernel
theorem dX3_numerator_44 : decode cX3_numerator 44 = .ok (.iload_n 3, 1) := by decide +kernel
theorem dX3_numerator_45 : decode cX3_numerator 45 = .ok (.laload, 1) := by decide +kernel
theorem dX3_numerator_46 : decode cX3_numerator 46 = .ok (.lastore, 1) := by decide +kernel
theorem dX3_numerator_47 : decode cX3_numerator 47 = .ok (.aload_n 0, 1) := by decide +kernel
theorem dX3_numerator_48 : decode cX3_numerator 48 = .ok (.getfield 13, 3) := by decide +kernel
theorem dX3_numerator_51 : decode cX3_numerator 51 = .ok (.iload_n 3, 1) := by decide +kernel
theorem dX3_numerator_52 : decode cX3_numerator 52 = .ok (.laload, 1) := by decide +kernel
theorem dX3_numerator_53 : decode cX3_numerator 53 = .ok (.lconst 0, 1) := by decide +kernel
theorem dX3_numerator_54 : decode cX3_numerator 54 = .ok (.lcmp, 1) := by decide +kernel
theorem dX3_numerator_55 : decode cX3_numerator 55 = .ok (.ifCond .eq 7, 3) := by decide +kernel
theorem dX3_numerator_58 : decode cX3_numerator 58 = .ok (.iload_n 3, 1) := by decide +kernel
theorem dX3_numerator_59 : decode cX3_numerator 59 = .ok (.goto 4, 3) := by decide +kernel
theorem dX3_numerator_62 : decode cX3_numerator 62 = .ok (.iload_n 2, 1) := by decide +kernel
theorem dX3_numerator_63 : decode cX3_numerator 63 = .ok (.istore_n 2, 1) := by decide +kernel
theorem dX3_numerator_64 : decode cX3_numerator 64 = .ok (.iinc 3 1, 3) := by decide +kernel
theorem dX3_numerator_67 : decode cX3_numerator 67 = .ok (.goto (-38), 3) := by decide +kernel
theorem dX3_numerator_70 : decode cX3_numerator 70 = .ok (.iload_n 2, 1) := by decide +kernel
theorem dX3_numerator_71 : decode cX3_numerator 71 = .ok (.ireturn, 1) := by decide +kernel
theorem dX3_readFactor_0 : decode cX3_readFactor 0 = .ok (.aload_n 0, 1) := by decide +kernel
theorem dX3_readFactor_1 : decode cX3_readFactor 1 = .ok (.bipush 40, 2) := by decide +kernel
theorem dX3_readFactor_3 : decode cX3_readFactor 3 = .ok (.invokevirtual 69, 3) := by decide +kernel
theorem dX3_readFactor_6 : decode cX3_readFactor 6 = .ok (.ifCond .eq 12, 3) := by decide +kernel
theorem dX3_readFactor_9 : decode cX3_readFactor 9 = .ok (.aload_n 0, 1) := by decide +kernel
theorem dX3_readFactor_10 : decode cX3_readFactor 10 = .ok (.bipush 120, 2) := by decide +kernel
theorem dX3_readFactor_12 : decode cX3_readFactor 12 = .ok (.invokevirtual 69, 3) := by decide +kernel
theorem dX3_readFactor_15 : decode cX3_readFactor 15 = .ok (.ifCond .ne 5, 3) := by decide +kernel
theorem dX3_readFactor_18 : decode cX3_readFactor 18 = .ok (.iconst 0, 1) := by decide +kernel
theorem dX3_readFactor_19 : decode cX3_readFactor 19 = .ok (.ireturn, 1) := by decide +kernel
theorem dX3_readFactor_20 : decode cX3_readFactor 20 = .ok (.iconst 0, 1) := by decide +kernel
theorem dX3_readFactor_21 : decode cX3_readFactor 21 = .ok (.istore_n 1, 1) := by decide +kernel
theorem dX3_readFactor_22 : decode cX3_readFactor 22 = .ok (.aload_n 0, 1) := by decide +kernel
theorem dX3_readFactor_23 : decode cX3_readFactor 23 = .ok (.invokevirtual 55, 3) := by decide +kernel
theorem dX3_readFactor_26 : decode cX3_readFactor 26 = .ok (.bipush 43, 2) := by decide +kernel
theorem dX3_readFactor_28 : decode cX3_readFactor 28 = .ok (.if_icmp .ne 7, 3) := by decide +kernel
theorem dX3_readFactor_31 : decode cX3_readFactor 31 = .ok (.iconst 1, 1) := by decide +kernel
theorem dX3_readFactor_32 : decode cX3_readFactor 32 = .ok (.goto 4, 3) := by decide +kernel
theorem dX3_readFactor_35 : decode cX3_readFactor 35 = .ok (.iconst 0, 1) := by decide +kernel
theorem dX3_readFactor_36 : decode cX3_readFactor 36 = .ok (.istore_n 2, 1) := by decide +kernel
theorem dX3_readFactor_37 : decode cX3_readFactor 37 = .ok (.aload_n 0, 1) := by decide +kernel
theorem dX3_readFactor_38 : decode cX3_readFactor 38 = .ok (.bipush 43, 2) := by decide +kernel
theorem dX3_readFactor_40 : decode cX3_readFactor 40 = .ok (.invokevirtual 69, 3) := by decide +kernel
theorem dX3_readFactor_43 : decode cX3_readFactor 43 = .ok (.ifCond .ne 12, 3) := by decide +kernel
theorem dX3_readFactor_46 : decode cX3_readFactor 46 = .ok (.aload_n 0, 1) := by decide +kernel
theorem dX3_readFactor_47 : decode cX3_readFactor 47 = .ok (.bipush 45, 2) := by decide +kernel
theorem dX3_readFactor_49 : decode cX3_readFactor 49 = .ok (.invokevirtual 69, 3) := by decide +kernel
theorem dX3_readFactor_52 : decode cX3_readFactor 52 = .ok (.ifCond .eq 39, 3) := by decide +kernel
theorem dX3_readFactor_55 : decode cX3_readFactor 55 = .ok (.aload_n 0, 1) := by decide +kernel
theorem dX3_readFactor_56 : decode cX3_readFactor 56 = .ok (.invokevirtual 55, 3) := by decide +kernel
theorem dX3_readFactor_59 : decode cX3_readFactor 59 = .ok (.bipush 49, 2) := by decide +kernel
theorem dX3_readFactor_61 : decode cX3_readFactor 61 = .ok (.if_icmp .lt 12, 3) := by decide +kernel
theorem dX3_readFactor_64 : decode cX3_readFactor 64 = .ok (.aload_n 0, 1) := by decide +kernel
theorem dX3_readFactor_65 : decode cX3_readFactor 65 = .ok (.invokevirtual 55, 3) := by decide +kernel
theorem dX3_readFactor_68 : decode cX3_readFactor 68 = .ok (.bipush 51, 2) := by decide +kernel
theorem dX3_readFactor_70 : decode cX3_readFactor 70 = .ok (.if_icmp .le 5, 3) := by decide +kernel
theorem dX3_readFactor_73 : decode cX3_readFactor 73 = .ok (.iconst 0, 1) := by decide +kernel
theorem dX3_readFactor_74 : decode cX3_readFactor 74 = .ok (.ireturn, 1) := by decide +kernel
theorem dX3_readFactor_75 : decode cX3_readFactor 75 = .ok (.aload_n 0, 1) := by decide +kernel
theorem dX3_readFactor_76 : decode cX3_readFactor 76 = .ok (.invokevirtual 63, 3) := by decide +kernel
theorem dX3_readFactor_79 : decode cX3_readFactor 79 = .ok (.istore_n 1, 1) := by decide +kernel
theorem dX3_readFactor_80 : decode cX3_readFactor 80 = .ok (.iload_n 2, 1) := by decide +kernel
theorem dX3_readFactor_81 : decode cX3_readFactor 81 = .ok (.ifCond .eq 8, 3) := by decide +kernel
theorem dX3_readFactor_84 : decode cX3_readFactor 84 = .ok (.iload_n 1, 1) := by decide +kernel
theorem dX3_readFactor_85 : decode cX3_readFactor 85 = .ok (.ineg, 1) := by decide +kernel
theorem dX3_readFactor_86 : decode cX3_readFactor 86 = .ok (.goto 4, 3) := by decide +kernel
theorem dX3_readFactor_89 : decode cX3_readFactor 89 = .ok (.iload_n 1, 1) := by decide +kernel
theorem dX3_readFactor_90 : decode cX3_readFactor 90 = .ok (.istore_n 1, 1) := by decide +kernel
theorem dX3_readFactor_91 : decode cX3_readFactor 91 = .ok (.aload_n 0, 1) := by decide +kernel
theorem dX3_readFactor_92 : decode cX3_readFactor 92 = .ok (.bipush 41, 2) := by decide +kernel
theorem dX3_readFactor_94 : decode cX3_readFactor 94 = .ok (.invokevirtual 69, 3) := by decide +kernel
theorem dX3_readFactor_97 : decode cX3_readFactor 97 = .ok (.ifCond .ne 5, 3) := by decide +kernel
theorem dX3_readFactor_100 : decode cX3_readFactor 100 = .ok (.iconst 0, 1) := by decide +kernel
theorem dX3_readFactor_101 : decode cX3_readFactor 101 = .ok (.ireturn, 1) := by decide +kernel
theorem dX3_readFactor_102 : decode cX3_readFactor 102 = .ok (.iconst 1, 1) := by decide +kernel
theorem dX3_readFactor_103 : decode cX3_readFactor 103 = .ok (.istore_n 3, 1) := by decide +kernel
theorem dX3_readFactor_104 : decode cX3_readFactor 104 = .ok (.aload_n 0, 1) := by decide +kernel
theorem dX3_readFactor_105 : decode cX3_readFactor 105 = .ok (.bipush 94, 2) := by decide +kernel
theorem dX3_readFactor_107 : decode cX3_readFactor 107 = .ok (.invokevirtual 69, 3) := by decide +kernel
theorem dX3_readFactor_110 : decode cX3_readFactor 110 = .ok (.ifCond .eq 28, 3) := by decide +kernel
theorem dX3_readFactor_113 : decode cX3_readFactor 113 = .ok (.aload_n 0, 1) := by decide +kernel
theorem dX3_readFactor_114 : decode cX3_readFactor 114 = .ok (.invokevirtual 55, 3) := by decide +kernel
theorem dX3_readFactor_117 : decode cX3_readFactor 117 = .ok (.bipush 49, 2) := by decide +kernel
theorem dX3_readFactor_119 : decode cX3_readFactor 119 = .ok (.if_icmp .lt 12, 3) := by decide +kernel
theorem dX3_readFactor_122 : decode cX3_readFactor 122 = .ok (.aload_n 0, 1) := by decide +kernel
theorem dX3_readFactor_123 : decode cX3_readFactor 123 = .ok (.invokevirtual 55, 3) := by decide +kernel
theorem dX3_readFactor_126 : decode cX3_readFactor 126 = .ok (.bipush 51, 2) := by decide +kernel
theorem dX3_readFactor_128 : decode cX3_readFactor 128 = .ok (.if_icmp .le 5, 3) := by decide +kernel
theorem dX3_readFactor_131 : decode cX3_readFactor 131 = .ok (.iconst 0, 1) := by decide +kernel
theorem dX3_readFactor_132 : decode cX3_readFactor 132 = .ok (.ireturn, 1) := by decide +kernel
theorem dX3_readFactor_133 : decode cX3_readFactor 133 = .ok (.aload_n 0, 1) := by decide +kernel
theorem dX3_readFactor_134 : decode cX3_readFactor 134 = .ok (.invokevirtual 63, 3) := by decide +kernel
theorem dX3_readFactor_137 : decode cX3_readFactor 137 = .ok (.istore_n 3, 1) := by decide +kernel
theorem dX3_readFactor_138 : decode cX3_readFactor 138 = .ok (.aload_n 0, 1) := by decide +kernel
theorem dX3_readFactor_139 : decode cX3_readFactor 139 = .ok (.getfield 31, 3) := by decide +kernel
theorem dX3_readFactor_142 : decode cX3_readFactor 142 = .ok (.iload_n 1, 1) := by decide +kernel
theorem dX3_readFactor_143 : decode cX3_readFactor 143 = .ok (.iconst 3, 1) := by decide +kernel
theorem dX3_readFactor_144 : decode cX3_readFactor 144 = .ok (.iadd, 1) := by decide +kernel
theorem dX3_readFactor_145 : decode cX3_readFactor 145 = .ok (.aload_n 0, 1) := by decide +kernel
theorem dX3_readFactor_146 : decode cX3_readFactor 146 = .ok (.getfield 31, 3) := by decide +kernel
theorem dX3_readFactor_149 : decode cX3_readFactor 149 = .ok (.iload_n 1, 1) := by decide +kernel
theorem dX3_readFactor_150 : decode cX3_readFactor 150 = .ok (.iconst 3, 1) := by decide +kernel
theorem dX3_readFactor_151 : decode cX3_readFactor 151 = .ok (.iadd, 1) := by decide +kernel
theorem dX3_readFactor_152 : decode cX3_readFactor 152 = .ok (.iaload, 1) := by decide +kernel
theorem dX3_readFactor_153 : decode cX3_readFactor 153 = .ok (.iload_n 3, 1) := by decide +kernel
theorem dX3_readFactor_154 : decode cX3_readFactor 154 = .ok (.iadd, 1) := by decide +kernel
theorem dX3_readFactor_155 : decode cX3_readFactor 155 = .ok (.iastore, 1) := by decide +kernel
theorem dX3_readFactor_156 : decode cX3_readFactor 156 = .ok (.iconst 1, 1) := by decide +kernel
theorem dX3_readFactor_157 : decode cX3_readFactor 157 = .ok (.ireturn, 1) := by decide +kernel
theorem dX3_denominator_0 : decode cX3_denominator 0 = .ok (.aload_n 0, 1) := by decide +kernel
theorem dX3_denominator_1 : decode cX3_denominator 1 = .ok (.iconst 0, 1) := by decide +kernel
theorem dX3_denominator_2 : decode cX3_denominator 2 = .ok (.putfield 46, 3) := by decide +kernel
theorem dX3_denominator_5 : decode cX3_denominator 5 = .ok (.aload_n 0, 1) := by decide +kernel
theorem dX3_denominator_6 : decode cX3_denominator 6 = .ok (.iconst 0, 1) := by decide +kernel
theorem dX3_denominator_7 : decode cX3_denominator 7 = .ok (.putfield 52, 3) := by decide +kernel
theorem dX3_denominator_10 : decode cX3_denominator 10 = .ok (.iconst 0, 1) := by decide +kernel
theorem dX3_denominator_11 : decode cX3_denominator 11 = .ok (.istore_n 1, 1) := by decide +kernel
theorem dX3_denominator_12 : decode cX3_denominator 12 = .ok (.iload_n 1, 1) := by decide +kernel
theorem dX3_denominator_13 : decode cX3_denominator 13 = .ok (.bipush 7, 2) := by decide +kernel
theorem dX3_denominator_15 : decode cX3_denominator 15 = .ok (.if_icmp .ge 16, 3) := by decide +kernel
theorem dX3_denominator_18 : decode cX3_denominator 18 = .ok (.aload_n 0, 1) := by decide +kernel
theorem dX3_denominator_19 : decode cX3_denominator 19 = .ok (.getfield 31, 3) := by decide +kernel
theorem dX3_denominator_22 : decode cX3_denominator 22 = .ok (.iload_n 1, 1) := by decide +kernel
theorem dX3_denominator_23 : decode cX3_denominator 23 = .ok (.iconst 0, 1) := by decide +kernel
theorem dX3_denominator_24 : decode cX3_denominator 24 = .ok (.iastore, 1) := by decide +kernel
theorem dX3_denominator_25 : decode cX3_denominator 25 = .ok (.iinc 1 1, 3) := by decide +kernel
theorem dX3_denominator_28 : decode cX3_denominator 28 = .ok (.goto (-16), 3) := by decide +kernel
theorem dX3_denominator_31 : decode cX3_denominator 31 = .ok (.aload_n 0, 1) := by decide +kernel
theorem dX3_denominator_32 : decode cX3_denominator 32 = .ok (.invokevirtual 86, 3) := by decide +kernel
theorem dX3_denominator_35 : decode cX3_denominator 35 = .ok (.istore_n 1, 1) := by decide +kernel
theorem dX3_denominator_36 : decode cX3_denominator 36 = .ok (.iload_n 1, 1) := by decide +kernel
theorem dX3_denominator_37 : decode cX3_denominator 37 = .ok (.ifCond .eq 22, 3) := by decide +kernel
theorem dX3_denominator_40 : decode cX3_denominator 40 = .ok (.aload_n 0, 1) := by decide +kernel
theorem dX3_denominator_41 : decode cX3_denominator 41 = .ok (.getfield 52, 3) := by decide +kernel
theorem dX3_denominator_44 : decode cX3_denominator 44 = .ok (.aload_n 0, 1) := by decide +kernel
theorem dX3_denominator_45 : decode cX3_denominator 45 = .ok (.getfield 49, 3) := by decide +kernel
theorem dX3_denominator_48 : decode cX3_denominator 48 = .ok (.if_icmp .ge 11, 3) := by decide +kernel
theorem dX3_denominator_51 : decode cX3_denominator 51 = .ok (.aload_n 0, 1) := by decide +kernel
theorem dX3_denominator_52 : decode cX3_denominator 52 = .ok (.invokevirtual 86, 3) := by decide +kernel
theorem dX3_denominator_55 : decode cX3_denominator 55 = .ok (.istore_n 1, 1) := by decide +kernel
theorem dX3_denominator_56 : decode cX3_denominator 56 = .ok (.goto (-20), 3) := by decide +kernel
theorem dX3_denominator_59 : decode cX3_denominator 59 = .ok (.aload_n 0, 1) := by decide +kernel
theorem dX3_denominator_60 : decode cX3_denominator 60 = .ok (.iconst 0, 1) := by decide +kernel
theorem dX3_denominator_61 : decode cX3_denominator 61 = .ok (.putfield 49, 3) := by decide +kernel
theorem dX3_denominator_64 : decode cX3_denominator 64 = .ok (.iload_n 1, 1) := by decide +kernel
theorem dX3_denominator_65 : decode cX3_denominator 65 = .ok (.ifCond .ne 9, 3) := by decide +kernel
theorem dX3_denominator_68 : decode cX3_denominator 68 = .ok (.aload_n 0, 1) := by decide +kernel
theorem dX3_denominator_69 : decode cX3_denominator 69 = .ok (.iconst 1, 1) := by decide +kernel
theorem dX3_denominator_70 : decode cX3_denominator 70 = .ok (.invokevirtual 82, 3) := by decide +kernel
theorem dX3_denominator_73 : decode cX3_denominator 73 = .ok (.ireturn, 1) := by decide +kernel
theorem dX3_denominator_74 : decode cX3_denominator 74 = .ok (.iconst 0, 1) := by decide +kernel
theorem dX3_denominator_75 : decode cX3_denominator 75 = .ok (.istore_n 2, 1) := by decide +kernel
theorem dX3_denominator_76 : decode cX3_denominator 76 = .ok (.iconst 0, 1) := by decide +kernel
theorem dX3_denominator_77 : decode cX3_denominator 77 = .ok (.istore_n 3, 1) := by decide +kernel
theorem dX3_denominator_78 : decode cX3_denominator 78 = .ok (.iload_n 3, 1) := by decide +kernel
theorem dX3_denominator_79 : decode cX3_denominator 79 = .ok (.bipush 7, 2) := by decide +kernel
theorem dX3_denominator_81 : decode cX3_denominator 81 = .ok (.if_icmp .ge 18, 3) := by decide +kernel
theorem dX3_denominator_84 : decode cX3_denominator 84 = .ok (.iload_n 2, 1) := by decide +kernel
theorem dX3_denominator_85 : decode cX3_denominator 85 = .ok (.aload_n 0, 1) := by decide +kernel
theorem dX3_denominator_86 : decode cX3_denominator 86 = .ok (.getfield 31, 3) := by decide +kernel
theorem dX3_denominator_89 : decode cX3_denominator 89 = .ok (.iload_n 3, 1) := by decide +kernel
theorem dX3_denominator_90 : decode cX3_denominator 90 = .ok (.iaload, 1) := by decide +kernel
theorem dX3_denominator_91 : decode cX3_denominator 91 = .ok (.iadd, 1) := by decide +kernel
theorem dX3_denominator_92 : decode cX3_denominator 92 = .ok (.istore_n 2, 1) := by decide +kernel
theorem dX3_denominator_93 : decode cX3_denominator 93 = .ok (.iinc 3 1, 3) := by decide +kernel
theorem dX3_denominator_96 : decode cX3_denominator 96 = .ok (.goto (-18), 3) := by decide +kernel
theorem dX3_denominator_99 : decode cX3_denominator 99 = .ok (.iload_n 2, 1) := by decide +kernel
theorem dX3_denominator_100 : decode cX3_denominator 100 = .ok (.iconst 5, 1) := by decide +kernel
theorem dX3_denominator_101 : decode cX3_denominator 101 = .ok (.if_icmp .le 9, 3) := by decide +kernel
theorem dX3_denominator_104 : decode cX3_denominator 104 = .ok (.aload_n 0, 1) := by decide +kernel
theorem dX3_denominator_105 : decode cX3_denominator 105 = .ok (.iconst 2, 1) := by decide +kernel
theorem dX3_denominator_106 : decode cX3_denominator 106 = .ok (.invokevirtual 82, 3) := by decide +kernel
theorem dX3_denominator_109 : decode cX3_denominator 109 = .ok (.ireturn, 1) := by decide +kernel
theorem dX3_denominator_110 : decode cX3_denominator 110 = .ok (.aload_n 0, 1) := by decide +kernel
theorem dX3_denominator_111 : decode cX3_denominator 111 = .ok (.iload_n 2, 1) := by decide +kernel
theorem dX3_denominator_112 : decode cX3_denominator 112 = .ok (.putfield 23, 3) := by decide +kernel
theorem dX3_denominator_115 : decode cX3_denominator 115 = .ok (.iconst 0, 1) := by decide +kernel
theorem dX3_denominator_116 : decode cX3_denominator 116 = .ok (.istore_n 3, 1) := by decide +kernel
theorem dX3_denominator_117 : decode cX3_denominator 117 = .ok (.iload_n 3, 1) := by decide +kernel
theorem dX3_denominator_118 : decode cX3_denominator 118 = .ok (.bipush 6, 2) := by decide +kernel
theorem dX3_denominator_120 : decode cX3_denominator 120 = .ok (.if_icmp .ge 24, 3) := by decide +kernel
theorem dX3_denominator_123 : decode cX3_denominator 123 = .ok (.aload_n 0, 1) := by decide +kernel
theorem dX3_denominator_124 : decode cX3_denominator 124 = .ok (.getfield 17, 3) := by decide +kernel
theorem dX3_denominator_127 : decode cX3_denominator 127 = .ok (.iload_n 3, 1) := by decide +kernel
theorem dX3_denominator_128 : decode cX3_denominator 128 = .ok (.iload_n 3, 1) := by decide +kernel
theorem dX3_denominator_129 : decode cX3_denominator 129 = .ok (.ifCond .ne 7, 3) := by decide +kernel
theorem dX3_denominator_132 : decode cX3_denominator 132 = .ok (.lconst 1, 1) := by decide +kernel
theorem dX3_denominator_133 : decode cX3_denominator 133 = .ok (.goto 4, 3) := by decide +kernel
theorem dX3_denominator_136 : decode cX3_denominator 136 = .ok (.lconst 0, 1) := by decide +kernel
theorem dX3_denominator_137 : decode cX3_denominator 137 = .ok (.lastore, 1) := by decide +kernel
theorem dX3_denominator_138 : decode cX3_denominator 138 = .ok (.iinc 3 1, 3) := by decide +kernel
theorem dX3_denominator_141 : decode cX3_denominator 141 = .ok (.goto (-24), 3) := by decide +kernel
theorem dX3_denominator_144 : decode cX3_denominator 144 = .ok (.bipush (-3), 2) := by decide +kernel
theorem dX3_denominator_146 : decode cX3_denominator 146 = .ok (.istore_n 3, 1) := by decide +kernel
theorem dX3_denominator_147 : decode cX3_denominator 147 = .ok (.iload_n 3, 1) := by decide +kernel
theorem dX3_denominator_148 : decode cX3_denominator 148 = .ok (.iconst 4, 1) := by decide +kernel
theorem dX3_denominator_149 : decode cX3_denominator 149 = .ok (.if_icmp .ge 55, 3) := by decide +kernel
theorem dX3_denominator_152 : decode cX3_denominator 152 = .ok (.aload_n 0, 1) := by decide +kernel
theorem dX3_denominator_153 : decode cX3_denominator 153 = .ok (.getfield 27, 3) := by decide +kernel
theorem dX3_denominator_156 : decode cX3_denominator 156 = .ok (.iload_n 3, 1) := by decide +kernel
theorem dX3_denominator_157 : decode cX3_denominator 157 = .ok (.iconst 3, 1) := by decide +kernel
theorem dX3_denominator_158 : decode cX3_denominator 158 = .ok (.iadd, 1) := by decide +kernel
theorem dX3_denominator_159 : decode cX3_denominator 159 = .ok (.aload_n 0, 1) := by decide +kernel
theorem dX3_denominator_160 : decode cX3_denominator 160 = .ok (.getfield 31, 3) := by decide +kernel
theorem dX3_denominator_163 : decode cX3_denominator 163 = .ok (.iload_n 3, 1) := by decide +kernel
theorem dX3_denominator_164 : decode cX3_denominator 164 = .ok (.iconst 3, 1) := by decide +kernel
theorem dX3_denominator_165 : decode cX3_denominator 165 = .ok (.iadd, 1) := by decide +kernel
theorem dX3_denominator_166 : decode cX3_denominator 166 = .ok (.iaload, 1) := by decide +kernel
theorem dX3_denominator_167 : decode cX3_denominator 167 = .ok (.iastore, 1) := by decide +kernel
theorem dX3_denominator_168 : decode cX3_denominator 168 = .ok (.iconst 0, 1) := by decide +kernel
theorem dX3_denominator_169 : decode cX3_denominator 169 = .ok (.istore 4, 2) := by decide +kernel
theorem dX3_denominator_171 : decode cX3_denominator 171 = .ok (.iload 4, 2) := by decide +kernel
theorem dX3_denominator_173 : decode cX3_denominator 173 = .ok (.aload_n 0, 1) := by decide +kernel
theorem dX3_denominator_174 : decode cX3_denominator 174 = .ok (.getfield 31, 3) := by decide +kernel
theorem dX3_denominator_177 : decode cX3_denominator 177 = .ok (.iload_n 3, 1) := by decide +kernel
theorem dX3_denominator_178 : decode cX3_denominator 178 = .ok (.iconst 3, 1) := by decide +kernel
theorem dX3_denominator_179 : decode cX3_denominator 179 = .ok (.iadd, 1) := by decide +kernel
theorem dX3_denominator_180 : decode cX3_denominator 180 = .ok (.iaload, 1) := by decide +kernel
theorem dX3_denominator_181 : decode cX3_denominator 181 = .ok (.if_icmp .ge 17, 3) := by decide +kernel
theorem dX3_denominator_184 : decode cX3_denominator 184 = .ok (.aload_n 0, 1) := by decide +kernel
theorem dX3_denominator_185 : decode cX3_denominator 185 = .ok (.getfield 17, 3) := by decide +kernel
theorem dX3_denominator_188 : decode cX3_denominator 188 = .ok (.iload_n 3, 1) := by decide +kernel
theorem dX3_denominator_189 : decode cX3_denominator 189 = .ok (.invokestatic 89, 3) := by decide +kernel
theorem dX3_denominator_192 : decode cX3_denominator 192 = .ok (.iinc 4 1, 3) := by decide +kernel
theorem dX3_denominator_195 : decode cX3_denominator 195 = .ok (.goto (-24), 3) := by decide +kernel
theorem dX3_denominator_198 : decode cX3_denominator 198 = .ok (.iinc 3 1, 3) := by decide +kernel
theorem dX3_denominator_201 : decode cX3_denominator 201 = .ok (.goto (-54), 3) := by decide +kernel
theorem dX3_denominator_204 : decode cX3_denominator 204 = .ok (.iload_n 2, 1) := by decide +kernel
theorem dX3_denominator_205 : decode cX3_denominator 205 = .ok (.ireturn, 1) := by decide +kernel
theorem dX3_times_0 : decode cX3_times 0 = .ok (.iconst 5, 1) := by decide +kernel
theorem dX3_times_1 : decode cX3_times 1 = .ok (.istore_n 2, 1) := by decide +kernel
theorem dX3_times_2 : decode cX3_times 2 = .ok (.iload_n 2, 1) := by decide +kernel
theorem dX3_times_3 : decode cX3_times 3 = .ok (.ifCond .le 24, 3) := by decide +kernel
theorem dX3_times_6 : decode cX3_times 6 = .ok (.aload_n 0, 1) := by decide +kernel
theorem dX3_times_7 : decode cX3_times 7 = .ok (.iload_n 2, 1) := by decide +kernel
theorem dX3_times_8 : decode cX3_times 8 = .ok (.aload_n 0, 1) := by decide +kernel
theorem dX3_times_9 : decode cX3_times 9 = .ok (.iload_n 2, 1) := by decide +kernel
theorem dX3_times_10 : decode cX3_times 10 = .ok (.iconst 1, 1) := by decide +kernel
theorem dX3_times_11 : decode cX3_times 11 = .ok (.isub, 1) := by decide +kernel
theorem dX3_times_12 : decode cX3_times 12 = .ok (.laload, 1) := by decide +kernel
theorem dX3_times_13 : decode cX3_times 13 = .ok (.iload_n 1, 1) := by decide +kernel
theorem dX3_times_14 : decode cX3_times 14 = .ok (.i2l, 1) := by decide +kernel
theorem dX3_times_15 : decode cX3_times 15 = .ok (.aload_n 0, 1) := by decide +kernel
theorem dX3_times_16 : decode cX3_times 16 = .ok (.iload_n 2, 1) := by decide +kernel
theorem dX3_times_17 : decode cX3_times 17 = .ok (.laload, 1) := by decide +kernel
theorem dX3_times_18 : decode cX3_times 18 = .ok (.lmul, 1) := by decide +kernel
theorem dX3_times_19 : decode cX3_times 19 = .ok (.lsub, 1) := by decide +kernel
theorem dX3_times_20 : decode cX3_times 20 = .ok (.lastore, 1) := by decide +kernel
theorem dX3_times_21 : decode cX3_times 21 = .ok (.iinc 2 (-1), 3) := by decide +kernel
theorem dX3_times_24 : decode cX3_times 24 = .ok (.goto (-22), 3) := by decide +kernel
theorem dX3_times_27 : decode cX3_times 27 = .ok (.aload_n 0, 1) := by decide +kernel
theorem dX3_times_28 : decode cX3_times 28 = .ok (.iconst 0, 1) := by decide +kernel
theorem dX3_times_29 : decode cX3_times 29 = .ok (.iload_n 1, 1) := by decide +kernel
theorem dX3_times_30 : decode cX3_times 30 = .ok (.ineg, 1) := by decide +kernel
theorem dX3_times_31 : decode cX3_times 31 = .ok (.i2l, 1) := by decide +kernel
theorem dX3_times_32 : decode cX3_times 32 = .ok (.aload_n 0, 1) := by decide +kernel
theorem dX3_times_33 : decode cX3_times 33 = .ok (.iconst 0, 1) := by decide +kernel
theorem dX3_times_34 : decode cX3_times 34 = .ok (.laload, 1) := by decide +kernel
theorem dX3_times_35 : decode cX3_times 35 = .ok (.lmul, 1) := by decide +kernel
theorem dX3_times_36 : decode cX3_times 36 = .ok (.lastore, 1) := by decide +kernel
theorem dX3_times_37 : decode cX3_times 37 = .ok (.return_, 1) := by decide +kernel
theorem dX3_divide_0 : decode cX3_divide 0 = .ok (.iconst 0, 1) := by decide +kernel
theorem dX3_divide_1 : decode cX3_divide 1 = .ok (.istore_n 1, 1) := by decide +kernel
theorem dX3_divide_2 : decode cX3_divide 2 = .ok (.iload_n 1, 1) := by decide +kernel
theorem dX3_divide_3 : decode cX3_divide 3 = .ok (.bipush 7, 2) := by decide +kernel
theorem dX3_divide_5 : decode cX3_divide 5 = .ok (.if_icmp .ge 28, 3) := by decide +kernel
theorem dX3_divide_8 : decode cX3_divide 8 = .ok (.aload_n 0, 1) := by decide +kernel
theorem dX3_divide_9 : decode cX3_divide 9 = .ok (.getfield 34, 3) := by decide +kernel
theorem dX3_divide_12 : decode cX3_divide 12 = .ok (.iload_n 1, 1) := by decide +kernel
theorem dX3_divide_13 : decode cX3_divide 13 = .ok (.aload_n 0, 1) := by decide +kernel
theorem dX3_divide_14 : decode cX3_divide 14 = .ok (.getfield 13, 3) := by decide +kernel
theorem dX3_divide_17 : decode cX3_divide 17 = .ok (.iload_n 1, 1) := by decide +kernel
theorem dX3_divide_18 : decode cX3_divide 18 = .ok (.laload, 1) := by decide +kernel
theorem dX3_divide_19 : decode cX3_divide 19 = .ok (.lastore, 1) := by decide +kernel
theorem dX3_divide_20 : decode cX3_divide 20 = .ok (.aload_n 0, 1) := by decide +kernel
theorem dX3_divide_21 : decode cX3_divide 21 = .ok (.getfield 20, 3) := by decide +kernel
theorem dX3_divide_24 : decode cX3_divide 24 = .ok (.iload_n 1, 1) := by decide +kernel
theorem dX3_divide_25 : decode cX3_divide 25 = .ok (.lconst 0, 1) := by decide +kernel
theorem dX3_divide_26 : decode cX3_divide 26 = .ok (.lastore, 1) := by decide +kernel
theorem dX3_divide_27 : decode cX3_divide 27 = .ok (.iinc 1 1, 3) := by decide +kernel
theorem dX3_divide_30 : decode cX3_divide 30 = .ok (.goto (-28), 3) := by decide +kernel
theorem dX3_divide_33 : decode cX3_divide 33 = .ok (.bipush 6, 2) := by decide +kernel
theorem dX3_divide_35 : decode cX3_divide 35 = .ok (.istore_n 1, 1) := by decide +kernel
theorem dX3_divide_36 : decode cX3_divide 36 = .ok (.iload_n 1, 1) := by decide +kernel
theorem dX3_divide_37 : decode cX3_divide 37 = .ok (.aload_n 0, 1) := by decide +kernel
theorem dX3_divide_38 : decode cX3_divide 38 = .ok (.getfield 23, 3) := by decide +kernel
theorem dX3_divide_41 : decode cX3_divide 41 = .ok (.if_icmp .lt 84, 3) := by decide +kernel
theorem dX3_divide_44 : decode cX3_divide 44 = .ok (.aload_n 0, 1) := by decide +kernel
theorem dX3_divide_45 : decode cX3_divide 45 = .ok (.getfield 34, 3) := by decide +kernel
theorem dX3_divide_48 : decode cX3_divide 48 = .ok (.iload_n 1, 1) := by decide +kernel
theorem dX3_divide_49 : decode cX3_divide 49 = .ok (.laload, 1) := by decide +kernel
theorem dX3_divide_50 : decode cX3_divide 50 = .ok (.lstore_n 2, 1) := by decide +kernel
theorem dX3_divide_51 : decode cX3_divide 51 = .ok (.aload_n 0, 1) := by decide +kernel
theorem dX3_divide_52 : decode cX3_divide 52 = .ok (.getfield 20, 3) := by decide +kernel
theorem dX3_divide_55 : decode cX3_divide 55 = .ok (.iload_n 1, 1) := by decide +kernel
theorem dX3_divide_56 : decode cX3_divide 56 = .ok (.aload_n 0, 1) := by decide +kernel
theorem dX3_divide_57 : decode cX3_divide 57 = .ok (.getfield 23, 3) := by decide +kernel
theorem dX3_divide_60 : decode cX3_divide 60 = .ok (.isub, 1) := by decide +kernel
theorem dX3_divide_61 : decode cX3_divide 61 = .ok (.lload_n 2, 1) := by decide +kernel
theorem dX3_divide_62 : decode cX3_divide 62 = .ok (.lastore, 1) := by decide +kernel
theorem dX3_divide_63 : decode cX3_divide 63 = .ok (.iconst 0, 1) := by decide +kernel
theorem dX3_divide_64 : decode cX3_divide 64 = .ok (.istore 4, 2) := by decide +kernel
theorem dX3_divide_66 : decode cX3_divide 66 = .ok (.iload 4, 2) := by decide +kernel
theorem dX3_divide_68 : decode cX3_divide 68 = .ok (.aload_n 0, 1) := by decide +kernel
theorem dX3_divide_69 : decode cX3_divide 69 = .ok (.getfield 23, 3) := by decide +kernel
theorem dX3_divide_72 : decode cX3_divide 72 = .ok (.if_icmp .gt 47, 3) := by decide +kernel
theorem dX3_divide_75 : decode cX3_divide 75 = .ok (.aload_n 0, 1) := by decide +kernel
theorem dX3_divide_76 : decode cX3_divide 76 = .ok (.getfield 34, 3) := by decide +kernel
theorem dX3_divide_79 : decode cX3_divide 79 = .ok (.iload_n 1, 1) := by decide +kernel
theorem dX3_divide_80 : decode cX3_divide 80 = .ok (.aload_n 0, 1) := by decide +kernel
theorem dX3_divide_81 : decode cX3_divide 81 = .ok (.getfield 23, 3) := by decide +kernel
theorem dX3_divide_84 : decode cX3_divide 84 = .ok (.isub, 1) := by decide +kernel
theorem dX3_divide_85 : decode cX3_divide 85 = .ok (.iload 4, 2) := by decide +kernel
theorem dX3_divide_87 : decode cX3_divide 87 = .ok (.iadd, 1) := by decide +kernel
theorem dX3_divide_88 : decode cX3_divide 88 = .ok (.aload_n 0, 1) := by decide +kernel
theorem dX3_divide_89 : decode cX3_divide 89 = .ok (.getfield 34, 3) := by decide +kernel
theorem dX3_divide_92 : decode cX3_divide 92 = .ok (.iload_n 1, 1) := by decide +kernel
theorem dX3_divide_93 : decode cX3_divide 93 = .ok (.aload_n 0, 1) := by decide +kernel
theorem dX3_divide_94 : decode cX3_divide 94 = .ok (.getfield 23, 3) := by decide +kernel
theorem dX3_divide_97 : decode cX3_divide 97 = .ok (.isub, 1) := by decide +kernel
theorem dX3_divide_98 : decode cX3_divide 98 = .ok (.iload 4, 2) := by decide +kernel
theorem dX3_divide_100 : decode cX3_divide 100 = .ok (.iadd, 1) := by decide +kernel
theorem dX3_divide_101 : decode cX3_divide 101 = .ok (.laload, 1) := by decide +kernel
theorem dX3_divide_102 : decode cX3_divide 102 = .ok (.lload_n 2, 1) := by decide +kernel
theorem dX3_divide_103 : decode cX3_divide 103 = .ok (.aload_n 0, 1) := by decide +kernel
theorem dX3_divide_104 : decode cX3_divide 104 = .ok (.getfield 17, 3) := by decide +kernel
theorem dX3_divide_107 : decode cX3_divide 107 = .ok (.iload 4, 2) := by decide +kernel
theorem dX3_divide_109 : decode cX3_divide 109 = .ok (.laload, 1) := by decide +kernel
theorem dX3_divide_110 : decode cX3_divide 110 = .ok (.lmul, 1) := by decide +kernel
theorem dX3_divide_111 : decode cX3_divide 111 = .ok (.lsub, 1) := by decide +kernel
theorem dX3_divide_112 : decode cX3_divide 112 = .ok (.lastore, 1) := by decide +kernel
theorem dX3_divide_113 : decode cX3_divide 113 = .ok (.iinc 4 1, 3) := by decide +kernel
theorem dX3_divide_116 : decode cX3_divide 116 = .ok (.goto (-50), 3) := by decide +kernel
theorem dX3_divide_119 : decode cX3_divide 119 = .ok (.iinc 1 (-1), 3) := by decide +kernel
theorem dX3_divide_122 : decode cX3_divide 122 = .ok (.goto (-86), 3) := by decide +kernel
theorem dX3_divide_125 : decode cX3_divide 125 = .ok (.return_, 1) := by decide +kernel
theorem dX3_coefficient_0 : decode cX3_coefficient 0 = .ok (.aload_n 0, 1) := by decide +kernel
theorem dX3_coefficient_1 : decode cX3_coefficient 1 = .ok (.iconst 0, 1) := by decide +kernel
theorem dX3_coefficient_2 : decode cX3_coefficient 2 = .ok (.putfield 46, 3) := by decide +kernel
theorem dX3_coefficient_5 : decode cX3_coefficient 5 = .ok (.iload_n 1, 1) := by decide +kernel
theorem dX3_coefficient_6 : decode cX3_coefficient 6 = .ok (.ifCond .lt 28, 3) := by decide +kernel
theorem dX3_coefficient_9 : decode cX3_coefficient 9 = .ok (.iload_n 1, 1) := by decide +kernel
theorem dX3_coefficient_10 : decode cX3_coefficient 10 = .ok (.iconst 2, 1) := by decide +kernel
theorem dX3_coefficient_11 : decode cX3_coefficient 11 = .ok (.if_icmp .gt 23, 3) := by decide +kernel
theorem dX3_coefficient_14 : decode cX3_coefficient 14 = .ok (.iload_n 2, 1) := by decide +kernel
theorem dX3_coefficient_15 : decode cX3_coefficient 15 = .ok (.ifCond .lt 19, 3) := by decide +kernel
theorem dX3_coefficient_18 : decode cX3_coefficient 18 = .ok (.iload_n 2, 1) := by decide +kernel
theorem dX3_coefficient_19 : decode cX3_coefficient 19 = .ok (.bipush 6, 2) := by decide +kernel
theorem dX3_coefficient_21 : decode cX3_coefficient 21 = .ok (.if_icmp .gt 13, 3) := by decide +kernel
theorem dX3_coefficient_24 : decode cX3_coefficient 24 = .ok (.iload_n 1, 1) := by decide +kernel
theorem dX3_coefficient_25 : decode cX3_coefficient 25 = .ok (.iconst 1, 1) := by decide +kernel
theorem dX3_coefficient_26 : decode cX3_coefficient 26 = .ok (.if_icmp .ne 10, 3) := by decide +kernel
theorem dX3_coefficient_29 : decode cX3_coefficient 29 = .ok (.iload_n 2, 1) := by decide +kernel
theorem dX3_coefficient_30 : decode cX3_coefficient 30 = .ok (.iconst 5, 1) := by decide +kernel
theorem dX3_coefficient_31 : decode cX3_coefficient 31 = .ok (.if_icmp .le 5, 3) := by decide +kernel
theorem dX3_coefficient_34 : decode cX3_coefficient 34 = .ok (.lconst 0, 1) := by decide +kernel
theorem dX3_coefficient_35 : decode cX3_coefficient 35 = .ok (.lreturn, 1) := by decide +kernel
theorem dX3_coefficient_36 : decode cX3_coefficient 36 = .ok (.aload_n 0, 1) := by decide +kernel
theorem dX3_coefficient_37 : decode cX3_coefficient 37 = .ok (.invokevirtual 93, 3) := by decide +kernel
theorem dX3_coefficient_40 : decode cX3_coefficient 40 = .ok (.iload_n 1, 1) := by decide +kernel
theorem dX3_coefficient_41 : decode cX3_coefficient 41 = .ok (.ifCond .ne 12, 3) := by decide +kernel
theorem dX3_coefficient_44 : decode cX3_coefficient 44 = .ok (.aload_n 0, 1) := by decide +kernel
theorem dX3_coefficient_45 : decode cX3_coefficient 45 = .ok (.getfield 13, 3) := by decide +kernel
theorem dX3_coefficient_48 : decode cX3_coefficient 48 = .ok (.iload_n 2, 1) := by decide +kernel
theorem dX3_coefficient_49 : decode cX3_coefficient 49 = .ok (.laload, 1) := by decide +kernel
theorem dX3_coefficient_50 : decode cX3_coefficient 50 = .ok (.goto 23, 3) := by decide +kernel
theorem dX3_coefficient_53 : decode cX3_coefficient 53 = .ok (.iload_n 1, 1) := by decide +kernel
theorem dX3_coefficient_54 : decode cX3_coefficient 54 = .ok (.iconst 1, 1) := by decide +kernel
theorem dX3_coefficient_55 : decode cX3_coefficient 55 = .ok (.if_icmp .ne 12, 3) := by decide +kernel
theorem dX3_coefficient_58 : decode cX3_coefficient 58 = .ok (.aload_n 0, 1) := by decide +kernel
theorem dX3_coefficient_59 : decode cX3_coefficient 59 = .ok (.getfield 17, 3) := by decide +kernel
theorem dX3_coefficient_62 : decode cX3_coefficient 62 = .ok (.iload_n 2, 1) := by decide +kernel
theorem dX3_coefficient_63 : decode cX3_coefficient 63 = .ok (.laload, 1) := by decide +kernel
theorem dX3_coefficient_64 : decode cX3_coefficient 64 = .ok (.goto 9, 3) := by decide +kernel
theorem dX3_coefficient_67 : decode cX3_coefficient 67 = .ok (.aload_n 0, 1) := by decide +kernel
theorem dX3_coefficient_68 : decode cX3_coefficient 68 = .ok (.getfield 20, 3) := by decide +kernel
theorem dX3_coefficient_71 : decode cX3_coefficient 71 = .ok (.iload_n 2, 1) := by decide +kernel
theorem dX3_coefficient_72 : decode cX3_coefficient 72 = .ok (.laload, 1) := by decide +kernel
theorem dX3_coefficient_73 : decode cX3_coefficient 73 = .ok (.lreturn, 1) := by decide +kernel
theorem dX3_many_0 : decode cX3_many 0 = .ok (.aload_n 0, 1) := by decide +kernel
theorem dX3_many_1 : decode cX3_many 1 = .ok (.iconst 0, 1) := by decide +kernel
theorem dX3_many_2 : decode cX3_many 2 = .ok (.putfield 46, 3) := by decide +kernel
theorem dX3_many_5 : decode cX3_many 5 = .ok (.iload_n 1, 1) := by decide +kernel
theorem dX3_many_6 : decode cX3_many 6 = .ok (.bipush (-3), 2) := by decide +kernel
theorem dX3_many_8 : decode cX3_many 8 = .ok (.if_icmp .lt 19, 3) := by decide +kernel
theorem dX3_many_11 : decode cX3_many 11 = .ok (.iload_n 1, 1) := by decide +kernel
theorem dX3_many_12 : decode cX3_many 12 = .ok (.iconst 3, 1) := by decide +kernel
theorem dX3_many_13 : decode cX3_many 13 = .ok (.if_icmp .gt 14, 3) := by decide +kernel
theorem dX3_many_16 : decode cX3_many 16 = .ok (.aload_n 0, 1) := by decide +kernel
theorem dX3_many_17 : decode cX3_many 17 = .ok (.getfield 27, 3) := by decide +kernel
theorem dX3_many_20 : decode cX3_many 20 = .ok (.iload_n 1, 1) := by decide +kernel
theorem dX3_many_21 : decode cX3_many 21 = .ok (.iconst 3, 1) := by decide +kernel
theorem dX3_many_22 : decode cX3_many 22 = .ok (.iadd, 1) := by decide +kernel
theorem dX3_many_23 : decode cX3_many 23 = .ok (.iaload, 1) := by decide +kernel
theorem dX3_many_24 : decode cX3_many 24 = .ok (.goto 4, 3) := by decide +kernel
theorem dX3_many_27 : decode cX3_many 27 = .ok (.iconst 0, 1) := by decide +kernel
theorem dX3_many_28 : decode cX3_many 28 = .ok (.ireturn, 1) := by decide +kernel
theorem dX3_around_0 : decode cX3_around 0 = .ok (.iconst 0, 1) := by decide +kernel
theorem dX3_around_1 : decode cX3_around 1 = .ok (.istore_n 2, 1) := by decide +kernel
theorem dX3_around_2 : decode cX3_around 2 = .ok (.iload_n 2, 1) := by decide +kernel
theorem dX3_around_3 : decode cX3_around 3 = .ok (.bipush 7, 2) := by decide +kernel
theorem dX3_around_5 : decode cX3_around 5 = .ok (.if_icmp .ge 21, 3) := by decide +kernel
theorem dX3_around_8 : decode cX3_around 8 = .ok (.aload_n 0, 1) := by decide +kernel
theorem dX3_around_9 : decode cX3_around 9 = .ok (.getfield 34, 3) := by decide +kernel
theorem dX3_around_12 : decode cX3_around 12 = .ok (.iload_n 2, 1) := by decide +kernel
theorem dX3_around_13 : decode cX3_around 13 = .ok (.aload_n 0, 1) := by decide +kernel
theorem dX3_around_14 : decode cX3_around 14 = .ok (.getfield 13, 3) := by decide +kernel
theorem dX3_around_17 : decode cX3_around 17 = .ok (.iload_n 2, 1) := by decide +kernel
theorem dX3_around_18 : decode cX3_around 18 = .ok (.laload, 1) := by decide +kernel
theorem dX3_around_19 : decode cX3_around 19 = .ok (.lastore, 1) := by decide +kernel
theorem dX3_around_20 : decode cX3_around 20 = .ok (.iinc 2 1, 3) := by decide +kernel
theorem dX3_around_23 : decode cX3_around 23 = .ok (.goto (-21), 3) := by decide +kernel
theorem dX3_around_26 : decode cX3_around 26 = .ok (.iconst 0, 1) := by decide +kernel
theorem dX3_around_27 : decode cX3_around 27 = .ok (.istore_n 2, 1) := by decide +kernel
theorem dX3_around_28 : decode cX3_around 28 = .ok (.iload_n 2, 1) := by decide +kernel
theorem dX3_around_29 : decode cX3_around 29 = .ok (.bipush 6, 2) := by decide +kernel
theorem dX3_around_31 : decode cX3_around 31 = .ok (.if_icmp .ge 46, 3) := by decide +kernel
theorem dX3_around_34 : decode cX3_around 34 = .ok (.iconst 5, 1) := by decide +kernel
theorem dX3_around_35 : decode cX3_around 35 = .ok (.istore_n 3, 1) := by decide +kernel
theorem dX3_around_36 : decode cX3_around 36 = .ok (.iload_n 3, 1) := by decide +kernel
theorem dX3_around_37 : decode cX3_around 37 = .ok (.iload_n 2, 1) := by decide +kernel
theorem dX3_around_38 : decode cX3_around 38 = .ok (.if_icmp .lt 33, 3) := by decide +kernel
theorem dX3_around_41 : decode cX3_around 41 = .ok (.aload_n 0, 1) := by decide +kernel
theorem dX3_around_42 : decode cX3_around 42 = .ok (.getfield 34, 3) := by decide +kernel
theorem dX3_around_45 : decode cX3_around 45 = .ok (.iload_n 3, 1) := by decide +kernel
theorem dX3_around_46 : decode cX3_around 46 = .ok (.aload_n 0, 1) := by decide +kernel
theorem dX3_around_47 : decode cX3_around 47 = .ok (.getfield 34, 3) := by decide +kernel
theorem dX3_around_50 : decode cX3_around 50 = .ok (.iload_n 3, 1) := by decide +kernel
theorem dX3_around_51 : decode cX3_around 51 = .ok (.laload, 1) := by decide +kernel
theorem dX3_around_52 : decode cX3_around 52 = .ok (.iload_n 1, 1) := by decide +kernel
theorem dX3_around_53 : decode cX3_around 53 = .ok (.i2l, 1) := by decide +kernel
theorem dX3_around_54 : decode cX3_around 54 = .ok (.aload_n 0, 1) := by decide +kernel
theorem dX3_around_55 : decode cX3_around 55 = .ok (.getfield 34, 3) := by decide +kernel
theorem dX3_around_58 : decode cX3_around 58 = .ok (.iload_n 3, 1) := by decide +kernel
theorem dX3_around_59 : decode cX3_around 59 = .ok (.iconst 1, 1) := by decide +kernel
theorem dX3_around_60 : decode cX3_around 60 = .ok (.iadd, 1) := by decide +kernel
theorem dX3_around_61 : decode cX3_around 61 = .ok (.laload, 1) := by decide +kernel
theorem dX3_around_62 : decode cX3_around 62 = .ok (.lmul, 1) := by decide +kernel
theorem dX3_around_63 : decode cX3_around 63 = .ok (.ladd, 1) := by decide +kernel
theorem dX3_around_64 : decode cX3_around 64 = .ok (.lastore, 1) := by decide +kernel
theorem dX3_around_65 : decode cX3_around 65 = .ok (.iinc 3 (-1), 3) := by decide +kernel
theorem dX3_around_68 : decode cX3_around 68 = .ok (.goto (-32), 3) := by decide +kernel
theorem dX3_around_71 : decode cX3_around 71 = .ok (.iinc 2 1, 3) := by decide +kernel
theorem dX3_around_74 : decode cX3_around 74 = .ok (.goto (-46), 3) := by decide +kernel
theorem dX3_around_77 : decode cX3_around 77 = .ok (.iconst 0, 1) := by decide +kernel
theorem dX3_around_78 : decode cX3_around 78 = .ok (.istore_n 2, 1) := by decide +kernel
theorem dX3_around_79 : decode cX3_around 79 = .ok (.iload_n 2, 1) := by decide +kernel
theorem dX3_around_80 : decode cX3_around 80 = .ok (.bipush 6, 2) := by decide +kernel
theorem dX3_around_82 : decode cX3_around 82 = .ok (.if_icmp .ge 24, 3) := by decide +kernel
theorem dX3_around_85 : decode cX3_around 85 = .ok (.aload_n 0, 1) := by decide +kernel
theorem dX3_around_86 : decode cX3_around 86 = .ok (.getfield 37, 3) := by decide +kernel
theorem dX3_around_89 : decode cX3_around 89 = .ok (.iload_n 2, 1) := by decide +kernel
theorem dX3_around_90 : decode cX3_around 90 = .ok (.iload_n 2, 1) := by decide +kernel
theorem dX3_around_91 : decode cX3_around 91 = .ok (.ifCond .ne 7, 3) := by decide +kernel
theorem dX3_around_94 : decode cX3_around 94 = .ok (.lconst 1, 1) := by decide +kernel
theorem dX3_around_95 : decode cX3_around 95 = .ok (.goto 4, 3) := by decide +kernel
theorem dX3_around_98 : decode cX3_around 98 = .ok (.lconst 0, 1) := by decide +kernel
theorem dX3_around_99 : decode cX3_around 99 = .ok (.lastore, 1) := by decide +kernel
theorem dX3_around_100 : decode cX3_around 100 = .ok (.iinc 2 1, 3) := by decide +kernel
theorem dX3_around_103 : decode cX3_around 103 = .ok (.goto (-24), 3) := by decide +kernel
theorem dX3_around_106 : decode cX3_around 106 = .ok (.bipush (-3), 2) := by decide +kernel
theorem dX3_around_108 : decode cX3_around 108 = .ok (.istore_n 2, 1) := by decide +kernel
theorem dX3_around_109 : decode cX3_around 109 = .ok (.iload_n 2, 1) := by decide +kernel
theorem dX3_around_110 : decode cX3_around 110 = .ok (.iconst 4, 1) := by decide +kernel
theorem dX3_around_111 : decode cX3_around 111 = .ok (.if_icmp .ge 44, 3) := by decide +kernel
theorem dX3_around_114 : decode cX3_around 114 = .ok (.iconst 0, 1) := by decide +kernel
theorem dX3_around_115 : decode cX3_around 115 = .ok (.istore_n 3, 1) := by decide +kernel
theorem dX3_around_116 : decode cX3_around 116 = .ok (.iload_n 3, 1) := by decide +kernel
theorem dX3_around_117 : decode cX3_around 117 = .ok (.aload_n 0, 1) := by decide +kernel
theorem dX3_around_118 : decode cX3_around 118 = .ok (.getfield 27, 3) := by decide +kernel
theorem dX3_around_121 : decode cX3_around 121 = .ok (.iload_n 2, 1) := by decide +kernel
theorem dX3_around_122 : decode cX3_around 122 = .ok (.iconst 3, 1) := by decide +kernel
theorem dX3_around_123 : decode cX3_around 123 = .ok (.iadd, 1) := by decide +kernel
theorem dX3_around_124 : decode cX3_around 124 = .ok (.iaload, 1) := by decide +kernel
theorem dX3_around_125 : decode cX3_around 125 = .ok (.if_icmp .ge 24, 3) := by decide +kernel
theorem dX3_around_128 : decode cX3_around 128 = .ok (.iload_n 2, 1) := by decide +kernel
theorem dX3_around_129 : decode cX3_around 129 = .ok (.iload_n 1, 1) := by decide +kernel
theorem dX3_around_130 : decode cX3_around 130 = .ok (.if_icmp .eq 19, 3) := by decide +kernel
theorem dX3_around_133 : decode cX3_around 133 = .ok (.aload_n 0, 1) := by decide +kernel
theorem dX3_around_134 : decode cX3_around 134 = .ok (.getfield 37, 3) := by decide +kernel
theorem dX3_around_137 : decode cX3_around 137 = .ok (.iload_n 2, 1) := by decide +kernel
theorem dX3_around_138 : decode cX3_around 138 = .ok (.iload_n 1, 1) := by decide +kernel
theorem dX3_around_139 : decode cX3_around 139 = .ok (.isub, 1) := by decide +kernel
theorem dX3_around_140 : decode cX3_around 140 = .ok (.invokestatic 89, 3) := by decide +kernel
theorem dX3_around_143 : decode cX3_around 143 = .ok (.iinc 3 1, 3) := by decide +kernel
theorem dX3_around_146 : decode cX3_around 146 = .ok (.goto (-30), 3) := by decide +kernel
theorem dX3_around_149 : decode cX3_around 149 = .ok (.iinc 2 1, 3) := by decide +kernel
theorem dX3_around_152 : decode cX3_around 152 = .ok (.goto (-43), 3) := by decide +kernel
theorem dX3_around_155 : decode cX3_around 155 = .ok (.return_, 1) := by decide +kernel
theorem dX3_tell_0 : decode cX3_tell 0 = .ok (.lload_n 1, 1) := by decide +kernel
theorem dX3_tell_1 : decode cX3_tell 1 = .ok (.lconst 0, 1) := by decide +kernel
theorem dX3_tell_2 : decode cX3_tell 2 = .ok (.lcmp, 1) := by decide +kernel
theorem dX3_tell_3 : decode cX3_tell 3 = .ok (.ifCond .ge 8, 3) := by decide +kernel
theorem dX3_tell_6 : decode cX3_tell 6 = .ok (.lload_n 1, 1) := by decide +kernel
theorem dX3_tell_7 : decode cX3_tell 7 = .ok (.lneg, 1) := by decide +kernel
theorem dX3_tell_8 : decode cX3_tell 8 = .ok (.goto 4, 3) := by decide +kernel
theorem dX3_tell_11 : decode cX3_tell 11 = .ok (.lload_n 1, 1) := by decide +kernel
theorem dX3_tell_12 : decode cX3_tell 12 = .ok (.lstore 5, 2) := by decide +kernel
theorem dX3_tell_14 : decode cX3_tell 14 = .ok (.lload_n 3, 1) := by decide +kernel
theorem dX3_tell_15 : decode cX3_tell 15 = .ok (.lconst 0, 1) := by decide +kernel
theorem dX3_tell_16 : decode cX3_tell 16 = .ok (.lcmp, 1) := by decide +kernel
theorem dX3_tell_17 : decode cX3_tell 17 = .ok (.ifCond .ge 8, 3) := by decide +kernel
theorem dX3_tell_20 : decode cX3_tell 20 = .ok (.lload_n 3, 1) := by decide +kernel
theorem dX3_tell_21 : decode cX3_tell 21 = .ok (.lneg, 1) := by decide +kernel
theorem dX3_tell_22 : decode cX3_tell 22 = .ok (.goto 4, 3) := by decide +kernel
theorem dX3_tell_25 : decode cX3_tell 25 = .ok (.lload_n 3, 1) := by decide +kernel
theorem dX3_tell_26 : decode cX3_tell 26 = .ok (.lstore 7, 2) := by decide +kernel
theorem dX3_tell_28 : decode cX3_tell 28 = .ok (.lload 7, 2) := by decide +kernel
theorem dX3_tell_30 : decode cX3_tell 30 = .ok (.lconst 0, 1) := by decide +kernel
theorem dX3_tell_31 : decode cX3_tell 31 = .ok (.lcmp, 1) := by decide +kernel
theorem dX3_tell_32 : decode cX3_tell 32 = .ok (.ifCond .eq 21, 3) := by decide +kernel
theorem dX3_tell_35 : decode cX3_tell 35 = .ok (.lload 5, 2) := by decide +kernel
theorem dX3_tell_37 : decode cX3_tell 37 = .ok (.lload 7, 2) := by decide +kernel
theorem dX3_tell_39 : decode cX3_tell 39 = .ok (.lrem, 1) := by decide +kernel
theorem dX3_tell_40 : decode cX3_tell 40 = .ok (.lstore 9, 2) := by decide +kernel
theorem dX3_tell_42 : decode cX3_tell 42 = .ok (.lload 7, 2) := by decide +kernel
theorem dX3_tell_44 : decode cX3_tell 44 = .ok (.lstore 5, 2) := by decide +kernel
theorem dX3_tell_46 : decode cX3_tell 46 = .ok (.lload 9, 2) := by decide +kernel
theorem dX3_tell_48 : decode cX3_tell 48 = .ok (.lstore 7, 2) := by decide +kernel
theorem dX3_tell_50 : decode cX3_tell 50 = .ok (.goto (-22), 3) := by decide +kernel
theorem dX3_tell_53 : decode cX3_tell 53 = .ok (.aload_n 0, 1) := by decide +kernel
theorem dX3_tell_54 : decode cX3_tell 54 = .ok (.lload_n 3, 1) := by decide +kernel
theorem dX3_tell_55 : decode cX3_tell 55 = .ok (.lconst 0, 1) := by decide +kernel
theorem dX3_tell_56 : decode cX3_tell 56 = .ok (.lcmp, 1) := by decide +kernel
theorem dX3_tell_57 : decode cX3_tell 57 = .ok (.ifCond .ge 11, 3) := by decide +kernel
theorem dX3_tell_60 : decode cX3_tell 60 = .ok (.lload_n 1, 1) := by decide +kernel
theorem dX3_tell_61 : decode cX3_tell 61 = .ok (.lneg, 1) := by decide +kernel
theorem dX3_tell_62 : decode cX3_tell 62 = .ok (.lload 5, 2) := by decide +kernel
theorem dX3_tell_64 : decode cX3_tell 64 = .ok (.ldiv, 1) := by decide +kernel
theorem dX3_tell_65 : decode cX3_tell 65 = .ok (.goto 7, 3) := by decide +kernel
theorem dX3_tell_68 : decode cX3_tell 68 = .ok (.lload_n 1, 1) := by decide +kernel
theorem dX3_tell_69 : decode cX3_tell 69 = .ok (.lload 5, 2) := by decide +kernel
theorem dX3_tell_71 : decode cX3_tell 71 = .ok (.ldiv, 1) := by decide +kernel
theorem dX3_tell_72 : decode cX3_tell 72 = .ok (.putfield 96, 3) := by decide +kernel
theorem dX3_tell_75 : decode cX3_tell 75 = .ok (.aload_n 0, 1) := by decide +kernel
theorem dX3_tell_76 : decode cX3_tell 76 = .ok (.lload_n 3, 1) := by decide +kernel
theorem dX3_tell_77 : decode cX3_tell 77 = .ok (.lconst 0, 1) := by decide +kernel
theorem dX3_tell_78 : decode cX3_tell 78 = .ok (.lcmp, 1) := by decide +kernel
theorem dX3_tell_79 : decode cX3_tell 79 = .ok (.ifCond .ge 8, 3) := by decide +kernel
theorem dX3_tell_82 : decode cX3_tell 82 = .ok (.lload_n 3, 1) := by decide +kernel
theorem dX3_tell_83 : decode cX3_tell 83 = .ok (.lneg, 1) := by decide +kernel
theorem dX3_tell_84 : decode cX3_tell 84 = .ok (.goto 4, 3) := by decide +kernel
theorem dX3_tell_87 : decode cX3_tell 87 = .ok (.lload_n 3, 1) := by decide +kernel
theorem dX3_tell_88 : decode cX3_tell 88 = .ok (.lload 5, 2) := by decide +kernel
theorem dX3_tell_90 : decode cX3_tell 90 = .ok (.ldiv, 1) := by decide +kernel
theorem dX3_tell_91 : decode cX3_tell 91 = .ok (.putfield 100, 3) := by decide +kernel
theorem dX3_tell_94 : decode cX3_tell 94 = .ok (.return_, 1) := by decide +kernel
theorem dX3_work_0 : decode cX3_work 0 = .ok (.aload_n 0, 1) := by decide +kernel
theorem dX3_work_1 : decode cX3_work 1 = .ok (.iload_n 1, 1) := by decide +kernel
theorem dX3_work_2 : decode cX3_work 2 = .ok (.invokevirtual 103, 3) := by decide +kernel
theorem dX3_work_5 : decode cX3_work 5 = .ok (.aload_n 0, 1) := by decide +kernel
theorem dX3_work_6 : decode cX3_work 6 = .ok (.getfield 27, 3) := by decide +kernel
theorem dX3_work_9 : decode cX3_work 9 = .ok (.iload_n 1, 1) := by decide +kernel
theorem dX3_work_10 : decode cX3_work 10 = .ok (.iconst 3, 1) := by decide +kernel
theorem dX3_work_11 : decode cX3_work 11 = .ok (.iadd, 1) := by decide +kernel
theorem dX3_work_12 : decode cX3_work 12 = .ok (.iaload, 1) := by decide +kernel
theorem dX3_work_13 : decode cX3_work 13 = .ok (.iload_n 2, 1) := by decide +kernel
theorem dX3_work_14 : decode cX3_work 14 = .ok (.isub, 1) := by decide +kernel
theorem dX3_work_15 : decode cX3_work 15 = .ok (.istore_n 3, 1) := by decide +kernel
theorem dX3_work_16 : decode cX3_work 16 = .ok (.iconst 0, 1) := by decide +kernel
theorem dX3_work_17 : decode cX3_work 17 = .ok (.istore 4, 2) := by decide +kernel
theorem dX3_work_19 : decode cX3_work 19 = .ok (.iload 4, 2) := by decide +kernel
theorem dX3_work_21 : decode cX3_work 21 = .ok (.iload_n 3, 1) := by decide +kernel
theorem dX3_work_22 : decode cX3_work 22 = .ok (.if_icmp .gt 124, 3) := by decide +kernel
theorem dX3_work_25 : decode cX3_work 25 = .ok (.aload_n 0, 1) := by decide +kernel
theorem dX3_work_26 : decode cX3_work 26 = .ok (.getfield 34, 3) := by decide +kernel
theorem dX3_work_29 : decode cX3_work 29 = .ok (.iload 4, 2) := by decide +kernel
theorem dX3_work_31 : decode cX3_work 31 = .ok (.laload, 1) := by decide +kernel
theorem dX3_work_32 : decode cX3_work 32 = .ok (.lstore 5, 2) := by decide +kernel
theorem dX3_work_34 : decode cX3_work 34 = .ok (.iconst 0, 1) := by decide +kernel
theorem dX3_work_35 : decode cX3_work 35 = .ok (.istore 7, 2) := by decide +kernel
theorem dX3_work_37 : decode cX3_work 37 = .ok (.iload 7, 2) := by decide +kernel
theorem dX3_work_39 : decode cX3_work 39 = .ok (.iload 4, 2) := by decide +kernel
theorem dX3_work_41 : decode cX3_work 41 = .ok (.if_icmp .ge 20, 3) := by decide +kernel
theorem dX3_work_44 : decode cX3_work 44 = .ok (.lload 5, 2) := by decide +kernel
theorem dX3_work_46 : decode cX3_work 46 = .ok (.aload_n 0, 1) := by decide +kernel
theorem dX3_work_47 : decode cX3_work 47 = .ok (.getfield 37, 3) := by decide +kernel
theorem dX3_work_50 : decode cX3_work 50 = .ok (.iconst 0, 1) := by decide +kernel
theorem dX3_work_51 : decode cX3_work 51 = .ok (.laload, 1) := by decide +kernel
theorem dX3_work_52 : decode cX3_work 52 = .ok (.lmul, 1) := by decide +kernel
theorem dX3_work_53 : decode cX3_work 53 = .ok (.lstore 5, 2) := by decide +kernel
theorem dX3_work_55 : decode cX3_work 55 = .ok (.iinc 7 1, 3) := by decide +kernel
theorem dX3_work_58 : decode cX3_work 58 = .ok (.goto (-21), 3) := by decide +kernel
theorem dX3_work_61 : decode cX3_work 61 = .ok (.iconst 1, 1) := by decide +kernel
theorem dX3_work_62 : decode cX3_work 62 = .ok (.istore 7, 2) := by decide +kernel
theorem dX3_work_64 : decode cX3_work 64 = .ok (.iload 7, 2) := by decide +kernel
theorem dX3_work_66 : decode cX3_work 66 = .ok (.iload 4, 2) := by decide +kernel
theorem dX3_work_68 : decode cX3_work 68 = .ok (.if_icmp .gt 63, 3) := by decide +kernel
theorem dX3_work_71 : decode cX3_work 71 = .ok (.aload_n 0, 1) := by decide +kernel
theorem dX3_work_72 : decode cX3_work 72 = .ok (.getfield 37, 3) := by decide +kernel
theorem dX3_work_75 : decode cX3_work 75 = .ok (.iload 7, 2) := by decide +kernel
theorem dX3_work_77 : decode cX3_work 77 = .ok (.laload, 1) := by decide +kernel
theorem dX3_work_78 : decode cX3_work 78 = .ok (.aload_n 0, 1) := by decide +kernel
theorem dX3_work_79 : decode cX3_work 79 = .ok (.getfield 40, 3) := by decide +kernel
theorem dX3_work_82 : decode cX3_work 82 = .ok (.iload 4, 2) := by decide +kernel
theorem dX3_work_84 : decode cX3_work 84 = .ok (.iload 7, 2) := by decide +kernel
theorem dX3_work_86 : decode cX3_work 86 = .ok (.isub, 1) := by decide +kernel
theorem dX3_work_87 : decode cX3_work 87 = .ok (.laload, 1) := by decide +kernel
theorem dX3_work_88 : decode cX3_work 88 = .ok (.lmul, 1) := by decide +kernel
theorem dX3_work_89 : decode cX3_work 89 = .ok (.lstore 8, 2) := by decide +kernel
theorem dX3_work_91 : decode cX3_work 91 = .ok (.iconst 1, 1) := by decide +kernel
theorem dX3_work_92 : decode cX3_work 92 = .ok (.istore 10, 2) := by decide +kernel
theorem dX3_work_94 : decode cX3_work 94 = .ok (.iload 10, 2) := by decide +kernel
theorem dX3_work_96 : decode cX3_work 96 = .ok (.iload 7, 2) := by decide +kernel
theorem dX3_work_98 : decode cX3_work 98 = .ok (.if_icmp .ge 20, 3) := by decide +kernel
theorem dX3_work_101 : decode cX3_work 101 = .ok (.lload 8, 2) := by decide +kernel
theorem dX3_work_103 : decode cX3_work 103 = .ok (.aload_n 0, 1) := by decide +kernel
theorem dX3_work_104 : decode cX3_work 104 = .ok (.getfield 37, 3) := by decide +kernel
theorem dX3_work_107 : decode cX3_work 107 = .ok (.iconst 0, 1) := by decide +kernel
theorem dX3_work_108 : decode cX3_work 108 = .ok (.laload, 1) := by decide +kernel
theorem dX3_work_109 : decode cX3_work 109 = .ok (.lmul, 1) := by decide +kernel
theorem dX3_work_110 : decode cX3_work 110 = .ok (.lstore 8, 2) := by decide +kernel
theorem dX3_work_112 : decode cX3_work 112 = .ok (.iinc 10 1, 3) := by decide +kernel
theorem dX3_work_115 : decode cX3_work 115 = .ok (.goto (-21), 3) := by decide +kernel
theorem dX3_work_118 : decode cX3_work 118 = .ok (.lload 5, 2) := by decide +kernel
theorem dX3_work_120 : decode cX3_work 120 = .ok (.lload 8, 2) := by decide +kernel
theorem dX3_work_122 : decode cX3_work 122 = .ok (.lsub, 1) := by decide +kernel
theorem dX3_work_123 : decode cX3_work 123 = .ok (.lstore 5, 2) := by decide +kernel
theorem dX3_work_125 : decode cX3_work 125 = .ok (.iinc 7 1, 3) := by decide +kernel
theorem dX3_work_128 : decode cX3_work 128 = .ok (.goto (-64), 3) := by decide +kernel
theorem dX3_work_131 : decode cX3_work 131 = .ok (.aload_n 0, 1) := by decide +kernel
theorem dX3_work_132 : decode cX3_work 132 = .ok (.getfield 40, 3) := by decide +kernel
theorem dX3_work_135 : decode cX3_work 135 = .ok (.iload 4, 2) := by decide +kernel
theorem dX3_work_137 : decode cX3_work 137 = .ok (.lload 5, 2) := by decide +kernel
theorem dX3_work_139 : decode cX3_work 139 = .ok (.lastore, 1) := by decide +kernel
theorem dX3_work_140 : decode cX3_work 140 = .ok (.iinc 4 1, 3) := by decide +kernel
theorem dX3_work_143 : decode cX3_work 143 = .ok (.goto (-124), 3) := by decide +kernel
theorem dX3_work_146 : decode cX3_work 146 = .ok (.lconst 1, 1) := by decide +kernel
theorem dX3_work_147 : decode cX3_work 147 = .ok (.lstore 4, 2) := by decide +kernel
theorem dX3_work_149 : decode cX3_work 149 = .ok (.iconst 0, 1) := by decide +kernel
theorem dX3_work_150 : decode cX3_work 150 = .ok (.istore 6, 2) := by decide +kernel
theorem dX3_work_152 : decode cX3_work 152 = .ok (.iload 6, 2) := by decide +kernel
theorem dX3_work_154 : decode cX3_work 154 = .ok (.iload_n 3, 1) := by decide +kernel
theorem dX3_work_155 : decode cX3_work 155 = .ok (.if_icmp .gt 20, 3) := by decide +kernel
theorem dX3_work_158 : decode cX3_work 158 = .ok (.lload 4, 2) := by decide +kernel
theorem dX3_work_160 : decode cX3_work 160 = .ok (.aload_n 0, 1) := by decide +kernel
theorem dX3_work_161 : decode cX3_work 161 = .ok (.getfield 37, 3) := by decide +kernel
theorem dX3_work_164 : decode cX3_work 164 = .ok (.iconst 0, 1) := by decide +kernel
theorem dX3_work_165 : decode cX3_work 165 = .ok (.laload, 1) := by decide +kernel
theorem dX3_work_166 : decode cX3_work 166 = .ok (.lmul, 1) := by decide +kernel
theorem dX3_work_167 : decode cX3_work 167 = .ok (.lstore 4, 2) := by decide +kernel
theorem dX3_work_169 : decode cX3_work 169 = .ok (.iinc 6 1, 3) := by decide +kernel
theorem dX3_work_172 : decode cX3_work 172 = .ok (.goto (-20), 3) := by decide +kernel
theorem dX3_work_175 : decode cX3_work 175 = .ok (.aload_n 0, 1) := by decide +kernel
theorem dX3_work_176 : decode cX3_work 176 = .ok (.aload_n 0, 1) := by decide +kernel
theorem dX3_work_177 : decode cX3_work 177 = .ok (.getfield 40, 3) := by decide +kernel
theorem dX3_work_180 : decode cX3_work 180 = .ok (.iload_n 3, 1) := by decide +kernel
theorem dX3_work_181 : decode cX3_work 181 = .ok (.laload, 1) := by decide +kernel
theorem dX3_work_182 : decode cX3_work 182 = .ok (.lload 4, 2) := by decide +kernel
theorem dX3_work_184 : decode cX3_work 184 = .ok (.invokevirtual 107, 3) := by decide +kernel
theorem dX3_work_187 : decode cX3_work 187 = .ok (.return_, 1) := by decide +kernel
theorem dX3_isPart_0 : decode cX3_isPart 0 = .ok (.aload_n 0, 1) := by decide +kernel
theorem dX3_isPart_1 : decode cX3_isPart 1 = .ok (.iload_n 1, 1) := by decide +kernel
theorem dX3_isPart_2 : decode cX3_isPart 2 = .ok (.invokevirtual 111, 3) := by decide +kernel
theorem dX3_isPart_5 : decode cX3_isPart 5 = .ok (.ifCond .le 21, 3) := by decide +kernel
theorem dX3_isPart_8 : decode cX3_isPart 8 = .ok (.iload_n 2, 1) := by decide +kernel
theorem dX3_isPart_9 : decode cX3_isPart 9 = .ok (.iconst 1, 1) := by decide +kernel
theorem dX3_isPart_10 : decode cX3_isPart 10 = .ok (.if_icmp .lt 16, 3) := by decide +kernel
theorem dX3_isPart_13 : decode cX3_isPart 13 = .ok (.iload_n 2, 1) := by decide +kernel
theorem dX3_isPart_14 : decode cX3_isPart 14 = .ok (.aload_n 0, 1) := by decide +kernel
theorem dX3_isPart_15 : decode cX3_isPart 15 = .ok (.iload_n 1, 1) := by decide +kernel
theorem dX3_isPart_16 : decode cX3_isPart 16 = .ok (.invokevirtual 111, 3) := by decide +kernel
theorem dX3_isPart_19 : decode cX3_isPart 19 = .ok (.if_icmp .gt 7, 3) := by decide +kernel
theorem dX3_isPart_22 : decode cX3_isPart 22 = .ok (.iconst 1, 1) := by decide +kernel
theorem dX3_isPart_23 : decode cX3_isPart 23 = .ok (.goto 4, 3) := by decide +kernel
theorem dX3_isPart_26 : decode cX3_isPart 26 = .ok (.iconst 0, 1) := by decide +kernel
theorem dX3_isPart_27 : decode cX3_isPart 27 = .ok (.ireturn, 1) := by decide +kernel
theorem dX3_part_0 : decode cX3_part 0 = .ok (.aload_n 0, 1) := by decide +kernel
theorem dX3_part_1 : decode cX3_part 1 = .ok (.iload_n 1, 1) := by decide +kernel
theorem dX3_part_2 : decode cX3_part 2 = .ok (.iload_n 2, 1) := by decide +kernel
theorem dX3_part_3 : decode cX3_part 3 = .ok (.invokevirtual 113, 3) := by decide +kernel
theorem dX3_part_6 : decode cX3_part 6 = .ok (.ifCond .eq 16, 3) := by decide +kernel
theorem dX3_part_9 : decode cX3_part 9 = .ok (.iload_n 3, 1) := by decide +kernel
theorem dX3_part_10 : decode cX3_part 10 = .ok (.ifCond .lt 12, 3) := by decide +kernel
theorem dX3_part_13 : decode cX3_part 13 = .ok (.iload_n 3, 1) := by decide +kernel
theorem dX3_part_14 : decode cX3_part 14 = .ok (.iconst 2, 1) := by decide +kernel
theorem dX3_part_15 : decode cX3_part 15 = .ok (.if_icmp .ge 7, 3) := by decide +kernel
theorem dX3_part_18 : decode cX3_part 18 = .ok (.iconst 1, 1) := by decide +kernel
theorem dX3_part_19 : decode cX3_part 19 = .ok (.goto 4, 3) := by decide +kernel
theorem dX3_part_22 : decode cX3_part 22 = .ok (.iconst 0, 1) := by decide +kernel
theorem dX3_part_23 : decode cX3_part 23 = .ok (.istore 4, 2) := by decide +kernel
theorem dX3_part_25 : decode cX3_part 25 = .ok (.aload_n 0, 1) := by decide +kernel
theorem dX3_part_26 : decode cX3_part 26 = .ok (.iload 4, 2) := by decide +kernel
theorem dX3_part_28 : decode cX3_part 28 = .ok (.ifCond .eq 7, 3) := by decide +kernel
theorem dX3_part_31 : decode cX3_part 31 = .ok (.iconst 0, 1) := by decide +kernel
theorem dX3_part_32 : decode cX3_part 32 = .ok (.goto 4, 3) := by decide +kernel
theorem dX3_part_35 : decode cX3_part 35 = .ok (.iconst 1, 1) := by decide +kernel
theorem dX3_part_36 : decode cX3_part 36 = .ok (.putfield 46, 3) := by decide +kernel
theorem dX3_part_39 : decode cX3_part 39 = .ok (.iload 4, 2) := by decide +kernel
theorem dX3_part_41 : decode cX3_part 41 = .ok (.ifCond .ne 5, 3) := by decide +kernel
theorem dX3_part_44 : decode cX3_part 44 = .ok (.lconst 0, 1) := by decide +kernel
theorem dX3_part_45 : decode cX3_part 45 = .ok (.lreturn, 1) := by decide +kernel
theorem dX3_part_46 : decode cX3_part 46 = .ok (.aload_n 0, 1) := by decide +kernel
theorem dX3_part_47 : decode cX3_part 47 = .ok (.iload_n 1, 1) := by decide +kernel
theorem dX3_part_48 : decode cX3_part 48 = .ok (.iload_n 2, 1) := by decide +kernel
theorem dX3_part_49 : decode cX3_part 49 = .ok (.invokevirtual 117, 3) := by decide +kernel
theorem dX3_part_52 : decode cX3_part 52 = .ok (.iload_n 3, 1) := by decide +kernel
theorem dX3_part_53 : decode cX3_part 53 = .ok (.ifCond .ne 10, 3) := by decide +kernel
theorem dX3_part_56 : decode cX3_part 56 = .ok (.aload_n 0, 1) := by decide +kernel
theorem dX3_part_57 : decode cX3_part 57 = .ok (.getfield 96, 3) := by decide +kernel
theorem dX3_part_60 : decode cX3_part 60 = .ok (.goto 7, 3) := by decide +kernel
theorem dX3_part_63 : decode cX3_part 63 = .ok (.aload_n 0, 1) := by decide +kernel
theorem dX3_part_64 : decode cX3_part 64 = .ok (.getfield 100, 3) := by decide +kernel
theorem dX3_part_67 : decode cX3_part 67 = .ok (.lreturn, 1) := by decide +kernel
theorem dX3_integral_0 : decode cX3_integral 0 = .ok (.iload_n 1, 1) := by decide +kernel
theorem dX3_integral_1 : decode cX3_integral 1 = .ok (.bipush 9, 2) := by decide +kernel
theorem dX3_integral_3 : decode cX3_integral 3 = .ok (.if_icmp .ne 11, 3) := by decide +kernel
theorem dX3_integral_6 : decode cX3_integral 6 = .ok (.iload_n 2, 1) := by decide +kernel
theorem dX3_integral_7 : decode cX3_integral 7 = .ok (.ifCond .le 7, 3) := by decide +kernel
theorem dX3_integral_10 : decode cX3_integral 10 = .ok (.iconst 1, 1) := by decide +kernel
theorem dX3_integral_11 : decode cX3_integral 11 = .ok (.goto 4, 3) := by decide +kernel
theorem dX3_integral_14 : decode cX3_integral 14 = .ok (.iconst 0, 1) := by decide +kernel
theorem dX3_integral_15 : decode cX3_integral 15 = .ok (.istore 4, 2) := by decide +kernel
theorem dX3_integral_17 : decode cX3_integral 17 = .ok (.iload 4, 2) := by decide +kernel
theorem dX3_integral_19 : decode cX3_integral 19 = .ok (.ifCond .ne 16, 3) := by decide +kernel
theorem dX3_integral_22 : decode cX3_integral 22 = .ok (.iload_n 2, 1) := by decide +kernel
theorem dX3_integral_23 : decode cX3_integral 23 = .ok (.ifCond .lt 25, 3) := by decide +kernel
theorem dX3_integral_26 : decode cX3_integral 26 = .ok (.iload_n 2, 1) := by decide +kernel
theorem dX3_integral_27 : decode cX3_integral 27 = .ok (.aload_n 0, 1) := by decide +kernel
theorem dX3_integral_28 : decode cX3_integral 28 = .ok (.iload_n 1, 1) := by decide +kernel
theorem dX3_integral_29 : decode cX3_integral 29 = .ok (.invokevirtual 111, 3) := by decide +kernel
theorem dX3_integral_32 : decode cX3_integral 32 = .ok (.if_icmp .ge 16, 3) := by decide +kernel
theorem dX3_integral_35 : decode cX3_integral 35 = .ok (.iload_n 3, 1) := by decide +kernel
theorem dX3_integral_36 : decode cX3_integral 36 = .ok (.ifCond .lt 12, 3) := by decide +kernel
theorem dX3_integral_39 : decode cX3_integral 39 = .ok (.iload_n 3, 1) := by decide +kernel
theorem dX3_integral_40 : decode cX3_integral 40 = .ok (.iconst 2, 1) := by decide +kernel
theorem dX3_integral_41 : decode cX3_integral 41 = .ok (.if_icmp .ge 7, 3) := by decide +kernel
theorem dX3_integral_44 : decode cX3_integral 44 = .ok (.iconst 1, 1) := by decide +kernel
theorem dX3_integral_45 : decode cX3_integral 45 = .ok (.goto 4, 3) := by decide +kernel
theorem dX3_integral_48 : decode cX3_integral 48 = .ok (.iconst 0, 1) := by decide +kernel
theorem dX3_integral_49 : decode cX3_integral 49 = .ok (.istore 5, 2) := by decide +kernel
theorem dX3_integral_51 : decode cX3_integral 51 = .ok (.aload_n 0, 1) := by decide +kernel
theorem dX3_integral_52 : decode cX3_integral 52 = .ok (.iload 5, 2) := by decide +kernel
theorem dX3_integral_54 : decode cX3_integral 54 = .ok (.ifCond .eq 7, 3) := by decide +kernel
theorem dX3_integral_57 : decode cX3_integral 57 = .ok (.iconst 0, 1) := by decide +kernel
theorem dX3_integral_58 : decode cX3_integral 58 = .ok (.goto 4, 3) := by decide +kernel
theorem dX3_integral_61 : decode cX3_integral 61 = .ok (.iconst 1, 1) := by decide +kernel
theorem dX3_integral_62 : decode cX3_integral 62 = .ok (.putfield 46, 3) := by decide +kernel
theorem dX3_integral_65 : decode cX3_integral 65 = .ok (.iload 5, 2) := by decide +kernel
theorem dX3_integral_67 : decode cX3_integral 67 = .ok (.ifCond .ne 5, 3) := by decide +kernel
theorem dX3_integral_70 : decode cX3_integral 70 = .ok (.lconst 0, 1) := by decide +kernel
theorem dX3_integral_71 : decode cX3_integral 71 = .ok (.lreturn, 1) := by decide +kernel
theorem dX3_integral_72 : decode cX3_integral 72 = .ok (.aload_n 0, 1) := by decide +kernel
theorem dX3_integral_73 : decode cX3_integral 73 = .ok (.invokevirtual 93, 3) := by decide +kernel
theorem dX3_integral_76 : decode cX3_integral 76 = .ok (.iload 4, 2) := by decide +kernel
theorem dX3_integral_78 : decode cX3_integral 78 = .ok (.ifCond .eq 30, 3) := by decide +kernel
theorem dX3_integral_81 : decode cX3_integral 81 = .ok (.aload_n 0, 1) := by decide +kernel
theorem dX3_integral_82 : decode cX3_integral 82 = .ok (.iload_n 2, 1) := by decide +kernel
theorem dX3_integral_83 : decode cX3_integral 83 = .ok (.bipush 8, 2) := by decide +kernel
theorem dX3_integral_85 : decode cX3_integral 85 = .ok (.if_icmp .ge 14, 3) := by decide +kernel
theorem dX3_integral_88 : decode cX3_integral 88 = .ok (.aload_n 0, 1) := by decide +kernel
theorem dX3_integral_89 : decode cX3_integral 89 = .ok (.getfield 20, 3) := by decide +kernel
theorem dX3_integral_92 : decode cX3_integral 92 = .ok (.iload_n 2, 1) := by decide +kernel
theorem dX3_integral_93 : decode cX3_integral 93 = .ok (.iconst 1, 1) := by decide +kernel
theorem dX3_integral_94 : decode cX3_integral 94 = .ok (.isub, 1) := by decide +kernel
theorem dX3_integral_95 : decode cX3_integral 95 = .ok (.laload, 1) := by decide +kernel
theorem dX3_integral_96 : decode cX3_integral 96 = .ok (.goto 4, 3) := by decide +kernel
theorem dX3_integral_99 : decode cX3_integral 99 = .ok (.lconst 0, 1) := by decide +kernel
theorem dX3_integral_100 : decode cX3_integral 100 = .ok (.iload_n 2, 1) := by decide +kernel
theorem dX3_integral_101 : decode cX3_integral 101 = .ok (.i2l, 1) := by decide +kernel
theorem dX3_integral_102 : decode cX3_integral 102 = .ok (.invokevirtual 107, 3) := by decide +kernel
theorem dX3_integral_105 : decode cX3_integral 105 = .ok (.goto 11, 3) := by decide +kernel
theorem dX3_integral_108 : decode cX3_integral 108 = .ok (.aload_n 0, 1) := by decide +kernel
theorem dX3_integral_109 : decode cX3_integral 109 = .ok (.iload_n 1, 1) := by decide +kernel
theorem dX3_integral_110 : decode cX3_integral 110 = .ok (.iload_n 2, 1) := by decide +kernel
theorem dX3_integral_111 : decode cX3_integral 111 = .ok (.iconst 1, 1) := by decide +kernel
theorem dX3_integral_112 : decode cX3_integral 112 = .ok (.iadd, 1) := by decide +kernel
theorem dX3_integral_113 : decode cX3_integral 113 = .ok (.invokevirtual 117, 3) := by decide +kernel
theorem dX3_integral_116 : decode cX3_integral 116 = .ok (.iload 4, 2) := by decide +kernel
theorem dX3_integral_118 : decode cX3_integral 118 = .ok (.ifCond .ne 23, 3) := by decide +kernel
theorem dX3_integral_121 : decode cX3_integral 121 = .ok (.iload_n 2, 1) := by decide +kernel
theorem dX3_integral_122 : decode cX3_integral 122 = .ok (.ifCond .le 19, 3) := by decide +kernel
theorem dX3_integral_125 : decode cX3_integral 125 = .ok (.aload_n 0, 1) := by decide +kernel
theorem dX3_integral_126 : decode cX3_integral 126 = .ok (.aload_n 0, 1) := by decide +kernel
theorem dX3_integral_127 : decode cX3_integral 127 = .ok (.getfield 96, 3) := by decide +kernel
theorem dX3_integral_130 : decode cX3_integral 130 = .ok (.lneg, 1) := by decide +kernel
theorem dX3_integral_131 : decode cX3_integral 131 = .ok (.aload_n 0, 1) := by decide +kernel
theorem dX3_integral_132 : decode cX3_integral 132 = .ok (.getfield 100, 3) := by decide +kernel
theorem dX3_integral_135 : decode cX3_integral 135 = .ok (.iload_n 2, 1) := by decide +kernel
theorem dX3_integral_136 : decode cX3_integral 136 = .ok (.i2l, 1) := by decide +kernel
theorem dX3_integral_137 : decode cX3_integral 137 = .ok (.lmul, 1) := by decide +kernel
theorem dX3_integral_138 : decode cX3_integral 138 = .ok (.invokevirtual 107, 3) := by decide +kernel
theorem dX3_integral_141 : decode cX3_integral 141 = .ok (.iload_n 3, 1) := by decide +kernel
theorem dX3_integral_142 : decode cX3_integral 142 = .ok (.ifCond .ne 10, 3) := by decide +kernel
theorem dX3_integral_145 : decode cX3_integral 145 = .ok (.aload_n 0, 1) := by decide +kernel
theorem dX3_integral_146 : decode cX3_integral 146 = .ok (.getfield 96, 3) := by decide +kernel
theorem dX3_integral_149 : decode cX3_integral 149 = .ok (.goto 7, 3) := by decide +kernel
theorem dX3_integral_152 : decode cX3_integral 152 = .ok (.aload_n 0, 1) := by decide +kernel
theorem dX3_integral_153 : decode cX3_integral 153 = .ok (.getfield 100, 3) := by decide +kernel
theorem dX3_integral_156 : decode cX3_integral 156 = .ok (.lreturn, 1) := by decide +kernel
theorem dX3_valueOf_0 : decode cX3_valueOf 0 = .ok (.lconst 0, 1) := by decide +kernel
theorem dX3_valueOf_1 : decode cX3_valueOf 1 = .ok (.lstore 4, 2) := by decide +kernel
theorem dX3_valueOf_3 : decode cX3_valueOf 3 = .ok (.iload_n 1, 1) := by decide +kernel
theorem dX3_valueOf_4 : decode cX3_valueOf 4 = .ok (.istore 6, 2) := by decide +kernel
theorem dX3_valueOf_6 : decode cX3_valueOf 6 = .ok (.iload 6, 2) := by decide +kernel
theorem dX3_valueOf_8 : decode cX3_valueOf 8 = .ok (.ifCond .lt 20, 3) := by decide +kernel
theorem dX3_valueOf_11 : decode cX3_valueOf 11 = .ok (.lload 4, 2) := by decide +kernel
theorem dX3_valueOf_13 : decode cX3_valueOf 13 = .ok (.lload_n 2, 1) := by decide +kernel
theorem dX3_valueOf_14 : decode cX3_valueOf 14 = .ok (.lmul, 1) := by decide +kernel
theorem dX3_valueOf_15 : decode cX3_valueOf 15 = .ok (.aload_n 0, 1) := by decide +kernel
theorem dX3_valueOf_16 : decode cX3_valueOf 16 = .ok (.iload 6, 2) := by decide +kernel
theorem dX3_valueOf_18 : decode cX3_valueOf 18 = .ok (.laload, 1) := by decide +kernel
theorem dX3_valueOf_19 : decode cX3_valueOf 19 = .ok (.ladd, 1) := by decide +kernel
theorem dX3_valueOf_20 : decode cX3_valueOf 20 = .ok (.lstore 4, 2) := by decide +kernel
theorem dX3_valueOf_22 : decode cX3_valueOf 22 = .ok (.iinc 6 (-1), 3) := by decide +kernel
theorem dX3_valueOf_25 : decode cX3_valueOf 25 = .ok (.goto (-19), 3) := by decide +kernel
theorem dX3_valueOf_28 : decode cX3_valueOf 28 = .ok (.lload 4, 2) := by decide +kernel
theorem dX3_valueOf_30 : decode cX3_valueOf 30 = .ok (.lreturn, 1) := by decide +kernel
theorem dX3_value_0 : decode cX3_value 0 = .ok (.iload_n 1, 1) := by decide +kernel
theorem dX3_value_1 : decode cX3_value 1 = .ok (.bipush (-20), 2) := by decide +kernel
theorem dX3_value_3 : decode cX3_value 3 = .ok (.if_icmp .lt 30, 3) := by decide +kernel
theorem dX3_value_6 : decode cX3_value 6 = .ok (.iload_n 1, 1) := by decide +kernel
theorem dX3_value_7 : decode cX3_value 7 = .ok (.bipush 20, 2) := by decide +kernel
theorem dX3_value_9 : decode cX3_value 9 = .ok (.if_icmp .gt 24, 3) := by decide +kernel
theorem dX3_value_12 : decode cX3_value 12 = .ok (.aload_n 0, 1) := by decide +kernel
theorem dX3_value_13 : decode cX3_value 13 = .ok (.iload_n 1, 1) := by decide +kernel
theorem dX3_value_14 : decode cX3_value 14 = .ok (.invokevirtual 111, 3) := by decide +kernel
theorem dX3_value_17 : decode cX3_value 17 = .ok (.ifCond .ne 16, 3) := by decide +kernel
theorem dX3_value_20 : decode cX3_value 20 = .ok (.iload_n 2, 1) := by decide +kernel
theorem dX3_value_21 : decode cX3_value 21 = .ok (.ifCond .lt 12, 3) := by decide +kernel
theorem dX3_value_24 : decode cX3_value 24 = .ok (.iload_n 2, 1) := by decide +kernel
theorem dX3_value_25 : decode cX3_value 25 = .ok (.iconst 2, 1) := by decide +kernel
theorem dX3_value_26 : decode cX3_value 26 = .ok (.if_icmp .ge 7, 3) := by decide +kernel
theorem dX3_value_29 : decode cX3_value 29 = .ok (.iconst 1, 1) := by decide +kernel
theorem dX3_value_30 : decode cX3_value 30 = .ok (.goto 4, 3) := by decide +kernel
theorem dX3_value_33 : decode cX3_value 33 = .ok (.iconst 0, 1) := by decide +kernel
theorem dX3_value_34 : decode cX3_value 34 = .ok (.istore_n 3, 1) := by decide +kernel
theorem dX3_value_35 : decode cX3_value 35 = .ok (.aload_n 0, 1) := by decide +kernel
theorem dX3_value_36 : decode cX3_value 36 = .ok (.iload_n 3, 1) := by decide +kernel
theorem dX3_value_37 : decode cX3_value 37 = .ok (.ifCond .eq 7, 3) := by decide +kernel
theorem dX3_value_40 : decode cX3_value 40 = .ok (.iconst 0, 1) := by decide +kernel
theorem dX3_value_41 : decode cX3_value 41 = .ok (.goto 4, 3) := by decide +kernel
theorem dX3_value_44 : decode cX3_value 44 = .ok (.iconst 1, 1) := by decide +kernel
theorem dX3_value_45 : decode cX3_value 45 = .ok (.putfield 46, 3) := by decide +kernel
theorem dX3_value_48 : decode cX3_value 48 = .ok (.iload_n 3, 1) := by decide +kernel
theorem dX3_value_49 : decode cX3_value 49 = .ok (.ifCond .ne 5, 3) := by decide +kernel
theorem dX3_value_52 : decode cX3_value 52 = .ok (.lconst 0, 1) := by decide +kernel
theorem dX3_value_53 : decode cX3_value 53 = .ok (.lreturn, 1) := by decide +kernel
theorem dX3_value_54 : decode cX3_value 54 = .ok (.aload_n 0, 1) := by decide +kernel
theorem dX3_value_55 : decode cX3_value 55 = .ok (.aload_n 0, 1) := by decide +kernel
theorem dX3_value_56 : decode cX3_value 56 = .ok (.getfield 13, 3) := by decide +kernel
theorem dX3_value_59 : decode cX3_value 59 = .ok (.bipush 6, 2) := by decide +kernel
theorem dX3_value_61 : decode cX3_value 61 = .ok (.iload_n 1, 1) := by decide +kernel
theorem dX3_value_62 : decode cX3_value 62 = .ok (.i2l, 1) := by decide +kernel
theorem dX3_value_63 : decode cX3_value 63 = .ok (.invokestatic 121, 3) := by decide +kernel
theorem dX3_value_66 : decode cX3_value 66 = .ok (.aload_n 0, 1) := by decide +kernel
theorem dX3_value_67 : decode cX3_value 67 = .ok (.getfield 17, 3) := by decide +kernel
theorem dX3_value_70 : decode cX3_value 70 = .ok (.iconst 5, 1) := by decide +kernel
theorem dX3_value_71 : decode cX3_value 71 = .ok (.iload_n 1, 1) := by decide +kernel
theorem dX3_value_72 : decode cX3_value 72 = .ok (.i2l, 1) := by decide +kernel
theorem dX3_value_73 : decode cX3_value 73 = .ok (.invokestatic 121, 3) := by decide +kernel
theorem dX3_value_76 : decode cX3_value 76 = .ok (.invokevirtual 107, 3) := by decide +kernel
theorem dX3_value_79 : decode cX3_value 79 = .ok (.iload_n 2, 1) := by decide +kernel
theorem dX3_value_80 : decode cX3_value 80 = .ok (.ifCond .ne 10, 3) := by decide +kernel
theorem dX3_value_83 : decode cX3_value 83 = .ok (.aload_n 0, 1) := by decide +kernel
theorem dX3_value_84 : decode cX3_value 84 = .ok (.getfield 96, 3) := by decide +kernel
theorem dX3_value_87 : decode cX3_value 87 = .ok (.goto 7, 3) := by decide +kernel
theorem dX3_value_90 : decode cX3_value 90 = .ok (.aload_n 0, 1) := by decide +kernel
theorem dX3_value_91 : decode cX3_value 91 = .ok (.getfield 100, 3) := by decide +kernel
theorem dX3_value_94 : decode cX3_value 94 = .ok (.lreturn, 1) := by decide +kernel
theorem dX3_valueAt_0 : decode cX3_valueAt 0 = .ok (.dconst 0, 1) := by decide +kernel
theorem dX3_valueAt_1 : decode cX3_valueAt 1 = .ok (.dstore 4, 2) := by decide +kernel
theorem dX3_valueAt_3 : decode cX3_valueAt 3 = .ok (.iload_n 1, 1) := by decide +kernel
theorem dX3_valueAt_4 : decode cX3_valueAt 4 = .ok (.istore 6, 2) := by decide +kernel
theorem dX3_valueAt_6 : decode cX3_valueAt 6 = .ok (.iload 6, 2) := by decide +kernel
theorem dX3_valueAt_8 : decode cX3_valueAt 8 = .ok (.ifCond .lt 21, 3) := by decide +kernel
theorem dX3_valueAt_11 : decode cX3_valueAt 11 = .ok (.dload 4, 2) := by decide +kernel
theorem dX3_valueAt_13 : decode cX3_valueAt 13 = .ok (.dload_n 2, 1) := by decide +kernel
theorem dX3_valueAt_14 : decode cX3_valueAt 14 = .ok (.dmul, 1) := by decide +kernel
theorem dX3_valueAt_15 : decode cX3_valueAt 15 = .ok (.aload_n 0, 1) := by decide +kernel
theorem dX3_valueAt_16 : decode cX3_valueAt 16 = .ok (.iload 6, 2) := by decide +kernel
theorem dX3_valueAt_18 : decode cX3_valueAt 18 = .ok (.laload, 1) := by decide +kernel
theorem dX3_valueAt_19 : decode cX3_valueAt 19 = .ok (.l2d, 1) := by decide +kernel
theorem dX3_valueAt_20 : decode cX3_valueAt 20 = .ok (.dadd, 1) := by decide +kernel
theorem dX3_valueAt_21 : decode cX3_valueAt 21 = .ok (.dstore 4, 2) := by decide +kernel
theorem dX3_valueAt_23 : decode cX3_valueAt 23 = .ok (.iinc 6 (-1), 3) := by decide +kernel
theorem dX3_valueAt_26 : decode cX3_valueAt 26 = .ok (.goto (-20), 3) := by decide +kernel
theorem dX3_valueAt_29 : decode cX3_valueAt 29 = .ok (.dload 4, 2) := by decide +kernel
theorem dX3_valueAt_31 : decode cX3_valueAt 31 = .ok (.dreturn, 1) := by decide +kernel
theorem dX3_isPlace_0 : decode cX3_isPlace 0 = .ok (.dload_n 1, 1) := by decide +kernel
theorem dX3_isPlace_1 : decode cX3_isPlace 1 = .ok (.ldc2_w 125, 3) := by decide +kernel
theorem dX3_isPlace_4 : decode cX3_isPlace 4 = .ok (.dcmp .l, 1) := by decide +kernel
theorem dX3_isPlace_5 : decode cX3_isPlace 5 = .ok (.ifCond .lt 15, 3) := by decide +kernel
theorem dX3_isPlace_8 : decode cX3_isPlace 8 = .ok (.dload_n 1, 1) := by decide +kernel
theorem dX3_isPlace_9 : decode cX3_isPlace 9 = .ok (.ldc2_w 127, 3) := by decide +kernel
theorem dX3_isPlace_12 : decode cX3_isPlace 12 = .ok (.dcmp .g, 1) := by decide +kernel
theorem dX3_isPlace_13 : decode cX3_isPlace 13 = .ok (.ifCond .gt 7, 3) := by decide +kernel
theorem dX3_isPlace_16 : decode cX3_isPlace 16 = .ok (.iconst 1, 1) := by decide +kernel
theorem dX3_isPlace_17 : decode cX3_isPlace 17 = .ok (.goto 4, 3) := by decide +kernel
theorem dX3_isPlace_20 : decode cX3_isPlace 20 = .ok (.iconst 0, 1) := by decide +kernel
theorem dX3_isPlace_21 : decode cX3_isPlace 21 = .ok (.ireturn, 1) := by decide +kernel
theorem dX3_at_0 : decode cX3_at 0 = .ok (.aload_n 0, 1) := by decide +kernel
theorem dX3_at_1 : decode cX3_at 1 = .ok (.aload_n 0, 1) := by decide +kernel
theorem dX3_at_2 : decode cX3_at 2 = .ok (.dload_n 1, 1) := by decide +kernel
theorem dX3_at_3 : decode cX3_at 3 = .ok (.invokevirtual 129, 3) := by decide +kernel
theorem dX3_at_6 : decode cX3_at 6 = .ok (.ifCond .eq 7, 3) := by decide +kernel
theorem dX3_at_9 : decode cX3_at 9 = .ok (.iconst 0, 1) := by decide +kernel
theorem dX3_at_10 : decode cX3_at 10 = .ok (.goto 4, 3) := by decide +kernel
theorem dX3_at_13 : decode cX3_at 13 = .ok (.iconst 1, 1) := by decide +kernel
theorem dX3_at_14 : decode cX3_at 14 = .ok (.putfield 46, 3) := by decide +kernel
theorem dX3_at_17 : decode cX3_at 17 = .ok (.aload_n 0, 1) := by decide +kernel
theorem dX3_at_18 : decode cX3_at 18 = .ok (.getfield 46, 3) := by decide +kernel
theorem dX3_at_21 : decode cX3_at 21 = .ok (.ifCond .le 5, 3) := by decide +kernel
theorem dX3_at_24 : decode cX3_at 24 = .ok (.dconst 0, 1) := by decide +kernel
theorem dX3_at_25 : decode cX3_at 25 = .ok (.dreturn, 1) := by decide +kernel
theorem dX3_at_26 : decode cX3_at 26 = .ok (.aload_n 0, 1) := by decide +kernel
theorem dX3_at_27 : decode cX3_at 27 = .ok (.getfield 17, 3) := by decide +kernel
theorem dX3_at_30 : decode cX3_at 30 = .ok (.iconst 5, 1) := by decide +kernel
theorem dX3_at_31 : decode cX3_at 31 = .ok (.dload_n 1, 1) := by decide +kernel
theorem dX3_at_32 : decode cX3_at 32 = .ok (.invokestatic 133, 3) := by decide +kernel
theorem dX3_at_35 : decode cX3_at 35 = .ok (.dstore_n 3, 1) := by decide +kernel
theorem dX3_at_36 : decode cX3_at 36 = .ok (.dload_n 3, 1) := by decide +kernel
theorem dX3_at_37 : decode cX3_at 37 = .ok (.dconst 0, 1) := by decide +kernel
theorem dX3_at_38 : decode cX3_at 38 = .ok (.dcmp .l, 1) := by decide +kernel
theorem dX3_at_39 : decode cX3_at 39 = .ok (.ifCond .ne 7, 3) := by decide +kernel
theorem dX3_at_42 : decode cX3_at 42 = .ok (.dconst 0, 1) := by decide +kernel
theorem dX3_at_43 : decode cX3_at 43 = .ok (.goto 15, 3) := by decide +kernel
theorem dX3_at_46 : decode cX3_at 46 = .ok (.aload_n 0, 1) := by decide +kernel
theorem dX3_at_47 : decode cX3_at 47 = .ok (.getfield 13, 3) := by decide +kernel
theorem dX3_at_50 : decode cX3_at 50 = .ok (.bipush 6, 2) := by decide +kernel
theorem dX3_at_52 : decode cX3_at 52 = .ok (.dload_n 1, 1) := by decide +kernel
theorem dX3_at_53 : decode cX3_at 53 = .ok (.invokestatic 133, 3) := by decide +kernel
theorem dX3_at_56 : decode cX3_at 56 = .ok (.dload_n 3, 1) := by decide +kernel
theorem dX3_at_57 : decode cX3_at 57 = .ok (.ddiv, 1) := by decide +kernel
theorem dX3_at_58 : decode cX3_at 58 = .ok (.dreturn, 1) := by decide +kernel
theorem dX3_byParts_0 : decode cX3_byParts 0 = .ok (.aload_n 0, 1) := by decide +kernel
theorem dX3_byParts_1 : decode cX3_byParts 1 = .ok (.aload_n 0, 1) := by decide +kernel
theorem dX3_byParts_2 : decode cX3_byParts 2 = .ok (.dload_n 1, 1) := by decide +kernel
theorem dX3_byParts_3 : decode cX3_byParts 3 = .ok (.invokevirtual 129, 3) := by decide +kernel
theorem dX3_byParts_6 : decode cX3_byParts 6 = .ok (.ifCond .eq 7, 3) := by decide +kernel
theorem dX3_byParts_9 : decode cX3_byParts 9 = .ok (.iconst 0, 1) := by decide +kernel
theorem dX3_byParts_10 : decode cX3_byParts 10 = .ok (.goto 4, 3) := by decide +kernel
theorem dX3_byParts_13 : decode cX3_byParts 13 = .ok (.iconst 1, 1) := by decide +kernel
theorem dX3_byParts_14 : decode cX3_byParts 14 = .ok (.putfield 46, 3) := by decide +kernel
theorem dX3_byParts_17 : decode cX3_byParts 17 = .ok (.aload_n 0, 1) := by decide +kernel
theorem dX3_byParts_18 : decode cX3_byParts 18 = .ok (.getfield 46, 3) := by decide +kernel
theorem dX3_byParts_21 : decode cX3_byParts 21 = .ok (.ifCond .le 5, 3) := by decide +kernel
theorem dX3_byParts_24 : decode cX3_byParts 24 = .ok (.dconst 0, 1) := by decide +kernel
theorem dX3_byParts_25 : decode cX3_byParts 25 = .ok (.dreturn, 1) := by decide +kernel
theorem dX3_byParts_26 : decode cX3_byParts 26 = .ok (.aload_n 0, 1) := by decide +kernel
theorem dX3_byParts_27 : decode cX3_byParts 27 = .ok (.invokevirtual 93, 3) := by decide +kernel
theorem dX3_byParts_30 : decode cX3_byParts 30 = .ok (.aload_n 0, 1) := by decide +kernel
theorem dX3_byParts_31 : decode cX3_byParts 31 = .ok (.getfield 20, 3) := by decide +kernel
theorem dX3_byParts_34 : decode cX3_byParts 34 = .ok (.bipush 6, 2) := by decide +kernel
theorem dX3_byParts_36 : decode cX3_byParts 36 = .ok (.dload_n 1, 1) := by decide +kernel
theorem dX3_byParts_37 : decode cX3_byParts 37 = .ok (.invokestatic 133, 3) := by decide +kernel
theorem dX3_byParts_40 : decode cX3_byParts 40 = .ok (.dstore_n 3, 1) := by decide +kernel
theorem dX3_byParts_41 : decode cX3_byParts 41 = .ok (.bipush (-3), 2) := by decide +kernel
theorem dX3_byParts_43 : decode cX3_byParts 43 = .ok (.istore 5, 2) := by decide +kernel
theorem dX3_byParts_45 : decode cX3_byParts 45 = .ok (.iload 5, 2) := by decide +kernel
theorem dX3_byParts_47 : decode cX3_byParts 47 = .ok (.iconst 4, 1) := by decide +kernel
theorem dX3_byParts_48 : decode cX3_byParts 48 = .ok (.if_icmp .ge 95, 3) := by decide +kernel
theorem dX3_byParts_51 : decode cX3_byParts 51 = .ok (.dconst 1, 1) := by decide +kernel
theorem dX3_byParts_52 : decode cX3_byParts 52 = .ok (.dstore 6, 2) := by decide +kernel
theorem dX3_byParts_54 : decode cX3_byParts 54 = .ok (.iconst 1, 1) := by decide +kernel
theorem dX3_byParts_55 : decode cX3_byParts 55 = .ok (.istore 8, 2) := by decide +kernel
theorem dX3_byParts_57 : decode cX3_byParts 57 = .ok (.iload 8, 2) := by decide +kernel
theorem dX3_byParts_59 : decode cX3_byParts 59 = .ok (.aload_n 0, 1) := by decide +kernel
theorem dX3_byParts_60 : decode cX3_byParts 60 = .ok (.getfield 27, 3) := by decide +kernel
theorem dX3_byParts_63 : decode cX3_byParts 63 = .ok (.iload 5, 2) := by decide +kernel
theorem dX3_byParts_65 : decode cX3_byParts 65 = .ok (.iconst 3, 1) := by decide +kernel
theorem dX3_byParts_66 : decode cX3_byParts 66 = .ok (.iadd, 1) := by decide +kernel
theorem dX3_byParts_67 : decode cX3_byParts 67 = .ok (.iaload, 1) := by decide +kernel
theorem dX3_byParts_68 : decode cX3_byParts 68 = .ok (.if_icmp .gt 69, 3) := by decide +kernel
theorem dX3_byParts_71 : decode cX3_byParts 71 = .ok (.iload 8, 2) := by decide +kernel
theorem dX3_byParts_73 : decode cX3_byParts 73 = .ok (.iconst 1, 1) := by decide +kernel
theorem dX3_byParts_74 : decode cX3_byParts 74 = .ok (.if_icmp .ne 11, 3) := by decide +kernel
theorem dX3_byParts_77 : decode cX3_byParts 77 = .ok (.dload_n 1, 1) := by decide +kernel
theorem dX3_byParts_78 : decode cX3_byParts 78 = .ok (.iload 5, 2) := by decide +kernel
theorem dX3_byParts_80 : decode cX3_byParts 80 = .ok (.i2d, 1) := by decide +kernel
theorem dX3_byParts_81 : decode cX3_byParts 81 = .ok (.dsub, 1) := by decide +kernel
theorem dX3_byParts_82 : decode cX3_byParts 82 = .ok (.goto 11, 3) := by decide +kernel
theorem dX3_byParts_85 : decode cX3_byParts 85 = .ok (.dload 6, 2) := by decide +kernel
theorem dX3_byParts_87 : decode cX3_byParts 87 = .ok (.dload_n 1, 1) := by decide +kernel
theorem dX3_byParts_88 : decode cX3_byParts 88 = .ok (.iload 5, 2) := by decide +kernel
theorem dX3_byParts_90 : decode cX3_byParts 90 = .ok (.i2d, 1) := by decide +kernel
theorem dX3_byParts_91 : decode cX3_byParts 91 = .ok (.dsub, 1) := by decide +kernel
theorem dX3_byParts_92 : decode cX3_byParts 92 = .ok (.dmul, 1) := by decide +kernel
theorem dX3_byParts_93 : decode cX3_byParts 93 = .ok (.dstore 6, 2) := by decide +kernel
theorem dX3_byParts_95 : decode cX3_byParts 95 = .ok (.aload_n 0, 1) := by decide +kernel
theorem dX3_byParts_96 : decode cX3_byParts 96 = .ok (.iload 5, 2) := by decide +kernel
theorem dX3_byParts_98 : decode cX3_byParts 98 = .ok (.iload 8, 2) := by decide +kernel
theorem dX3_byParts_100 : decode cX3_byParts 100 = .ok (.invokevirtual 117, 3) := by decide +kernel
theorem dX3_byParts_103 : decode cX3_byParts 103 = .ok (.dload 6, 2) := by decide +kernel
theorem dX3_byParts_105 : decode cX3_byParts 105 = .ok (.dconst 0, 1) := by decide +kernel
theorem dX3_byParts_106 : decode cX3_byParts 106 = .ok (.dcmp .l, 1) := by decide +kernel
theorem dX3_byParts_107 : decode cX3_byParts 107 = .ok (.ifCond .ne 7, 3) := by decide +kernel
theorem dX3_byParts_110 : decode cX3_byParts 110 = .ok (.dload_n 3, 1) := by decide +kernel
theorem dX3_byParts_111 : decode cX3_byParts 111 = .ok (.goto 19, 3) := by decide +kernel
theorem dX3_byParts_114 : decode cX3_byParts 114 = .ok (.dload_n 3, 1) := by decide +kernel
theorem dX3_byParts_115 : decode cX3_byParts 115 = .ok (.aload_n 0, 1) := by decide +kernel
theorem dX3_byParts_116 : decode cX3_byParts 116 = .ok (.getfield 96, 3) := by decide +kernel
theorem dX3_byParts_119 : decode cX3_byParts 119 = .ok (.l2d, 1) := by decide +kernel
theorem dX3_byParts_120 : decode cX3_byParts 120 = .ok (.aload_n 0, 1) := by decide +kernel
theorem dX3_byParts_121 : decode cX3_byParts 121 = .ok (.getfield 100, 3) := by decide +kernel
theorem dX3_byParts_124 : decode cX3_byParts 124 = .ok (.l2d, 1) := by decide +kernel
theorem dX3_byParts_125 : decode cX3_byParts 125 = .ok (.ddiv, 1) := by decide +kernel
theorem dX3_byParts_126 : decode cX3_byParts 126 = .ok (.dload 6, 2) := by decide +kernel
theorem dX3_byParts_128 : decode cX3_byParts 128 = .ok (.ddiv, 1) := by decide +kernel
theorem dX3_byParts_129 : decode cX3_byParts 129 = .ok (.dadd, 1) := by decide +kernel
theorem dX3_byParts_130 : decode cX3_byParts 130 = .ok (.dstore_n 3, 1) := by decide +kernel
theorem dX3_byParts_131 : decode cX3_byParts 131 = .ok (.iinc 8 1, 3) := by decide +kernel
theorem dX3_byParts_134 : decode cX3_byParts 134 = .ok (.goto (-77), 3) := by decide +kernel
theorem dX3_byParts_137 : decode cX3_byParts 137 = .ok (.iinc 5 1, 3) := by decide +kernel
theorem dX3_byParts_140 : decode cX3_byParts 140 = .ok (.goto (-95), 3) := by decide +kernel
theorem dX3_byParts_143 : decode cX3_byParts 143 = .ok (.dload_n 3, 1) := by decide +kernel
theorem dX3_byParts_144 : decode cX3_byParts 144 = .ok (.dreturn, 1) := by decide +kernel
end
section
theorem dL_numerator_0 : decode cL_numerator 0 = .ok (.aload_n 1, 1) := by decide +kernel
theorem dL_numerator_1 : decode cL_numerator 1 = .ok (.iconst 0, 1) := by decide +kernel
theorem dL_numerator_2 : decode cL_numerator 2 = .ok (.aload_n 0, 1) := by decide +kernel
theorem dL_numerator_3 : decode cL_numerator 3 = .ok (.invokevirtual 7, 3) := by decide +kernel
theorem dL_numerator_6 : decode cL_numerator 6 = .ok (.i2l, 1) := by decide +kernel
theorem dL_numerator_7 : decode cL_numerator 7 = .ok (.lastore, 1) := by decide +kernel
theorem dL_numerator_8 : decode cL_numerator 8 = .ok (.goto 6, 3) := by decide +kernel
theorem dL_numerator_11 : decode cL_numerator 11 = .ok (.astore_n 2, 1) := by decide +kernel
theorem dL_numerator_12 : decode cL_numerator 12 = .ok (.iconst 1, 1) := by decide +kernel
theorem dL_numerator_13 : decode cL_numerator 13 = .ok (.ireturn, 1) := by decide +kernel
theorem dL_numerator_14 : decode cL_numerator 14 = .ok (.iconst 0, 1) := by decide +kernel
theorem dL_numerator_15 : decode cL_numerator 15 = .ok (.ireturn, 1) := by decide +kernel
theorem dL_denominator_0 : decode cL_denominator 0 = .ok (.aload_n 1, 1) := by decide +kernel
theorem dL_denominator_1 : decode cL_denominator 1 = .ok (.iconst 0, 1) := by decide +kernel
theorem dL_denominator_2 : decode cL_denominator 2 = .ok (.aload_n 0, 1) := by decide +kernel
theorem dL_denominator_3 : decode cL_denominator 3 = .ok (.invokevirtual 15, 3) := by decide +kernel
theorem dL_denominator_6 : decode cL_denominator 6 = .ok (.i2l, 1) := by decide +kernel
theorem dL_denominator_7 : decode cL_denominator 7 = .ok (.lastore, 1) := by decide +kernel
theorem dL_denominator_8 : decode cL_denominator 8 = .ok (.goto 9, 3) := by decide +kernel
theorem dL_denominator_11 : decode cL_denominator 11 = .ok (.astore_n 2, 1) := by decide +kernel
theorem dL_denominator_12 : decode cL_denominator 12 = .ok (.iconst 1, 1) := by decide +kernel
theorem dL_denominator_13 : decode cL_denominator 13 = .ok (.ireturn, 1) := by decide +kernel
theorem dL_denominator_14 : decode cL_denominator 14 = .ok (.astore_n 2, 1) := by decide +kernel
theorem dL_denominator_15 : decode cL_denominator 15 = .ok (.iconst 2, 1) := by decide +kernel
theorem dL_denominator_16 : decode cL_denominator 16 = .ok (.ireturn, 1) := by decide +kernel
theorem dL_denominator_17 : decode cL_denominator 17 = .ok (.iconst 0, 1) := by decide +kernel
theorem dL_denominator_18 : decode cL_denominator 18 = .ok (.ireturn, 1) := by decide +kernel
theorem dL_part_0 : decode cL_part 0 = .ok (.aload 4, 2) := by decide +kernel
theorem dL_part_2 : decode cL_part 2 = .ok (.iconst 0, 1) := by decide +kernel
theorem dL_part_3 : decode cL_part 3 = .ok (.aload_n 0, 1) := by decide +kernel
theorem dL_part_4 : decode cL_part 4 = .ok (.iload_n 1, 1) := by decide +kernel
theorem dL_part_5 : decode cL_part 5 = .ok (.iload_n 2, 1) := by decide +kernel
theorem dL_part_6 : decode cL_part 6 = .ok (.iload_n 3, 1) := by decide +kernel
theorem dL_part_7 : decode cL_part 7 = .ok (.invokevirtual 20, 3) := by decide +kernel
theorem dL_part_10 : decode cL_part 10 = .ok (.lastore, 1) := by decide +kernel
theorem dL_part_11 : decode cL_part 11 = .ok (.goto 7, 3) := by decide +kernel
theorem dL_part_14 : decode cL_part 14 = .ok (.astore 5, 2) := by decide +kernel
theorem dL_part_16 : decode cL_part 16 = .ok (.iconst 1, 1) := by decide +kernel
theorem dL_part_17 : decode cL_part 17 = .ok (.ireturn, 1) := by decide +kernel
theorem dL_part_18 : decode cL_part 18 = .ok (.iconst 0, 1) := by decide +kernel
theorem dL_part_19 : decode cL_part 19 = .ok (.ireturn, 1) := by decide +kernel
theorem dL_integral_0 : decode cL_integral 0 = .ok (.aload 4, 2) := by decide +kernel
theorem dL_integral_2 : decode cL_integral 2 = .ok (.iconst 0, 1) := by decide +kernel
theorem dL_integral_3 : decode cL_integral 3 = .ok (.aload_n 0, 1) := by decide +kernel
theorem dL_integral_4 : decode cL_integral 4 = .ok (.iload_n 1, 1) := by decide +kernel
theorem dL_integral_5 : decode cL_integral 5 = .ok (.iload_n 2, 1) := by decide +kernel
theorem dL_integral_6 : decode cL_integral 6 = .ok (.iload_n 3, 1) := by decide +kernel
theorem dL_integral_7 : decode cL_integral 7 = .ok (.invokevirtual 24, 3) := by decide +kernel
theorem dL_integral_10 : decode cL_integral 10 = .ok (.lastore, 1) := by decide +kernel
theorem dL_integral_11 : decode cL_integral 11 = .ok (.goto 7, 3) := by decide +kernel
theorem dL_integral_14 : decode cL_integral 14 = .ok (.astore 5, 2) := by decide +kernel
theorem dL_integral_16 : decode cL_integral 16 = .ok (.iconst 1, 1) := by decide +kernel
theorem dL_integral_17 : decode cL_integral 17 = .ok (.ireturn, 1) := by decide +kernel
theorem dL_integral_18 : decode cL_integral 18 = .ok (.iconst 0, 1) := by decide +kernel
theorem dL_integral_19 : decode cL_integral 19 = .ok (.ireturn, 1) := by decide +kernel
theorem dL_value_0 : decode cL_value 0 = .ok (.aload_n 3, 1) := by decide +kernel
theorem dL_value_1 : decode cL_value 1 = .ok (.iconst 0, 1) := by decide +kernel
theorem dL_value_2 : decode cL_value 2 = .ok (.aload_n 0, 1) := by decide +kernel
theorem dL_value_3 : decode cL_value 3 = .ok (.iload_n 1, 1) := by decide +kernel
theorem dL_value_4 : decode cL_value 4 = .ok (.iload_n 2, 1) := by decide +kernel
theorem dL_value_5 : decode cL_value 5 = .ok (.invokevirtual 27, 3) := by decide +kernel
theorem dL_value_8 : decode cL_value 8 = .ok (.lastore, 1) := by decide +kernel
theorem dL_value_9 : decode cL_value 9 = .ok (.goto 7, 3) := by decide +kernel
theorem dL_value_12 : decode cL_value 12 = .ok (.astore 4, 2) := by decide +kernel
theorem dL_value_14 : decode cL_value 14 = .ok (.iconst 1, 1) := by decide +kernel
theorem dL_value_15 : decode cL_value 15 = .ok (.ireturn, 1) := by decide +kernel
theorem dL_value_16 : decode cL_value 16 = .ok (.iconst 0, 1) := by decide +kernel
theorem dL_value_17 : decode cL_value 17 = .ok (.ireturn, 1) := by decide +kernel
theorem dL_at_0 : decode cL_at 0 = .ok (.aload_n 3, 1) := by decide +kernel
theorem dL_at_1 : decode cL_at 1 = .ok (.iconst 0, 1) := by decide +kernel
theorem dL_at_2 : decode cL_at 2 = .ok (.aload_n 0, 1) := by decide +kernel
theorem dL_at_3 : decode cL_at 3 = .ok (.dload_n 1, 1) := by decide +kernel
theorem dL_at_4 : decode cL_at 4 = .ok (.invokevirtual 31, 3) := by decide +kernel
theorem dL_at_7 : decode cL_at 7 = .ok (.dastore, 1) := by decide +kernel
theorem dL_at_8 : decode cL_at 8 = .ok (.goto 7, 3) := by decide +kernel
theorem dL_at_11 : decode cL_at 11 = .ok (.astore 4, 2) := by decide +kernel
theorem dL_at_13 : decode cL_at 13 = .ok (.iconst 1, 1) := by decide +kernel
theorem dL_at_14 : decode cL_at 14 = .ok (.ireturn, 1) := by decide +kernel
theorem dL_at_15 : decode cL_at 15 = .ok (.iconst 0, 1) := by decide +kernel
theorem dL_at_16 : decode cL_at 16 = .ok (.ireturn, 1) := by decide +kernel
theorem dL_byParts_0 : decode cL_byParts 0 = .ok (.aload_n 3, 1) := by decide +kernel
theorem dL_byParts_1 : decode cL_byParts 1 = .ok (.iconst 0, 1) := by decide +kernel
theorem dL_byParts_2 : decode cL_byParts 2 = .ok (.aload_n 0, 1) := by decide +kernel
theorem dL_byParts_3 : decode cL_byParts 3 = .ok (.dload_n 1, 1) := by decide +kernel
theorem dL_byParts_4 : decode cL_byParts 4 = .ok (.invokevirtual 35, 3) := by decide +kernel
theorem dL_byParts_7 : decode cL_byParts 7 = .ok (.dastore, 1) := by decide +kernel
theorem dL_byParts_8 : decode cL_byParts 8 = .ok (.goto 7, 3) := by decide +kernel
theorem dL_byParts_11 : decode cL_byParts 11 = .ok (.astore 4, 2) := by decide +kernel
theorem dL_byParts_13 : decode cL_byParts 13 = .ok (.iconst 1, 1) := by decide +kernel
theorem dL_byParts_14 : decode cL_byParts 14 = .ok (.ireturn, 1) := by decide +kernel
theorem dL_byParts_15 : decode cL_byParts 15 = .ok (.iconst 0, 1) := by decide +kernel
theorem dL_byParts_16 : decode cL_byParts 16 = .ok (.ireturn, 1) := by decide +kernel
theorem dL_law_0 : decode cL_law 0 = .ok (.new 8, 3) := by decide +kernel
theorem dL_law_3 : decode cL_law 3 = .ok (.dup, 1) := by decide +kernel
theorem dL_law_4 : decode cL_law 4 = .ok (.invokespecial 38, 3) := by decide +kernel
theorem dL_law_7 : decode cL_law 7 = .ok (.astore_n 1, 1) := by decide +kernel
theorem dL_law_8 : decode cL_law 8 = .ok (.new 39, 3) := by decide +kernel
theorem dL_law_11 : decode cL_law 11 = .ok (.dup, 1) := by decide +kernel
theorem dL_law_12 : decode cL_law 12 = .ok (.invokespecial 41, 3) := by decide +kernel
theorem dL_law_15 : decode cL_law 15 = .ok (.astore_n 2, 1) := by decide +kernel
theorem dL_law_16 : decode cL_law 16 = .ok (.iconst 1, 1) := by decide +kernel
theorem dL_law_17 : decode cL_law 17 = .ok (.newarray .long, 2) := by decide +kernel
theorem dL_law_19 : decode cL_law 19 = .ok (.astore_n 3, 1) := by decide +kernel
theorem dL_law_20 : decode cL_law 20 = .ok (.iconst 1, 1) := by decide +kernel
theorem dL_law_21 : decode cL_law 21 = .ok (.newarray .double, 2) := by decide +kernel
theorem dL_law_23 : decode cL_law 23 = .ok (.astore 4, 2) := by decide +kernel
theorem dL_law_25 : decode cL_law 25 = .ok (.iconst 0, 1) := by decide +kernel
theorem dL_law_26 : decode cL_law 26 = .ok (.istore 5, 2) := by decide +kernel
theorem dL_law_28 : decode cL_law 28 = .ok (.iload 5, 2) := by decide +kernel
theorem dL_law_30 : decode cL_law 30 = .ok (.aload_n 0, 1) := by decide +kernel
theorem dL_law_31 : decode cL_law 31 = .ok (.arraylength, 1) := by decide +kernel
theorem dL_law_32 : decode cL_law 32 = .ok (.iconst 4, 1) := by decide +kernel
theorem dL_law_33 : decode cL_law 33 = .ok (.isub, 1) := by decide +kernel
theorem dL_law_34 : decode cL_law 34 = .ok (.if_icmp .gt 649, 3) := by decide +kernel
theorem dL_law_37 : decode cL_law 37 = .ok (.aload_n 0, 1) := by decide +kernel
theorem dL_law_38 : decode cL_law 38 = .ok (.iload 5, 2) := by decide +kernel
theorem dL_law_40 : decode cL_law 40 = .ok (.iaload, 1) := by decide +kernel
theorem dL_law_41 : decode cL_law 41 = .ok (.bipush 15, 2) := by decide +kernel
theorem dL_law_43 : decode cL_law 43 = .ok (.iand, 1) := by decide +kernel
theorem dL_law_44 : decode cL_law 44 = .ok (.tableswitch 633 0 9 #[56, 83, 127, 171, 209, 234, 313, 392, 459, 546], 56) := by decide +kernel
theorem dL_law_100 : decode cL_law 100 = .ok (.aload_n 1, 1) := by decide +kernel
theorem dL_law_101 : decode cL_law 101 = .ok (.aload_n 0, 1) := by decide +kernel
theorem dL_law_102 : decode cL_law 102 = .ok (.iload 5, 2) := by decide +kernel
theorem dL_law_104 : decode cL_law 104 = .ok (.iconst 1, 1) := by decide +kernel
theorem dL_law_105 : decode cL_law 105 = .ok (.iadd, 1) := by decide +kernel
theorem dL_law_106 : decode cL_law 106 = .ok (.iaload, 1) := by decide +kernel
theorem dL_law_107 : decode cL_law 107 = .ok (.i2c, 1) := by decide +kernel
theorem dL_law_108 : decode cL_law 108 = .ok (.invokevirtual 42, 3) := by decide +kernel
theorem dL_law_111 : decode cL_law 111 = .ok (.aload_n 2, 1) := by decide +kernel
theorem dL_law_112 : decode cL_law 112 = .ok (.aload_n 0, 1) := by decide +kernel
theorem dL_law_113 : decode cL_law 113 = .ok (.iload 5, 2) := by decide +kernel
theorem dL_law_115 : decode cL_law 115 = .ok (.iconst 1, 1) := by decide +kernel
theorem dL_law_116 : decode cL_law 116 = .ok (.iadd, 1) := by decide +kernel
theorem dL_law_117 : decode cL_law 117 = .ok (.iaload, 1) := by decide +kernel
theorem dL_law_118 : decode cL_law 118 = .ok (.i2c, 1) := by decide +kernel
theorem dL_law_119 : decode cL_law 119 = .ok (.invokevirtual 46, 3) := by decide +kernel
theorem dL_law_122 : decode cL_law 122 = .ok (.if_icmp .eq 555, 3) := by decide +kernel
theorem dL_law_125 : decode cL_law 125 = .ok (.iconst 0, 1) := by decide +kernel
theorem dL_law_126 : decode cL_law 126 = .ok (.ireturn, 1) := by decide +kernel
theorem dL_law_127 : decode cL_law 127 = .ok (.aload_n 1, 1) := by decide +kernel
theorem dL_law_128 : decode cL_law 128 = .ok (.aload_n 3, 1) := by decide +kernel
theorem dL_law_129 : decode cL_law 129 = .ok (.invokestatic 47, 3) := by decide +kernel
theorem dL_law_132 : decode cL_law 132 = .ok (.istore 6, 2) := by decide +kernel
theorem dL_law_134 : decode cL_law 134 = .ok (.aload_n 2, 1) := by decide +kernel
theorem dL_law_135 : decode cL_law 135 = .ok (.invokevirtual 52, 3) := by decide +kernel
theorem dL_law_138 : decode cL_law 138 = .ok (.istore 7, 2) := by decide +kernel
theorem dL_law_140 : decode cL_law 140 = .ok (.aload_n 2, 1) := by decide +kernel
theorem dL_law_141 : decode cL_law 141 = .ok (.invokevirtual 53, 3) := by decide +kernel
theorem dL_law_144 : decode cL_law 144 = .ok (.iload 6, 2) := by decide +kernel
theorem dL_law_146 : decode cL_law 146 = .ok (.if_icmp .eq 5, 3) := by decide +kernel
theorem dL_law_149 : decode cL_law 149 = .ok (.iconst 0, 1) := by decide +kernel
theorem dL_law_150 : decode cL_law 150 = .ok (.ireturn, 1) := by decide +kernel
theorem dL_law_151 : decode cL_law 151 = .ok (.iload 6, 2) := by decide +kernel
theorem dL_law_153 : decode cL_law 153 = .ok (.ifCond .ne 15, 3) := by decide +kernel
theorem dL_law_156 : decode cL_law 156 = .ok (.aload_n 3, 1) := by decide +kernel
theorem dL_law_157 : decode cL_law 157 = .ok (.iconst 0, 1) := by decide +kernel
theorem dL_law_158 : decode cL_law 158 = .ok (.laload, 1) := by decide +kernel
theorem dL_law_159 : decode cL_law 159 = .ok (.iload 7, 2) := by decide +kernel
theorem dL_law_161 : decode cL_law 161 = .ok (.i2l, 1) := by decide +kernel
theorem dL_law_162 : decode cL_law 162 = .ok (.lcmp, 1) := by decide +kernel
theorem dL_law_163 : decode cL_law 163 = .ok (.ifCond .eq 5, 3) := by decide +kernel
theorem dL_law_166 : decode cL_law 166 = .ok (.iconst 0, 1) := by decide +kernel
theorem dL_law_167 : decode cL_law 167 = .ok (.ireturn, 1) := by decide +kernel
theorem dL_law_168 : decode cL_law 168 = .ok (.goto 509, 3) := by decide +kernel
theorem dL_law_171 : decode cL_law 171 = .ok (.aload_n 1, 1) := by decide +kernel
theorem dL_law_172 : decode cL_law 172 = .ok (.aload_n 3, 1) := by decide +kernel
theorem dL_law_173 : decode cL_law 173 = .ok (.invokestatic 56, 3) := by decide +kernel
theorem dL_law_176 : decode cL_law 176 = .ok (.istore 6, 2) := by decide +kernel
theorem dL_law_178 : decode cL_law 178 = .ok (.aload_n 2, 1) := by decide +kernel
theorem dL_law_179 : decode cL_law 179 = .ok (.invokevirtual 58, 3) := by decide +kernel
theorem dL_law_182 : decode cL_law 182 = .ok (.istore 7, 2) := by decide +kernel
theorem dL_law_184 : decode cL_law 184 = .ok (.aload_n 2, 1) := by decide +kernel
theorem dL_law_185 : decode cL_law 185 = .ok (.invokevirtual 53, 3) := by decide +kernel
theorem dL_law_188 : decode cL_law 188 = .ok (.iload 6, 2) := by decide +kernel
theorem dL_law_190 : decode cL_law 190 = .ok (.if_icmp .eq 5, 3) := by decide +kernel
theorem dL_law_193 : decode cL_law 193 = .ok (.iconst 0, 1) := by decide +kernel
theorem dL_law_194 : decode cL_law 194 = .ok (.ireturn, 1) := by decide +kernel
theorem dL_law_195 : decode cL_law 195 = .ok (.iload 6, 2) := by decide +kernel
theorem dL_law_197 : decode cL_law 197 = .ok (.ifCond .ne 15, 3) := by decide +kernel
theorem dL_law_200 : decode cL_law 200 = .ok (.aload_n 3, 1) := by decide +kernel
theorem dL_law_201 : decode cL_law 201 = .ok (.iconst 0, 1) := by decide +kernel
theorem dL_law_202 : decode cL_law 202 = .ok (.laload, 1) := by decide +kernel
theorem dL_law_203 : decode cL_law 203 = .ok (.iload 7, 2) := by decide +kernel
theorem dL_law_205 : decode cL_law 205 = .ok (.i2l, 1) := by decide +kernel
theorem dL_law_206 : decode cL_law 206 = .ok (.lcmp, 1) := by decide +kernel
theorem dL_law_207 : decode cL_law 207 = .ok (.ifCond .eq 5, 3) := by decide +kernel
theorem dL_law_210 : decode cL_law 210 = .ok (.iconst 0, 1) := by decide +kernel
theorem dL_law_211 : decode cL_law 211 = .ok (.ireturn, 1) := by decide +kernel
theorem dL_law_212 : decode cL_law 212 = .ok (.goto 465, 3) := by decide +kernel
theorem dL_law_215 : decode cL_law 215 = .ok (.aload_n 1, 1) := by decide +kernel
theorem dL_law_216 : decode cL_law 216 = .ok (.aload_n 0, 1) := by decide +kernel
theorem dL_law_217 : decode cL_law 217 = .ok (.iload 5, 2) := by decide +kernel
theorem dL_law_219 : decode cL_law 219 = .ok (.iconst 1, 1) := by decide +kernel
theorem dL_law_220 : decode cL_law 220 = .ok (.iadd, 1) := by decide +kernel
theorem dL_law_221 : decode cL_law 221 = .ok (.iaload, 1) := by decide +kernel
theorem dL_law_222 : decode cL_law 222 = .ok (.aload_n 0, 1) := by decide +kernel
theorem dL_law_223 : decode cL_law 223 = .ok (.iload 5, 2) := by decide +kernel
theorem dL_law_225 : decode cL_law 225 = .ok (.iconst 2, 1) := by decide +kernel
theorem dL_law_226 : decode cL_law 226 = .ok (.iadd, 1) := by decide +kernel
theorem dL_law_227 : decode cL_law 227 = .ok (.iaload, 1) := by decide +kernel
theorem dL_law_228 : decode cL_law 228 = .ok (.invokevirtual 59, 3) := by decide +kernel
theorem dL_law_231 : decode cL_law 231 = .ok (.aload_n 2, 1) := by decide +kernel
theorem dL_law_232 : decode cL_law 232 = .ok (.aload_n 0, 1) := by decide +kernel
theorem dL_law_233 : decode cL_law 233 = .ok (.iload 5, 2) := by decide +kernel
theorem dL_law_235 : decode cL_law 235 = .ok (.iconst 1, 1) := by decide +kernel
theorem dL_law_236 : decode cL_law 236 = .ok (.iadd, 1) := by decide +kernel
theorem dL_law_237 : decode cL_law 237 = .ok (.iaload, 1) := by decide +kernel
theorem dL_law_238 : decode cL_law 238 = .ok (.aload_n 0, 1) := by decide +kernel
theorem dL_law_239 : decode cL_law 239 = .ok (.iload 5, 2) := by decide +kernel
theorem dL_law_241 : decode cL_law 241 = .ok (.iconst 2, 1) := by decide +kernel
theorem dL_law_242 : decode cL_law 242 = .ok (.iadd, 1) := by decide +kernel
theorem dL_law_243 : decode cL_law 243 = .ok (.iaload, 1) := by decide +kernel
theorem dL_law_244 : decode cL_law 244 = .ok (.invokevirtual 62, 3) := by decide +kernel
theorem dL_law_247 : decode cL_law 247 = .ok (.lcmp, 1) := by decide +kernel
theorem dL_law_248 : decode cL_law 248 = .ok (.ifCond .eq 429, 3) := by decide +kernel
theorem dL_law_251 : decode cL_law 251 = .ok (.iconst 0, 1) := by decide +kernel
theorem dL_law_252 : decode cL_law 252 = .ok (.ireturn, 1) := by decide +kernel
theorem dL_law_253 : decode cL_law 253 = .ok (.aload_n 1, 1) := by decide +kernel
theorem dL_law_254 : decode cL_law 254 = .ok (.aload_n 0, 1) := by decide +kernel
theorem dL_law_255 : decode cL_law 255 = .ok (.iload 5, 2) := by decide +kernel
theorem dL_law_257 : decode cL_law 257 = .ok (.iconst 1, 1) := by decide +kernel
theorem dL_law_258 : decode cL_law 258 = .ok (.iadd, 1) := by decide +kernel
theorem dL_law_259 : decode cL_law 259 = .ok (.iaload, 1) := by decide +kernel
theorem dL_law_260 : decode cL_law 260 = .ok (.invokevirtual 63, 3) := by decide +kernel
theorem dL_law_263 : decode cL_law 263 = .ok (.aload_n 2, 1) := by decide +kernel
theorem dL_law_264 : decode cL_law 264 = .ok (.aload_n 0, 1) := by decide +kernel
theorem dL_law_265 : decode cL_law 265 = .ok (.iload 5, 2) := by decide +kernel
theorem dL_law_267 : decode cL_law 267 = .ok (.iconst 1, 1) := by decide +kernel
theorem dL_law_268 : decode cL_law 268 = .ok (.iadd, 1) := by decide +kernel
theorem dL_law_269 : decode cL_law 269 = .ok (.iaload, 1) := by decide +kernel
theorem dL_law_270 : decode cL_law 270 = .ok (.invokevirtual 67, 3) := by decide +kernel
theorem dL_law_273 : decode cL_law 273 = .ok (.if_icmp .eq 404, 3) := by decide +kernel
theorem dL_law_276 : decode cL_law 276 = .ok (.iconst 0, 1) := by decide +kernel
theorem dL_law_277 : decode cL_law 277 = .ok (.ireturn, 1) := by decide +kernel
theorem dL_law_278 : decode cL_law 278 = .ok (.aload_n 1, 1) := by decide +kernel
theorem dL_law_279 : decode cL_law 279 = .ok (.aload_n 0, 1) := by decide +kernel
theorem dL_law_280 : decode cL_law 280 = .ok (.iload 5, 2) := by decide +kernel
theorem dL_law_282 : decode cL_law 282 = .ok (.iconst 1, 1) := by decide +kernel
theorem dL_law_283 : decode cL_law 283 = .ok (.iadd, 1) := by decide +kernel
theorem dL_law_284 : decode cL_law 284 = .ok (.iaload, 1) := by decide +kernel
theorem dL_law_285 : decode cL_law 285 = .ok (.aload_n 0, 1) := by decide +kernel
theorem dL_law_286 : decode cL_law 286 = .ok (.iload 5, 2) := by decide +kernel
theorem dL_law_288 : decode cL_law 288 = .ok (.iconst 2, 1) := by decide +kernel
theorem dL_law_289 : decode cL_law 289 = .ok (.iadd, 1) := by decide +kernel
theorem dL_law_290 : decode cL_law 290 = .ok (.iaload, 1) := by decide +kernel
theorem dL_law_291 : decode cL_law 291 = .ok (.aload_n 0, 1) := by decide +kernel
theorem dL_law_292 : decode cL_law 292 = .ok (.iload 5, 2) := by decide +kernel
theorem dL_law_294 : decode cL_law 294 = .ok (.iconst 3, 1) := by decide +kernel
theorem dL_law_295 : decode cL_law 295 = .ok (.iadd, 1) := by decide +kernel
theorem dL_law_296 : decode cL_law 296 = .ok (.iaload, 1) := by decide +kernel
theorem dL_law_297 : decode cL_law 297 = .ok (.aload_n 3, 1) := by decide +kernel
theorem dL_law_298 : decode cL_law 298 = .ok (.invokestatic 68, 3) := by decide +kernel
theorem dL_law_301 : decode cL_law 301 = .ok (.istore 6, 2) := by decide +kernel
theorem dL_law_303 : decode cL_law 303 = .ok (.aload_n 2, 1) := by decide +kernel
theorem dL_law_304 : decode cL_law 304 = .ok (.aload_n 0, 1) := by decide +kernel
theorem dL_law_305 : decode cL_law 305 = .ok (.iload 5, 2) := by decide +kernel
theorem dL_law_307 : decode cL_law 307 = .ok (.iconst 1, 1) := by decide +kernel
theorem dL_law_308 : decode cL_law 308 = .ok (.iadd, 1) := by decide +kernel
theorem dL_law_309 : decode cL_law 309 = .ok (.iaload, 1) := by decide +kernel
theorem dL_law_310 : decode cL_law 310 = .ok (.aload_n 0, 1) := by decide +kernel
theorem dL_law_311 : decode cL_law 311 = .ok (.iload 5, 2) := by decide +kernel
theorem dL_law_313 : decode cL_law 313 = .ok (.iconst 2, 1) := by decide +kernel
theorem dL_law_314 : decode cL_law 314 = .ok (.iadd, 1) := by decide +kernel
theorem dL_law_315 : decode cL_law 315 = .ok (.iaload, 1) := by decide +kernel
theorem dL_law_316 : decode cL_law 316 = .ok (.aload_n 0, 1) := by decide +kernel
theorem dL_law_317 : decode cL_law 317 = .ok (.iload 5, 2) := by decide +kernel
theorem dL_law_319 : decode cL_law 319 = .ok (.iconst 3, 1) := by decide +kernel
theorem dL_law_320 : decode cL_law 320 = .ok (.iadd, 1) := by decide +kernel
theorem dL_law_321 : decode cL_law 321 = .ok (.iaload, 1) := by decide +kernel
theorem dL_law_322 : decode cL_law 322 = .ok (.invokevirtual 71, 3) := by decide +kernel
theorem dL_law_325 : decode cL_law 325 = .ok (.lstore 7, 2) := by decide +kernel
theorem dL_law_327 : decode cL_law 327 = .ok (.aload_n 2, 1) := by decide +kernel
theorem dL_law_328 : decode cL_law 328 = .ok (.invokevirtual 53, 3) := by decide +kernel
theorem dL_law_331 : decode cL_law 331 = .ok (.iload 6, 2) := by decide +kernel
theorem dL_law_333 : decode cL_law 333 = .ok (.if_icmp .eq 5, 3) := by decide +kernel
theorem dL_law_336 : decode cL_law 336 = .ok (.iconst 0, 1) := by decide +kernel
theorem dL_law_337 : decode cL_law 337 = .ok (.ireturn, 1) := by decide +kernel
theorem dL_law_338 : decode cL_law 338 = .ok (.iload 6, 2) := by decide +kernel
theorem dL_law_340 : decode cL_law 340 = .ok (.ifCond .ne 14, 3) := by decide +kernel
theorem dL_law_343 : decode cL_law 343 = .ok (.aload_n 3, 1) := by decide +kernel
theorem dL_law_344 : decode cL_law 344 = .ok (.iconst 0, 1) := by decide +kernel
theorem dL_law_345 : decode cL_law 345 = .ok (.laload, 1) := by decide +kernel
theorem dL_law_346 : decode cL_law 346 = .ok (.lload 7, 2) := by decide +kernel
theorem dL_law_348 : decode cL_law 348 = .ok (.lcmp, 1) := by decide +kernel
theorem dL_law_349 : decode cL_law 349 = .ok (.ifCond .eq 5, 3) := by decide +kernel
theorem dL_law_352 : decode cL_law 352 = .ok (.iconst 0, 1) := by decide +kernel
theorem dL_law_353 : decode cL_law 353 = .ok (.ireturn, 1) := by decide +kernel
theorem dL_law_354 : decode cL_law 354 = .ok (.goto 323, 3) := by decide +kernel
theorem dL_law_357 : decode cL_law 357 = .ok (.aload_n 1, 1) := by decide +kernel
theorem dL_law_358 : decode cL_law 358 = .ok (.aload_n 0, 1) := by decide +kernel
theorem dL_law_359 : decode cL_law 359 = .ok (.iload 5, 2) := by decide +kernel
theorem dL_law_361 : decode cL_law 361 = .ok (.iconst 1, 1) := by decide +kernel
theorem dL_law_362 : decode cL_law 362 = .ok (.iadd, 1) := by decide +kernel
theorem dL_law_363 : decode cL_law 363 = .ok (.iaload, 1) := by decide +kernel
theorem dL_law_364 : decode cL_law 364 = .ok (.aload_n 0, 1) := by decide +kernel
theorem dL_law_365 : decode cL_law 365 = .ok (.iload 5, 2) := by decide +kernel
theorem dL_law_367 : decode cL_law 367 = .ok (.iconst 2, 1) := by decide +kernel
theorem dL_law_368 : decode cL_law 368 = .ok (.iadd, 1) := by decide +kernel
theorem dL_law_369 : decode cL_law 369 = .ok (.iaload, 1) := by decide +kernel
theorem dL_law_370 : decode cL_law 370 = .ok (.aload_n 0, 1) := by decide +kernel
theorem dL_law_371 : decode cL_law 371 = .ok (.iload 5, 2) := by decide +kernel
theorem dL_law_373 : decode cL_law 373 = .ok (.iconst 3, 1) := by decide +kernel
theorem dL_law_374 : decode cL_law 374 = .ok (.iadd, 1) := by decide +kernel
theorem dL_law_375 : decode cL_law 375 = .ok (.iaload, 1) := by decide +kernel
theorem dL_law_376 : decode cL_law 376 = .ok (.aload_n 3, 1) := by decide +kernel
theorem dL_law_377 : decode cL_law 377 = .ok (.invokestatic 72, 3) := by decide +kernel
theorem dL_law_380 : decode cL_law 380 = .ok (.istore 6, 2) := by decide +kernel
theorem dL_law_382 : decode cL_law 382 = .ok (.aload_n 2, 1) := by decide +kernel
theorem dL_law_383 : decode cL_law 383 = .ok (.aload_n 0, 1) := by decide +kernel
theorem dL_law_384 : decode cL_law 384 = .ok (.iload 5, 2) := by decide +kernel
theorem dL_law_386 : decode cL_law 386 = .ok (.iconst 1, 1) := by decide +kernel
theorem dL_law_387 : decode cL_law 387 = .ok (.iadd, 1) := by decide +kernel
theorem dL_law_388 : decode cL_law 388 = .ok (.iaload, 1) := by decide +kernel
theorem dL_law_389 : decode cL_law 389 = .ok (.aload_n 0, 1) := by decide +kernel
theorem dL_law_390 : decode cL_law 390 = .ok (.iload 5, 2) := by decide +kernel
theorem dL_law_392 : decode cL_law 392 = .ok (.iconst 2, 1) := by decide +kernel
theorem dL_law_393 : decode cL_law 393 = .ok (.iadd, 1) := by decide +kernel
theorem dL_law_394 : decode cL_law 394 = .ok (.iaload, 1) := by decide +kernel
theorem dL_law_395 : decode cL_law 395 = .ok (.aload_n 0, 1) := by decide +kernel
theorem dL_law_396 : decode cL_law 396 = .ok (.iload 5, 2) := by decide +kernel
theorem dL_law_398 : decode cL_law 398 = .ok (.iconst 3, 1) := by decide +kernel
theorem dL_law_399 : decode cL_law 399 = .ok (.iadd, 1) := by decide +kernel
theorem dL_law_400 : decode cL_law 400 = .ok (.iaload, 1) := by decide +kernel
theorem dL_law_401 : decode cL_law 401 = .ok (.invokevirtual 74, 3) := by decide +kernel
theorem dL_law_404 : decode cL_law 404 = .ok (.lstore 7, 2) := by decide +kernel
theorem dL_law_406 : decode cL_law 406 = .ok (.aload_n 2, 1) := by decide +kernel
theorem dL_law_407 : decode cL_law 407 = .ok (.invokevirtual 53, 3) := by decide +kernel
theorem dL_law_410 : decode cL_law 410 = .ok (.iload 6, 2) := by decide +kernel
theorem dL_law_412 : decode cL_law 412 = .ok (.if_icmp .eq 5, 3) := by decide +kernel
theorem dL_law_415 : decode cL_law 415 = .ok (.iconst 0, 1) := by decide +kernel
theorem dL_law_416 : decode cL_law 416 = .ok (.ireturn, 1) := by decide +kernel
theorem dL_law_417 : decode cL_law 417 = .ok (.iload 6, 2) := by decide +kernel
theorem dL_law_419 : decode cL_law 419 = .ok (.ifCond .ne 14, 3) := by decide +kernel
theorem dL_law_422 : decode cL_law 422 = .ok (.aload_n 3, 1) := by decide +kernel
theorem dL_law_423 : decode cL_law 423 = .ok (.iconst 0, 1) := by decide +kernel
theorem dL_law_424 : decode cL_law 424 = .ok (.laload, 1) := by decide +kernel
theorem dL_law_425 : decode cL_law 425 = .ok (.lload 7, 2) := by decide +kernel
theorem dL_law_427 : decode cL_law 427 = .ok (.lcmp, 1) := by decide +kernel
theorem dL_law_428 : decode cL_law 428 = .ok (.ifCond .eq 5, 3) := by decide +kernel
theorem dL_law_431 : decode cL_law 431 = .ok (.iconst 0, 1) := by decide +kernel
theorem dL_law_432 : decode cL_law 432 = .ok (.ireturn, 1) := by decide +kernel
theorem dL_law_433 : decode cL_law 433 = .ok (.goto 244, 3) := by decide +kernel
theorem dL_law_436 : decode cL_law 436 = .ok (.aload_n 1, 1) := by decide +kernel
theorem dL_law_437 : decode cL_law 437 = .ok (.aload_n 0, 1) := by decide +kernel
theorem dL_law_438 : decode cL_law 438 = .ok (.iload 5, 2) := by decide +kernel
theorem dL_law_440 : decode cL_law 440 = .ok (.iconst 1, 1) := by decide +kernel
theorem dL_law_441 : decode cL_law 441 = .ok (.iadd, 1) := by decide +kernel
theorem dL_law_442 : decode cL_law 442 = .ok (.iaload, 1) := by decide +kernel
theorem dL_law_443 : decode cL_law 443 = .ok (.aload_n 0, 1) := by decide +kernel
theorem dL_law_444 : decode cL_law 444 = .ok (.iload 5, 2) := by decide +kernel
theorem dL_law_446 : decode cL_law 446 = .ok (.iconst 2, 1) := by decide +kernel
theorem dL_law_447 : decode cL_law 447 = .ok (.iadd, 1) := by decide +kernel
theorem dL_law_448 : decode cL_law 448 = .ok (.iaload, 1) := by decide +kernel
theorem dL_law_449 : decode cL_law 449 = .ok (.aload_n 3, 1) := by decide +kernel
theorem dL_law_450 : decode cL_law 450 = .ok (.invokestatic 75, 3) := by decide +kernel
theorem dL_law_453 : decode cL_law 453 = .ok (.istore 6, 2) := by decide +kernel
theorem dL_law_455 : decode cL_law 455 = .ok (.aload_n 2, 1) := by decide +kernel
theorem dL_law_456 : decode cL_law 456 = .ok (.aload_n 0, 1) := by decide +kernel
theorem dL_law_457 : decode cL_law 457 = .ok (.iload 5, 2) := by decide +kernel
theorem dL_law_459 : decode cL_law 459 = .ok (.iconst 1, 1) := by decide +kernel
theorem dL_law_460 : decode cL_law 460 = .ok (.iadd, 1) := by decide +kernel
theorem dL_law_461 : decode cL_law 461 = .ok (.iaload, 1) := by decide +kernel
theorem dL_law_462 : decode cL_law 462 = .ok (.aload_n 0, 1) := by decide +kernel
theorem dL_law_463 : decode cL_law 463 = .ok (.iload 5, 2) := by decide +kernel
theorem dL_law_465 : decode cL_law 465 = .ok (.iconst 2, 1) := by decide +kernel
theorem dL_law_466 : decode cL_law 466 = .ok (.iadd, 1) := by decide +kernel
theorem dL_law_467 : decode cL_law 467 = .ok (.iaload, 1) := by decide +kernel
theorem dL_law_468 : decode cL_law 468 = .ok (.invokevirtual 78, 3) := by decide +kernel
theorem dL_law_471 : decode cL_law 471 = .ok (.lstore 7, 2) := by decide +kernel
theorem dL_law_473 : decode cL_law 473 = .ok (.aload_n 2, 1) := by decide +kernel
theorem dL_law_474 : decode cL_law 474 = .ok (.invokevirtual 53, 3) := by decide +kernel
theorem dL_law_477 : decode cL_law 477 = .ok (.iload 6, 2) := by decide +kernel
theorem dL_law_479 : decode cL_law 479 = .ok (.if_icmp .eq 5, 3) := by decide +kernel
theorem dL_law_482 : decode cL_law 482 = .ok (.iconst 0, 1) := by decide +kernel
theorem dL_law_483 : decode cL_law 483 = .ok (.ireturn, 1) := by decide +kernel
theorem dL_law_484 : decode cL_law 484 = .ok (.iload 6, 2) := by decide +kernel
theorem dL_law_486 : decode cL_law 486 = .ok (.ifCond .ne 14, 3) := by decide +kernel
theorem dL_law_489 : decode cL_law 489 = .ok (.aload_n 3, 1) := by decide +kernel
theorem dL_law_490 : decode cL_law 490 = .ok (.iconst 0, 1) := by decide +kernel
theorem dL_law_491 : decode cL_law 491 = .ok (.laload, 1) := by decide +kernel
theorem dL_law_492 : decode cL_law 492 = .ok (.lload 7, 2) := by decide +kernel
theorem dL_law_494 : decode cL_law 494 = .ok (.lcmp, 1) := by decide +kernel
theorem dL_law_495 : decode cL_law 495 = .ok (.ifCond .eq 5, 3) := by decide +kernel
theorem dL_law_498 : decode cL_law 498 = .ok (.iconst 0, 1) := by decide +kernel
theorem dL_law_499 : decode cL_law 499 = .ok (.ireturn, 1) := by decide +kernel
theorem dL_law_500 : decode cL_law 500 = .ok (.goto 177, 3) := by decide +kernel
theorem dL_law_503 : decode cL_law 503 = .ok (.aload_n 1, 1) := by decide +kernel
theorem dL_law_504 : decode cL_law 504 = .ok (.aload_n 0, 1) := by decide +kernel
theorem dL_law_505 : decode cL_law 505 = .ok (.iload 5, 2) := by decide +kernel
theorem dL_law_507 : decode cL_law 507 = .ok (.iconst 1, 1) := by decide +kernel
theorem dL_law_508 : decode cL_law 508 = .ok (.iadd, 1) := by decide +kernel
theorem dL_law_509 : decode cL_law 509 = .ok (.iaload, 1) := by decide +kernel
theorem dL_law_510 : decode cL_law 510 = .ok (.i2d, 1) := by decide +kernel
theorem dL_law_511 : decode cL_law 511 = .ok (.ldc2_w 79, 3) := by decide +kernel
theorem dL_law_514 : decode cL_law 514 = .ok (.dmul, 1) := by decide +kernel
theorem dL_law_515 : decode cL_law 515 = .ok (.aload 4, 2) := by decide +kernel
theorem dL_law_517 : decode cL_law 517 = .ok (.invokestatic 81, 3) := by decide +kernel
theorem dL_law_520 : decode cL_law 520 = .ok (.istore 6, 2) := by decide +kernel
theorem dL_law_522 : decode cL_law 522 = .ok (.aload_n 2, 1) := by decide +kernel
theorem dL_law_523 : decode cL_law 523 = .ok (.aload_n 0, 1) := by decide +kernel
theorem dL_law_524 : decode cL_law 524 = .ok (.iload 5, 2) := by decide +kernel
theorem dL_law_526 : decode cL_law 526 = .ok (.iconst 1, 1) := by decide +kernel
theorem dL_law_527 : decode cL_law 527 = .ok (.iadd, 1) := by decide +kernel
theorem dL_law_528 : decode cL_law 528 = .ok (.iaload, 1) := by decide +kernel
theorem dL_law_529 : decode cL_law 529 = .ok (.i2d, 1) := by decide +kernel
theorem dL_law_530 : decode cL_law 530 = .ok (.ldc2_w 79, 3) := by decide +kernel
theorem dL_law_533 : decode cL_law 533 = .ok (.dmul, 1) := by decide +kernel
theorem dL_law_534 : decode cL_law 534 = .ok (.invokevirtual 84, 3) := by decide +kernel
theorem dL_law_537 : decode cL_law 537 = .ok (.dstore 7, 2) := by decide +kernel
theorem dL_law_539 : decode cL_law 539 = .ok (.aload_n 2, 1) := by decide +kernel
theorem dL_law_540 : decode cL_law 540 = .ok (.invokevirtual 53, 3) := by decide +kernel
theorem dL_law_543 : decode cL_law 543 = .ok (.iload 6, 2) := by decide +kernel
theorem dL_law_545 : decode cL_law 545 = .ok (.if_icmp .eq 5, 3) := by decide +kernel
theorem dL_law_548 : decode cL_law 548 = .ok (.iconst 0, 1) := by decide +kernel
theorem dL_law_549 : decode cL_law 549 = .ok (.ireturn, 1) := by decide +kernel
theorem dL_law_550 : decode cL_law 550 = .ok (.iload 6, 2) := by decide +kernel
theorem dL_law_552 : decode cL_law 552 = .ok (.ifCond .ne 35, 3) := by decide +kernel
theorem dL_law_555 : decode cL_law 555 = .ok (.aload 4, 2) := by decide +kernel
theorem dL_law_557 : decode cL_law 557 = .ok (.iconst 0, 1) := by decide +kernel
theorem dL_law_558 : decode cL_law 558 = .ok (.daload, 1) := by decide +kernel
theorem dL_law_559 : decode cL_law 559 = .ok (.dload 7, 2) := by decide +kernel
theorem dL_law_561 : decode cL_law 561 = .ok (.dcmp .l, 1) := by decide +kernel
theorem dL_law_562 : decode cL_law 562 = .ok (.ifCond .eq 25, 3) := by decide +kernel
theorem dL_law_565 : decode cL_law 565 = .ok (.aload 4, 2) := by decide +kernel
theorem dL_law_567 : decode cL_law 567 = .ok (.iconst 0, 1) := by decide +kernel
theorem dL_law_568 : decode cL_law 568 = .ok (.daload, 1) := by decide +kernel
theorem dL_law_569 : decode cL_law 569 = .ok (.aload 4, 2) := by decide +kernel
theorem dL_law_571 : decode cL_law 571 = .ok (.iconst 0, 1) := by decide +kernel
theorem dL_law_572 : decode cL_law 572 = .ok (.daload, 1) := by decide +kernel
theorem dL_law_573 : decode cL_law 573 = .ok (.dcmp .l, 1) := by decide +kernel
theorem dL_law_574 : decode cL_law 574 = .ok (.ifCond .eq 11, 3) := by decide +kernel
theorem dL_law_577 : decode cL_law 577 = .ok (.dload 7, 2) := by decide +kernel
theorem dL_law_579 : decode cL_law 579 = .ok (.dload 7, 2) := by decide +kernel
theorem dL_law_581 : decode cL_law 581 = .ok (.dcmp .l, 1) := by decide +kernel
theorem dL_law_582 : decode cL_law 582 = .ok (.ifCond .ne 5, 3) := by decide +kernel
theorem dL_law_585 : decode cL_law 585 = .ok (.iconst 0, 1) := by decide +kernel
theorem dL_law_586 : decode cL_law 586 = .ok (.ireturn, 1) := by decide +kernel
theorem dL_law_587 : decode cL_law 587 = .ok (.goto 90, 3) := by decide +kernel
theorem dL_law_590 : decode cL_law 590 = .ok (.aload_n 1, 1) := by decide +kernel
theorem dL_law_591 : decode cL_law 591 = .ok (.aload_n 0, 1) := by decide +kernel
theorem dL_law_592 : decode cL_law 592 = .ok (.iload 5, 2) := by decide +kernel
theorem dL_law_594 : decode cL_law 594 = .ok (.iconst 1, 1) := by decide +kernel
theorem dL_law_595 : decode cL_law 595 = .ok (.iadd, 1) := by decide +kernel
theorem dL_law_596 : decode cL_law 596 = .ok (.iaload, 1) := by decide +kernel
theorem dL_law_597 : decode cL_law 597 = .ok (.i2d, 1) := by decide +kernel
theorem dL_law_598 : decode cL_law 598 = .ok (.ldc2_w 79, 3) := by decide +kernel
theorem dL_law_601 : decode cL_law 601 = .ok (.dmul, 1) := by decide +kernel
theorem dL_law_602 : decode cL_law 602 = .ok (.aload 4, 2) := by decide +kernel
theorem dL_law_604 : decode cL_law 604 = .ok (.invokestatic 85, 3) := by decide +kernel
theorem dL_law_607 : decode cL_law 607 = .ok (.istore 6, 2) := by decide +kernel
theorem dL_law_609 : decode cL_law 609 = .ok (.aload_n 2, 1) := by decide +kernel
theorem dL_law_610 : decode cL_law 610 = .ok (.aload_n 0, 1) := by decide +kernel
theorem dL_law_611 : decode cL_law 611 = .ok (.iload 5, 2) := by decide +kernel
theorem dL_law_613 : decode cL_law 613 = .ok (.iconst 1, 1) := by decide +kernel
theorem dL_law_614 : decode cL_law 614 = .ok (.iadd, 1) := by decide +kernel
theorem dL_law_615 : decode cL_law 615 = .ok (.iaload, 1) := by decide +kernel
theorem dL_law_616 : decode cL_law 616 = .ok (.i2d, 1) := by decide +kernel
theorem dL_law_617 : decode cL_law 617 = .ok (.ldc2_w 79, 3) := by decide +kernel
theorem dL_law_620 : decode cL_law 620 = .ok (.dmul, 1) := by decide +kernel
theorem dL_law_621 : decode cL_law 621 = .ok (.invokevirtual 87, 3) := by decide +kernel
theorem dL_law_624 : decode cL_law 624 = .ok (.dstore 7, 2) := by decide +kernel
theorem dL_law_626 : decode cL_law 626 = .ok (.aload_n 2, 1) := by decide +kernel
theorem dL_law_627 : decode cL_law 627 = .ok (.invokevirtual 53, 3) := by decide +kernel
theorem dL_law_630 : decode cL_law 630 = .ok (.iload 6, 2) := by decide +kernel
theorem dL_law_632 : decode cL_law 632 = .ok (.if_icmp .eq 5, 3) := by decide +kernel
theorem dL_law_635 : decode cL_law 635 = .ok (.iconst 0, 1) := by decide +kernel
theorem dL_law_636 : decode cL_law 636 = .ok (.ireturn, 1) := by decide +kernel
theorem dL_law_637 : decode cL_law 637 = .ok (.iload 6, 2) := by decide +kernel
theorem dL_law_639 : decode cL_law 639 = .ok (.ifCond .ne 35, 3) := by decide +kernel
theorem dL_law_642 : decode cL_law 642 = .ok (.aload 4, 2) := by decide +kernel
theorem dL_law_644 : decode cL_law 644 = .ok (.iconst 0, 1) := by decide +kernel
theorem dL_law_645 : decode cL_law 645 = .ok (.daload, 1) := by decide +kernel
theorem dL_law_646 : decode cL_law 646 = .ok (.dload 7, 2) := by decide +kernel
theorem dL_law_648 : decode cL_law 648 = .ok (.dcmp .l, 1) := by decide +kernel
theorem dL_law_649 : decode cL_law 649 = .ok (.ifCond .eq 25, 3) := by decide +kernel
theorem dL_law_652 : decode cL_law 652 = .ok (.aload 4, 2) := by decide +kernel
theorem dL_law_654 : decode cL_law 654 = .ok (.iconst 0, 1) := by decide +kernel
theorem dL_law_655 : decode cL_law 655 = .ok (.daload, 1) := by decide +kernel
theorem dL_law_656 : decode cL_law 656 = .ok (.aload 4, 2) := by decide +kernel
theorem dL_law_658 : decode cL_law 658 = .ok (.iconst 0, 1) := by decide +kernel
theorem dL_law_659 : decode cL_law 659 = .ok (.daload, 1) := by decide +kernel
theorem dL_law_660 : decode cL_law 660 = .ok (.dcmp .l, 1) := by decide +kernel
theorem dL_law_661 : decode cL_law 661 = .ok (.ifCond .eq 11, 3) := by decide +kernel
theorem dL_law_664 : decode cL_law 664 = .ok (.dload 7, 2) := by decide +kernel
theorem dL_law_666 : decode cL_law 666 = .ok (.dload 7, 2) := by decide +kernel
theorem dL_law_668 : decode cL_law 668 = .ok (.dcmp .l, 1) := by decide +kernel
theorem dL_law_669 : decode cL_law 669 = .ok (.ifCond .ne 5, 3) := by decide +kernel
theorem dL_law_672 : decode cL_law 672 = .ok (.iconst 0, 1) := by decide +kernel
theorem dL_law_673 : decode cL_law 673 = .ok (.ireturn, 1) := by decide +kernel
theorem dL_law_674 : decode cL_law 674 = .ok (.goto 3, 3) := by decide +kernel
theorem dL_law_677 : decode cL_law 677 = .ok (.iinc 5 4, 3) := by decide +kernel
theorem dL_law_680 : decode cL_law 680 = .ok (.goto (-652), 3) := by decide +kernel
theorem dL_law_683 : decode cL_law 683 = .ok (.iconst 1, 1) := by decide +kernel
theorem dL_law_684 : decode cL_law 684 = .ok (.ireturn, 1) := by decide +kernel
end
section
/-! Z: the machine's state as pure data: cells and slots used, the world's cells, the locals, the pc, the stack. Zd says it of W; Gd hides all that a body never looks at. -/
abbrev TY (k : Nat → ClassId) : List (ClassId × FieldType) := [(k 0, .char), (k 1, .int), (k 2, .long), (k 3, .double)]
abbrev ZT : Type := Nat → Nat → va_W → List (Nat × Value) → Nat → List Value → Prop
def Zd (p : Program) (l : Launch) (e : Env) (R : Room) (s : State) (m : MethodId) (args : Array Value) (below : List Frame) (meth : Method) (c : Code) (Q : State → Prop) (G : va_G) (A : Nat → Prop) (nL : Nat) : ZT :=
  fun cells slots w lv pc st => ∀ (H : Heap) (locs : List Loc) (ls : Array Slot), va_P G vwCl w H → va_D A w → va_S A s.heap H locs → lv_has ls nL lv → W p l e R s m args below meth c H locs cells slots Q (F0 m pc ls st)
def Gd (l : Launch) (R : Room) (cc : ByteArray) (nL : Nat) (own : String) (Ts : List Cond) (G : va_G) (k : Nat → ClassId) (Z : ZT) : Prop :=
  ∃ (p : Program) (e : Env) (s : State) (m : MethodId) (args : Array Value) (below : List Frame) (meth : Method) (c : Code) (Q : State → Prop) (A : Nat → Prop), Z = Zd p l e R s m args below meth c Q G A nL ∧ p.tables.exec = Jvm.exec ∧ c.code = cc ∧ c.maxLocals = nL ∧ s.vm.findClass own = some m.cls ∧ (∀ w ∈ Ts, w.before args s = true) ∧ va_K G vwCl (TY k) s ∧ (∀ q, s.heap.size ≤ q → A q)
def KP (G : va_G) (k : Nat → ClassId) (ws : va_W) (sz : Nat) : State → Prop := fun U => U.heap.size = sz ∧ va_P G vwCl ws U.heap ∧ va_K G vwCl (TY k) U ∧ va_D (fun _ => True) ws
def KQ (G : va_G) (w1 : va_W) (A : Nat → Prop) : Unit → State → Prop := fun _ t => va_P G vwCl w1 t.heap ∧ va_D A w1
theorem KP_blind {G : va_G} {k : Nat → ClassId} {ws : va_W} {sz : Nat} {av : List Value} : FrameBlind (va_Pc av (KP G k ws sz)) := fun a U g mk q => by
  obtain ⟨q0, q1, qP, qK, qD⟩ := q
  exact ⟨q0, q1, qP, va_K.moved (u := U) (U := U.calling g mk a) (Vm.Alike.refl U.vm) qK, qD⟩
theorem va_fm {w w' : va_W} {is : List Nat} (h : is.map (fun i => w[i]?) = w'.map some) : is.filterMap (fun i => w[i]?) = w' := by
  have h2 : (is.map (fun i => w[i]?)).filterMap id = is.filterMap (fun i => w[i]?) := by rw [List.filterMap_map]; rfl
  rw [← h2, h, List.filterMap_map]
  exact List.filterMap_some
section ZR
variable {l : Launch} {R : Room} {cc : ByteArray} {nL : Nat} {own : String} {Ts : List Cond} {G : va_G} {k : Nat → ClassId} {Z : ZT}
variable {c0 s0 : Nat} {w : va_W} {lv lv' : List (Nat × Value)} {pc : Nat} {rest : List Value}

theorem z_iload_n (g : Gd l R cc nL own Ts G k Z) {kk0 : Fin 4} {x : Int32} (hd : decode cc pc = .ok (.iload_n kk0, 1)) (q : Nat) (hq : lv[q]? = some ((kk0 : Nat), .int x)) (kk : Z c0 s0 w lv (pc + 1) (.int x :: rest)) : Z c0 s0 w lv pc (rest) := by
  obtain ⟨p, e, s, m, args, below, meth, c, Q, A, rfl, hx, hb, hml, hown, hts, hK, hA⟩ := g
  intro H locs ls hP hD hS hl
  exact lv_iload_n hx hb hd rfl (lv_at hl q hq) (kk H locs ls hP hD hS hl)
theorem z_iload (g : Gd l R cc nL own Ts G k Z) {i : Nat} {x : Int32} (hd : decode cc pc = .ok (.iload i, 2)) (q : Nat) (hq : lv[q]? = some (i, .int x)) (kk : Z c0 s0 w lv (pc + 2) (.int x :: rest)) : Z c0 s0 w lv pc (rest) := by
  obtain ⟨p, e, s, m, args, below, meth, c, Q, A, rfl, hx, hb, hml, hown, hts, hK, hA⟩ := g
  intro H locs ls hP hD hS hl
  exact lv_iload hx hb hd (lv_at hl q hq) (kk H locs ls hP hD hS hl)
theorem z_lload_n (g : Gd l R cc nL own Ts G k Z) {kk0 : Fin 4} {x : Int64} (hd : decode cc pc = .ok (.lload_n kk0, 1)) (q : Nat) (hq : lv[q]? = some ((kk0 : Nat), .long x)) (kk : Z c0 s0 w lv (pc + 1) (.long x :: rest)) : Z c0 s0 w lv pc (rest) := by
  obtain ⟨p, e, s, m, args, below, meth, c, Q, A, rfl, hx, hb, hml, hown, hts, hK, hA⟩ := g
  intro H locs ls hP hD hS hl
  exact lv_lload_n hx hb hd rfl (lv_at hl q hq) (kk H locs ls hP hD hS hl)
theorem z_lload (g : Gd l R cc nL own Ts G k Z) {i : Nat} {x : Int64} (hd : decode cc pc = .ok (.lload i, 2)) (q : Nat) (hq : lv[q]? = some (i, .long x)) (kk : Z c0 s0 w lv (pc + 2) (.long x :: rest)) : Z c0 s0 w lv pc (rest) := by
  obtain ⟨p, e, s, m, args, below, meth, c, Q, A, rfl, hx, hb, hml, hown, hts, hK, hA⟩ := g
  intro H locs ls hP hD hS hl
  exact lv_lload hx hb hd (lv_at hl q hq) (kk H locs ls hP hD hS hl)
theorem z_dload_n (g : Gd l R cc nL own Ts G k Z) {kk0 : Fin 4} {x : UInt64} (hd : decode cc pc = .ok (.dload_n kk0, 1)) (q : Nat) (hq : lv[q]? = some ((kk0 : Nat), .double x)) (kk : Z c0 s0 w lv (pc + 1) (.double x :: rest)) : Z c0 s0 w lv pc (rest) := by
  obtain ⟨p, e, s, m, args, below, meth, c, Q, A, rfl, hx, hb, hml, hown, hts, hK, hA⟩ := g
  intro H locs ls hP hD hS hl
  exact lv_dload_n hx hb hd rfl (lv_at hl q hq) (kk H locs ls hP hD hS hl)
theorem z_dload (g : Gd l R cc nL own Ts G k Z) {i : Nat} {x : UInt64} (hd : decode cc pc = .ok (.dload i, 2)) (q : Nat) (hq : lv[q]? = some (i, .double x)) (kk : Z c0 s0 w lv (pc + 2) (.double x :: rest)) : Z c0 s0 w lv pc (rest) := by
  obtain ⟨p, e, s, m, args, below, meth, c, Q, A, rfl, hx, hb, hml, hown, hts, hK, hA⟩ := g
  intro H locs ls hP hD hS hl
  exact lv_dload hx hb hd (lv_at hl q hq) (kk H locs ls hP hD hS hl)
theorem z_aload_n (g : Gd l R cc nL own Ts G k Z) {kk0 : Fin 4} {x : Nat} (hd : decode cc pc = .ok (.aload_n kk0, 1)) (q : Nat) (hq : lv[q]? = some ((kk0 : Nat), .ref x)) (kk : Z c0 s0 w lv (pc + 1) (.ref x :: rest)) : Z c0 s0 w lv pc (rest) := by
  obtain ⟨p, e, s, m, args, below, meth, c, Q, A, rfl, hx, hb, hml, hown, hts, hK, hA⟩ := g
  intro H locs ls hP hD hS hl
  exact lv_aload_n hx hb hd rfl (lv_at hl q hq) (kk H locs ls hP hD hS hl)
theorem z_aload (g : Gd l R cc nL own Ts G k Z) {i : Nat} {x : Nat} (hd : decode cc pc = .ok (.aload i, 2)) (q : Nat) (hq : lv[q]? = some (i, .ref x)) (kk : Z c0 s0 w lv (pc + 2) (.ref x :: rest)) : Z c0 s0 w lv pc (rest) := by
  obtain ⟨p, e, s, m, args, below, meth, c, Q, A, rfl, hx, hb, hml, hown, hts, hK, hA⟩ := g
  intro H locs ls hP hD hS hl
  exact lv_aload hx hb hd (lv_at hl q hq) (kk H locs ls hP hD hS hl)
theorem z_icm1 (g : Gd l R cc nL own Ts G k Z) (hd : decode cc pc = .ok (.iconst (-1), 1)) (kk : Z c0 s0 w lv (pc + 1) (.int (-1) :: rest)) : Z c0 s0 w lv pc (rest) := by
  obtain ⟨p, e, s, m, args, below, meth, c, Q, A, rfl, hx, hb, hml, hown, hts, hK, hA⟩ := g
  intro H locs ls hP hD hS hl
  exact lv_iconst (v := (-1)) hx hb hd (by decide) (kk H locs ls hP hD hS hl)
theorem z_ic0 (g : Gd l R cc nL own Ts G k Z) (hd : decode cc pc = .ok (.iconst (0), 1)) (kk : Z c0 s0 w lv (pc + 1) (.int (0) :: rest)) : Z c0 s0 w lv pc (rest) := by
  obtain ⟨p, e, s, m, args, below, meth, c, Q, A, rfl, hx, hb, hml, hown, hts, hK, hA⟩ := g
  intro H locs ls hP hD hS hl
  exact lv_iconst (v := (0)) hx hb hd (by decide) (kk H locs ls hP hD hS hl)
theorem z_ic1 (g : Gd l R cc nL own Ts G k Z) (hd : decode cc pc = .ok (.iconst (1), 1)) (kk : Z c0 s0 w lv (pc + 1) (.int (1) :: rest)) : Z c0 s0 w lv pc (rest) := by
  obtain ⟨p, e, s, m, args, below, meth, c, Q, A, rfl, hx, hb, hml, hown, hts, hK, hA⟩ := g
  intro H locs ls hP hD hS hl
  exact lv_iconst (v := (1)) hx hb hd (by decide) (kk H locs ls hP hD hS hl)
theorem z_ic2 (g : Gd l R cc nL own Ts G k Z) (hd : decode cc pc = .ok (.iconst (2), 1)) (kk : Z c0 s0 w lv (pc + 1) (.int (2) :: rest)) : Z c0 s0 w lv pc (rest) := by
  obtain ⟨p, e, s, m, args, below, meth, c, Q, A, rfl, hx, hb, hml, hown, hts, hK, hA⟩ := g
  intro H locs ls hP hD hS hl
  exact lv_iconst (v := (2)) hx hb hd (by decide) (kk H locs ls hP hD hS hl)
theorem z_ic3 (g : Gd l R cc nL own Ts G k Z) (hd : decode cc pc = .ok (.iconst (3), 1)) (kk : Z c0 s0 w lv (pc + 1) (.int (3) :: rest)) : Z c0 s0 w lv pc (rest) := by
  obtain ⟨p, e, s, m, args, below, meth, c, Q, A, rfl, hx, hb, hml, hown, hts, hK, hA⟩ := g
  intro H locs ls hP hD hS hl
  exact lv_iconst (v := (3)) hx hb hd (by decide) (kk H locs ls hP hD hS hl)
theorem z_ic4 (g : Gd l R cc nL own Ts G k Z) (hd : decode cc pc = .ok (.iconst (4), 1)) (kk : Z c0 s0 w lv (pc + 1) (.int (4) :: rest)) : Z c0 s0 w lv pc (rest) := by
  obtain ⟨p, e, s, m, args, below, meth, c, Q, A, rfl, hx, hb, hml, hown, hts, hK, hA⟩ := g
  intro H locs ls hP hD hS hl
  exact lv_iconst (v := (4)) hx hb hd (by decide) (kk H locs ls hP hD hS hl)
theorem z_ic5 (g : Gd l R cc nL own Ts G k Z) (hd : decode cc pc = .ok (.iconst (5), 1)) (kk : Z c0 s0 w lv (pc + 1) (.int (5) :: rest)) : Z c0 s0 w lv pc (rest) := by
  obtain ⟨p, e, s, m, args, below, meth, c, Q, A, rfl, hx, hb, hml, hown, hts, hK, hA⟩ := g
  intro H locs ls hP hD hS hl
  exact lv_iconst (v := (5)) hx hb hd (by decide) (kk H locs ls hP hD hS hl)
theorem z_lc0 (g : Gd l R cc nL own Ts G k Z) (hd : decode cc pc = .ok (.lconst 0, 1)) (kk : Z c0 s0 w lv (pc + 1) (.long 0 :: rest)) : Z c0 s0 w lv pc (rest) := by
  obtain ⟨p, e, s, m, args, below, meth, c, Q, A, rfl, hx, hb, hml, hown, hts, hK, hA⟩ := g
  intro H locs ls hP hD hS hl
  exact lv_lconst (v := 0) hx hb hd (by decide) (kk H locs ls hP hD hS hl)
theorem z_lc1 (g : Gd l R cc nL own Ts G k Z) (hd : decode cc pc = .ok (.lconst 1, 1)) (kk : Z c0 s0 w lv (pc + 1) (.long 1 :: rest)) : Z c0 s0 w lv pc (rest) := by
  obtain ⟨p, e, s, m, args, below, meth, c, Q, A, rfl, hx, hb, hml, hown, hts, hK, hA⟩ := g
  intro H locs ls hP hD hS hl
  exact lv_lconst (v := 1) hx hb hd (by decide) (kk H locs ls hP hD hS hl)
theorem z_bi (g : Gd l R cc nL own Ts G k Z) {n : Int} (v : Int32) (hd : decode cc pc = .ok (.bipush n, 2)) (hv : (Int8.ofInt n).toInt32 = v) (kk : Z c0 s0 w lv (pc + 2) (.int v :: rest)) : Z c0 s0 w lv pc (rest) := by
  obtain ⟨p, e, s, m, args, below, meth, c, Q, A, rfl, hx, hb, hml, hown, hts, hK, hA⟩ := g
  intro H locs ls hP hD hS hl
  exact lv_bipush hx hb hd hv (kk H locs ls hP hD hS hl)
theorem z_dc0 (g : Gd l R cc nL own Ts G k Z) (hd : decode cc pc = .ok (.dconst 0, 1)) (kk : Z c0 s0 w lv (pc + 1) (.double FP.dconst0 :: rest)) : Z c0 s0 w lv pc (rest) := by
  obtain ⟨p, e, s, m, args, below, meth, c, Q, A, rfl, hx, hb, hml, hown, hts, hK, hA⟩ := g
  intro H locs ls hP hD hS hl
  exact lv_dconst0 hx hb hd (kk H locs ls hP hD hS hl)
theorem z_dc1 (g : Gd l R cc nL own Ts G k Z) (hd : decode cc pc = .ok (.dconst 1, 1)) (kk : Z c0 s0 w lv (pc + 1) (.double FP.dconst1 :: rest)) : Z c0 s0 w lv pc (rest) := by
  obtain ⟨p, e, s, m, args, below, meth, c, Q, A, rfl, hx, hb, hml, hown, hts, hK, hA⟩ := g
  intro H locs ls hP hD hS hl
  exact lv_dconst1 hx hb hd (kk H locs ls hP hD hS hl)
theorem z_ldc2 (g : Gd l R cc nL own Ts G k Z) {ix : Nat} {v : Int64} (hd : decode cc pc = .ok (.ldc2_w ix, 3)) (hc : Cond.constantLong own ix v ∈ Ts) (kk : Z c0 s0 w lv (pc + 3) (.long v :: rest)) : Z c0 s0 w lv pc (rest) := by
  obtain ⟨p, e, s, m, args, below, meth, c, Q, A, rfl, hx, hb, hml, hown, hts, hK, hA⟩ := g
  intro H locs ls hP hD hS hl
  exact lv_ldc2 hx hb hown (hts _ hc) hd (kk H locs ls hP hD hS hl)
theorem z_ldc2d (g : Gd l R cc nL own Ts G k Z) {ix : Nat} {v : UInt64} (hd : decode cc pc = .ok (.ldc2_w ix, 3)) (hc : Cond.constantDouble own ix v ∈ Ts) (kk : Z c0 s0 w lv (pc + 3) (.double v :: rest)) : Z c0 s0 w lv pc (rest) := by
  obtain ⟨p, e, s, m, args, below, meth, c, Q, A, rfl, hx, hb, hml, hown, hts, hK, hA⟩ := g
  intro H locs ls hP hD hS hl
  exact lv_ldc2d hx hb hown (hts _ hc) hd (kk H locs ls hP hD hS hl)
theorem z_istore_n (g : Gd l R cc nL own Ts G k Z) {kk0 : Fin 4} (hd : decode cc pc = .ok (.istore_n kk0, 1)) {x : Int32} (hn : ((kk0 : Nat) < nL)) (hl9 : ((kk0 : Nat), Value.int x) :: lv.filter (fun q => !(q.1 == (kk0 : Nat)) && !(q.1 + 1 == (kk0 : Nat) && q.2.category == 2)) = lv') (kk : Z c0 s0 w lv' (pc + 1) rest) : Z c0 s0 w lv pc (.int x :: rest) := by
  obtain ⟨p, e, s, m, args, below, meth, c, Q, A, rfl, hx, hb, hml, hown, hts, hK, hA⟩ := g
  intro H locs ls hP hD hS hl
  exact lv_istore_n hx hb hd rfl hl hn hl9 (fun ls hl => kk H locs ls hP hD hS hl)
theorem z_istore (g : Gd l R cc nL own Ts G k Z) {i : Nat} (hd : decode cc pc = .ok (.istore i, 2)) {x : Int32} (hn : (i < nL)) (hl9 : (i, Value.int x) :: lv.filter (fun q => !(q.1 == i) && !(q.1 + 1 == i && q.2.category == 2)) = lv') (kk : Z c0 s0 w lv' (pc + 2) rest) : Z c0 s0 w lv pc (.int x :: rest) := by
  obtain ⟨p, e, s, m, args, below, meth, c, Q, A, rfl, hx, hb, hml, hown, hts, hK, hA⟩ := g
  intro H locs ls hP hD hS hl
  exact lv_istore hx hb hd hl hn hl9 (fun ls hl => kk H locs ls hP hD hS hl)
theorem z_lstore_n (g : Gd l R cc nL own Ts G k Z) {kk0 : Fin 4} (hd : decode cc pc = .ok (.lstore_n kk0, 1)) {x : Int64} (hn : ((kk0 : Nat) + 1 < nL)) (hl9 : ((kk0 : Nat), Value.long x) :: lv.filter (fun q => !(q.1 == (kk0 : Nat)) && (!(q.1 == (kk0 : Nat) + 1) && !(q.1 + 1 == (kk0 : Nat) && q.2.category == 2))) = lv') (kk : Z c0 s0 w lv' (pc + 1) rest) : Z c0 s0 w lv pc (.long x :: rest) := by
  obtain ⟨p, e, s, m, args, below, meth, c, Q, A, rfl, hx, hb, hml, hown, hts, hK, hA⟩ := g
  intro H locs ls hP hD hS hl
  exact lv_lstore_n hx hb hd rfl hl hn hl9 (fun ls hl => kk H locs ls hP hD hS hl)
theorem z_lstore (g : Gd l R cc nL own Ts G k Z) {i : Nat} (hd : decode cc pc = .ok (.lstore i, 2)) {x : Int64} (hn : (i + 1 < nL)) (hl9 : (i, Value.long x) :: lv.filter (fun q => !(q.1 == i) && (!(q.1 == i + 1) && !(q.1 + 1 == i && q.2.category == 2))) = lv') (kk : Z c0 s0 w lv' (pc + 2) rest) : Z c0 s0 w lv pc (.long x :: rest) := by
  obtain ⟨p, e, s, m, args, below, meth, c, Q, A, rfl, hx, hb, hml, hown, hts, hK, hA⟩ := g
  intro H locs ls hP hD hS hl
  exact lv_lstore hx hb hd hl hn hl9 (fun ls hl => kk H locs ls hP hD hS hl)
theorem z_dstore_n (g : Gd l R cc nL own Ts G k Z) {kk0 : Fin 4} (hd : decode cc pc = .ok (.dstore_n kk0, 1)) {x : UInt64} (hn : ((kk0 : Nat) + 1 < nL)) (hl9 : ((kk0 : Nat), Value.double x) :: lv.filter (fun q => !(q.1 == (kk0 : Nat)) && (!(q.1 == (kk0 : Nat) + 1) && !(q.1 + 1 == (kk0 : Nat) && q.2.category == 2))) = lv') (kk : Z c0 s0 w lv' (pc + 1) rest) : Z c0 s0 w lv pc (.double x :: rest) := by
  obtain ⟨p, e, s, m, args, below, meth, c, Q, A, rfl, hx, hb, hml, hown, hts, hK, hA⟩ := g
  intro H locs ls hP hD hS hl
  exact lv_dstore_n hx hb hd rfl hl hn hl9 (fun ls hl => kk H locs ls hP hD hS hl)
theorem z_dstore (g : Gd l R cc nL own Ts G k Z) {i : Nat} (hd : decode cc pc = .ok (.dstore i, 2)) {x : UInt64} (hn : (i + 1 < nL)) (hl9 : (i, Value.double x) :: lv.filter (fun q => !(q.1 == i) && (!(q.1 == i + 1) && !(q.1 + 1 == i && q.2.category == 2))) = lv') (kk : Z c0 s0 w lv' (pc + 2) rest) : Z c0 s0 w lv pc (.double x :: rest) := by
  obtain ⟨p, e, s, m, args, below, meth, c, Q, A, rfl, hx, hb, hml, hown, hts, hK, hA⟩ := g
  intro H locs ls hP hD hS hl
  exact lv_dstore hx hb hd hl hn hl9 (fun ls hl => kk H locs ls hP hD hS hl)
theorem z_astore_n (g : Gd l R cc nL own Ts G k Z) {kk0 : Fin 4} (hd : decode cc pc = .ok (.astore_n kk0, 1)) {x : Nat} (hn : ((kk0 : Nat) < nL)) (hl9 : ((kk0 : Nat), Value.ref x) :: lv.filter (fun q => !(q.1 == (kk0 : Nat)) && !(q.1 + 1 == (kk0 : Nat) && q.2.category == 2)) = lv') (kk : Z c0 s0 w lv' (pc + 1) rest) : Z c0 s0 w lv pc (.ref x :: rest) := by
  obtain ⟨p, e, s, m, args, below, meth, c, Q, A, rfl, hx, hb, hml, hown, hts, hK, hA⟩ := g
  intro H locs ls hP hD hS hl
  exact lv_astore_n hx hb hd rfl hl hn hl9 (fun ls hl => kk H locs ls hP hD hS hl)
theorem z_astore (g : Gd l R cc nL own Ts G k Z) {i : Nat} (hd : decode cc pc = .ok (.astore i, 2)) {x : Nat} (hn : (i < nL)) (hl9 : (i, Value.ref x) :: lv.filter (fun q => !(q.1 == i) && !(q.1 + 1 == i && q.2.category == 2)) = lv') (kk : Z c0 s0 w lv' (pc + 2) rest) : Z c0 s0 w lv pc (.ref x :: rest) := by
  obtain ⟨p, e, s, m, args, below, meth, c, Q, A, rfl, hx, hb, hml, hown, hts, hK, hA⟩ := g
  intro H locs ls hP hD hS hl
  exact lv_astore hx hb hd hl hn hl9 (fun ls hl => kk H locs ls hP hD hS hl)
theorem z_iinc (g : Gd l R cc nL own Ts G k Z) {i : Nat} {n : Int} {x : Int32} (v : Int32) (hd : decode cc pc = .ok (.iinc i n, 3)) (q : Nat) (hq : lv[q]? = some (i, .int x)) (hv : x + Int32.ofInt n = v) (hn : i < nL) (hl9 : (i, Value.int v) :: lv.filter (fun q => !(q.1 == i) && !(q.1 + 1 == i && q.2.category == 2)) = lv') (kk : Z c0 s0 w lv' (pc + 3) rest) : Z c0 s0 w lv pc rest := by
  obtain ⟨p, e, s, m, args, below, meth, c, Q, A, rfl, hx, hb, hml, hown, hts, hK, hA⟩ := g
  intro H locs ls hP hD hS hl
  exact lv_iinc hx hb hd hl hq hv hn hl9 (fun ls hl => kk H locs ls hP hD hS hl)
theorem z_dup (g : Gd l R cc nL own Ts G k Z) {va : Value} (hd : decode cc pc = .ok (.dup, 1)) (hva : va.category = 1) (kk : Z c0 s0 w lv (pc + 1) (va :: va :: rest)) : Z c0 s0 w lv pc (va :: rest) := by
  obtain ⟨p, e, s, m, args, below, meth, c, Q, A, rfl, hx, hb, hml, hown, hts, hK, hA⟩ := g
  intro H locs ls hP hD hS hl
  exact lv_dup hx hb hd hva (kk H locs ls hP hD hS hl)
theorem z_pop (g : Gd l R cc nL own Ts G k Z) {va : Value} (hd : decode cc pc = .ok (.pop, 1)) (hva : va.category = 1) (kk : Z c0 s0 w lv (pc + 1) (rest)) : Z c0 s0 w lv pc (va :: rest) := by
  obtain ⟨p, e, s, m, args, below, meth, c, Q, A, rfl, hx, hb, hml, hown, hts, hK, hA⟩ := g
  intro H locs ls hP hD hS hl
  exact lv_pop hx hb hd hva (kk H locs ls hP hD hS hl)
theorem z_pop2 (g : Gd l R cc nL own Ts G k Z) {va : Value} (hd : decode cc pc = .ok (.pop2, 1)) (hva : va.category = 2) (kk : Z c0 s0 w lv (pc + 1) (rest)) : Z c0 s0 w lv pc (va :: rest) := by
  obtain ⟨p, e, s, m, args, below, meth, c, Q, A, rfl, hx, hb, hml, hown, hts, hK, hA⟩ := g
  intro H locs ls hP hD hS hl
  exact lv_pop2_2 hx hb hd hva (kk H locs ls hP hD hS hl)
theorem z_dup2 (g : Gd l R cc nL own Ts G k Z) {va vb : Value} (hd : decode cc pc = .ok (.dup2, 1)) (hva : va.category = 1) (hvb : vb.category = 1) (kk : Z c0 s0 w lv (pc + 1) (va :: vb :: va :: vb :: rest)) : Z c0 s0 w lv pc (va :: vb :: rest) := by
  obtain ⟨p, e, s, m, args, below, meth, c, Q, A, rfl, hx, hb, hml, hown, hts, hK, hA⟩ := g
  intro H locs ls hP hD hS hl
  exact lv_dup2_11 hx hb hd hva hvb (kk H locs ls hP hD hS hl)
theorem z_iadd (g : Gd l R cc nL own Ts G k Z) {x y : Int32} (hd : decode cc pc = .ok (.iadd, 1)) (kk : Z c0 s0 w lv (pc + 1) (.int (x + y) :: rest)) : Z c0 s0 w lv pc (.int y :: .int x :: rest) := by
  obtain ⟨p, e, s, m, args, below, meth, c, Q, A, rfl, hx, hb, hml, hown, hts, hK, hA⟩ := g
  intro H locs ls hP hD hS hl
  exact lv_iadd hx hb hd (kk H locs ls hP hD hS hl)
theorem z_isub (g : Gd l R cc nL own Ts G k Z) {x y : Int32} (hd : decode cc pc = .ok (.isub, 1)) (kk : Z c0 s0 w lv (pc + 1) (.int (x - y) :: rest)) : Z c0 s0 w lv pc (.int y :: .int x :: rest) := by
  obtain ⟨p, e, s, m, args, below, meth, c, Q, A, rfl, hx, hb, hml, hown, hts, hK, hA⟩ := g
  intro H locs ls hP hD hS hl
  exact lv_isub hx hb hd (kk H locs ls hP hD hS hl)
theorem z_imul (g : Gd l R cc nL own Ts G k Z) {x y : Int32} (hd : decode cc pc = .ok (.imul, 1)) (kk : Z c0 s0 w lv (pc + 1) (.int (x * y) :: rest)) : Z c0 s0 w lv pc (.int y :: .int x :: rest) := by
  obtain ⟨p, e, s, m, args, below, meth, c, Q, A, rfl, hx, hb, hml, hown, hts, hK, hA⟩ := g
  intro H locs ls hP hD hS hl
  exact lv_imul hx hb hd (kk H locs ls hP hD hS hl)
theorem z_iand (g : Gd l R cc nL own Ts G k Z) {x y : Int32} (hd : decode cc pc = .ok (.iand, 1)) (kk : Z c0 s0 w lv (pc + 1) (.int (x &&& y) :: rest)) : Z c0 s0 w lv pc (.int y :: .int x :: rest) := by
  obtain ⟨p, e, s, m, args, below, meth, c, Q, A, rfl, hx, hb, hml, hown, hts, hK, hA⟩ := g
  intro H locs ls hP hD hS hl
  exact lv_iand hx hb hd (kk H locs ls hP hD hS hl)
theorem z_ladd (g : Gd l R cc nL own Ts G k Z) {x y : Int64} (hd : decode cc pc = .ok (.ladd, 1)) (kk : Z c0 s0 w lv (pc + 1) (.long (x + y) :: rest)) : Z c0 s0 w lv pc (.long y :: .long x :: rest) := by
  obtain ⟨p, e, s, m, args, below, meth, c, Q, A, rfl, hx, hb, hml, hown, hts, hK, hA⟩ := g
  intro H locs ls hP hD hS hl
  exact lv_ladd hx hb hd (kk H locs ls hP hD hS hl)
theorem z_lsub (g : Gd l R cc nL own Ts G k Z) {x y : Int64} (hd : decode cc pc = .ok (.lsub, 1)) (kk : Z c0 s0 w lv (pc + 1) (.long (x - y) :: rest)) : Z c0 s0 w lv pc (.long y :: .long x :: rest) := by
  obtain ⟨p, e, s, m, args, below, meth, c, Q, A, rfl, hx, hb, hml, hown, hts, hK, hA⟩ := g
  intro H locs ls hP hD hS hl
  exact lv_lsub hx hb hd (kk H locs ls hP hD hS hl)
theorem z_lmul (g : Gd l R cc nL own Ts G k Z) {x y : Int64} (hd : decode cc pc = .ok (.lmul, 1)) (kk : Z c0 s0 w lv (pc + 1) (.long (x * y) :: rest)) : Z c0 s0 w lv pc (.long y :: .long x :: rest) := by
  obtain ⟨p, e, s, m, args, below, meth, c, Q, A, rfl, hx, hb, hml, hown, hts, hK, hA⟩ := g
  intro H locs ls hP hD hS hl
  exact lv_lmul hx hb hd (kk H locs ls hP hD hS hl)
theorem z_ldiv (g : Gd l R cc nL own Ts G k Z) {x y : Int64} (hd : decode cc pc = .ok (.ldiv, 1)) (hne : ¬ y = 0) (kk : Z c0 s0 w lv (pc + 1) (.long (x / y) :: rest)) : Z c0 s0 w lv pc (.long y :: .long x :: rest) := by
  obtain ⟨p, e, s, m, args, below, meth, c, Q, A, rfl, hx, hb, hml, hown, hts, hK, hA⟩ := g
  intro H locs ls hP hD hS hl
  exact lv_ldiv hx hb hd hne (kk H locs ls hP hD hS hl)
theorem z_lrem (g : Gd l R cc nL own Ts G k Z) {x y : Int64} (hd : decode cc pc = .ok (.lrem, 1)) (hne : ¬ y = 0) (kk : Z c0 s0 w lv (pc + 1) (.long (x - x / y * y) :: rest)) : Z c0 s0 w lv pc (.long y :: .long x :: rest) := by
  obtain ⟨p, e, s, m, args, below, meth, c, Q, A, rfl, hx, hb, hml, hown, hts, hK, hA⟩ := g
  intro H locs ls hP hD hS hl
  exact lv_lrem hx hb hd hne (kk H locs ls hP hD hS hl)
theorem z_ineg (g : Gd l R cc nL own Ts G k Z) {x : Int32} (hd : decode cc pc = .ok (.ineg, 1)) (kk : Z c0 s0 w lv (pc + 1) (.int (-x) :: rest)) : Z c0 s0 w lv pc (.int x :: rest) := by
  obtain ⟨p, e, s, m, args, below, meth, c, Q, A, rfl, hx, hb, hml, hown, hts, hK, hA⟩ := g
  intro H locs ls hP hD hS hl
  exact lv_ineg hx hb hd (kk H locs ls hP hD hS hl)
theorem z_lneg (g : Gd l R cc nL own Ts G k Z) {x : Int64} (hd : decode cc pc = .ok (.lneg, 1)) (kk : Z c0 s0 w lv (pc + 1) (.long (-x) :: rest)) : Z c0 s0 w lv pc (.long x :: rest) := by
  obtain ⟨p, e, s, m, args, below, meth, c, Q, A, rfl, hx, hb, hml, hown, hts, hK, hA⟩ := g
  intro H locs ls hP hD hS hl
  exact lv_lneg hx hb hd (kk H locs ls hP hD hS hl)
theorem z_i2l (g : Gd l R cc nL own Ts G k Z) {x : Int32} (hd : decode cc pc = .ok (.i2l, 1)) (kk : Z c0 s0 w lv (pc + 1) (.long x.toInt64 :: rest)) : Z c0 s0 w lv pc (.int x :: rest) := by
  obtain ⟨p, e, s, m, args, below, meth, c, Q, A, rfl, hx, hb, hml, hown, hts, hK, hA⟩ := g
  intro H locs ls hP hD hS hl
  exact lv_i2l hx hb hd rfl (kk H locs ls hP hD hS hl)
theorem z_i2c (g : Gd l R cc nL own Ts G k Z) {x : Int32} (hd : decode cc pc = .ok (.i2c, 1)) (kk : Z c0 s0 w lv (pc + 1) (.int (x.toUInt32 % 65536).toInt32 :: rest)) : Z c0 s0 w lv pc (.int x :: rest) := by
  obtain ⟨p, e, s, m, args, below, meth, c, Q, A, rfl, hx, hb, hml, hown, hts, hK, hA⟩ := g
  intro H locs ls hP hD hS hl
  exact lv_i2c hx hb hd rfl (kk H locs ls hP hD hS hl)
theorem z_i2d (g : Gd l R cc nL own Ts G k Z) {x : Int32} (hd : decode cc pc = .ok (.i2d, 1)) (kk : Z c0 s0 w lv (pc + 1) (.double (FP.i2d x) :: rest)) : Z c0 s0 w lv pc (.int x :: rest) := by
  obtain ⟨p, e, s, m, args, below, meth, c, Q, A, rfl, hx, hb, hml, hown, hts, hK, hA⟩ := g
  intro H locs ls hP hD hS hl
  exact lv_i2d hx hb hd (kk H locs ls hP hD hS hl)
theorem z_l2d (g : Gd l R cc nL own Ts G k Z) {x : Int64} (hd : decode cc pc = .ok (.l2d, 1)) (kk : Z c0 s0 w lv (pc + 1) (.double (FP.l2d x) :: rest)) : Z c0 s0 w lv pc (.long x :: rest) := by
  obtain ⟨p, e, s, m, args, below, meth, c, Q, A, rfl, hx, hb, hml, hown, hts, hK, hA⟩ := g
  intro H locs ls hP hD hS hl
  exact lv_l2d hx hb hd (kk H locs ls hP hD hS hl)
theorem z_dadd (g : Gd l R cc nL own Ts G k Z) {x y : UInt64} (hd : decode cc pc = .ok (.dadd, 1)) (hne : vf_n64 (FP.dadd x y)) (kk : Z c0 s0 w lv (pc + 1) (.double (FP.dadd x y) :: rest)) : Z c0 s0 w lv pc (.double y :: .double x :: rest) := by
  obtain ⟨p, e, s, m, args, below, meth, c, Q, A, rfl, hx, hb, hml, hown, hts, hK, hA⟩ := g
  intro H locs ls hP hD hS hl
  exact lv_dadd hx hb hd hne (kk H locs ls hP hD hS hl)
theorem z_dsub (g : Gd l R cc nL own Ts G k Z) {x y : UInt64} (hd : decode cc pc = .ok (.dsub, 1)) (hne : vf_n64 (FP.dsub x y)) (kk : Z c0 s0 w lv (pc + 1) (.double (FP.dsub x y) :: rest)) : Z c0 s0 w lv pc (.double y :: .double x :: rest) := by
  obtain ⟨p, e, s, m, args, below, meth, c, Q, A, rfl, hx, hb, hml, hown, hts, hK, hA⟩ := g
  intro H locs ls hP hD hS hl
  exact lv_dsub hx hb hd hne (kk H locs ls hP hD hS hl)
theorem z_dmul (g : Gd l R cc nL own Ts G k Z) {x y : UInt64} (hd : decode cc pc = .ok (.dmul, 1)) (hne : vf_n64 (FP.dmul x y)) (kk : Z c0 s0 w lv (pc + 1) (.double (FP.dmul x y) :: rest)) : Z c0 s0 w lv pc (.double y :: .double x :: rest) := by
  obtain ⟨p, e, s, m, args, below, meth, c, Q, A, rfl, hx, hb, hml, hown, hts, hK, hA⟩ := g
  intro H locs ls hP hD hS hl
  exact lv_dmul hx hb hd hne (kk H locs ls hP hD hS hl)
theorem z_ddiv (g : Gd l R cc nL own Ts G k Z) {x y : UInt64} (hd : decode cc pc = .ok (.ddiv, 1)) (hne : vf_n64 (FP.ddiv x y)) (kk : Z c0 s0 w lv (pc + 1) (.double (FP.ddiv x y) :: rest)) : Z c0 s0 w lv pc (.double y :: .double x :: rest) := by
  obtain ⟨p, e, s, m, args, below, meth, c, Q, A, rfl, hx, hb, hml, hown, hts, hK, hA⟩ := g
  intro H locs ls hP hD hS hl
  exact lv_ddiv hx hb hd hne (kk H locs ls hP hD hS hl)
theorem z_dcmp (g : Gd l R cc nL own Ts G k Z) {x y : UInt64} {op : CmpOp} (hd : decode cc pc = .ok (.dcmp op, 1)) (kk : Z c0 s0 w lv (pc + 1) (.int (Op.cmpValue (FP.dcmp x y) op) :: rest)) : Z c0 s0 w lv pc (.double y :: .double x :: rest) := by
  obtain ⟨p, e, s, m, args, below, meth, c, Q, A, rfl, hx, hb, hml, hown, hts, hK, hA⟩ := g
  intro H locs ls hP hD hS hl
  exact lv_dcmp hx hb hd (kk H locs ls hP hD hS hl)
theorem z_lcmp (g : Gd l R cc nL own Ts G k Z) {x y : Int64} (hd : decode cc pc = .ok (.lcmp, 1)) (kk : Z c0 s0 w lv (pc + 1) (.int (lg_cmp x y) :: rest)) : Z c0 s0 w lv pc (.long y :: .long x :: rest) := by
  obtain ⟨p, e, s, m, args, below, meth, c, Q, A, rfl, hx, hb, hml, hown, hts, hK, hA⟩ := g
  intro H locs ls hP hD hS hl
  exact W.lcmp hx hb hd (kk H locs ls hP hD hS hl)
theorem z_if_eq (g : Gd l R cc nL own Ts G k Z) {x : Int32} {off : Int} {tgt : Nat} (hd : decode cc pc = .ok (.ifCond .eq off, 3)) (ht : (pc : Int) + off = (tgt : Int)) (kt : x = 0 → Z c0 s0 w lv tgt rest) (kf : ¬ x = 0 → Z c0 s0 w lv (pc + 3) rest) : Z c0 s0 w lv pc (.int x :: rest) := by
  obtain ⟨p, e, s, m, args, below, meth, c, Q, A, rfl, hx, hb, hml, hown, hts, hK, hA⟩ := g
  intro H locs ls hP hD hS hl
  exact lv_if_eq hx hb hd ht (fun h => kt h H locs ls hP hD hS hl) (fun h => kf h H locs ls hP hD hS hl)
theorem z_ic_eq (g : Gd l R cc nL own Ts G k Z) {x y : Int32} {off : Int} {tgt : Nat} (hd : decode cc pc = .ok (.if_icmp .eq off, 3)) (ht : (pc : Int) + off = (tgt : Int)) (kt : x = y → Z c0 s0 w lv tgt rest) (kf : ¬ x = y → Z c0 s0 w lv (pc + 3) rest) : Z c0 s0 w lv pc (.int y :: .int x :: rest) := by
  obtain ⟨p, e, s, m, args, below, meth, c, Q, A, rfl, hx, hb, hml, hown, hts, hK, hA⟩ := g
  intro H locs ls hP hD hS hl
  exact lv_icmp_eq hx hb hd ht (fun h => kt h H locs ls hP hD hS hl) (fun h => kf h H locs ls hP hD hS hl)
theorem z_if_ne (g : Gd l R cc nL own Ts G k Z) {x : Int32} {off : Int} {tgt : Nat} (hd : decode cc pc = .ok (.ifCond .ne off, 3)) (ht : (pc : Int) + off = (tgt : Int)) (kt : ¬ x = 0 → Z c0 s0 w lv tgt rest) (kf : x = 0 → Z c0 s0 w lv (pc + 3) rest) : Z c0 s0 w lv pc (.int x :: rest) := by
  obtain ⟨p, e, s, m, args, below, meth, c, Q, A, rfl, hx, hb, hml, hown, hts, hK, hA⟩ := g
  intro H locs ls hP hD hS hl
  exact lv_if_ne hx hb hd ht (fun h => kt h H locs ls hP hD hS hl) (fun h => kf h H locs ls hP hD hS hl)
theorem z_ic_ne (g : Gd l R cc nL own Ts G k Z) {x y : Int32} {off : Int} {tgt : Nat} (hd : decode cc pc = .ok (.if_icmp .ne off, 3)) (ht : (pc : Int) + off = (tgt : Int)) (kt : ¬ x = y → Z c0 s0 w lv tgt rest) (kf : x = y → Z c0 s0 w lv (pc + 3) rest) : Z c0 s0 w lv pc (.int y :: .int x :: rest) := by
  obtain ⟨p, e, s, m, args, below, meth, c, Q, A, rfl, hx, hb, hml, hown, hts, hK, hA⟩ := g
  intro H locs ls hP hD hS hl
  exact lv_icmp_ne hx hb hd ht (fun h => kt h H locs ls hP hD hS hl) (fun h => kf h H locs ls hP hD hS hl)
theorem z_if_lt (g : Gd l R cc nL own Ts G k Z) {x : Int32} {off : Int} {tgt : Nat} (hd : decode cc pc = .ok (.ifCond .lt off, 3)) (ht : (pc : Int) + off = (tgt : Int)) (kt : x < 0 → Z c0 s0 w lv tgt rest) (kf : ¬ x < 0 → Z c0 s0 w lv (pc + 3) rest) : Z c0 s0 w lv pc (.int x :: rest) := by
  obtain ⟨p, e, s, m, args, below, meth, c, Q, A, rfl, hx, hb, hml, hown, hts, hK, hA⟩ := g
  intro H locs ls hP hD hS hl
  exact lv_if_lt hx hb hd ht (fun h => kt h H locs ls hP hD hS hl) (fun h => kf h H locs ls hP hD hS hl)
theorem z_ic_lt (g : Gd l R cc nL own Ts G k Z) {x y : Int32} {off : Int} {tgt : Nat} (hd : decode cc pc = .ok (.if_icmp .lt off, 3)) (ht : (pc : Int) + off = (tgt : Int)) (kt : x < y → Z c0 s0 w lv tgt rest) (kf : ¬ x < y → Z c0 s0 w lv (pc + 3) rest) : Z c0 s0 w lv pc (.int y :: .int x :: rest) := by
  obtain ⟨p, e, s, m, args, below, meth, c, Q, A, rfl, hx, hb, hml, hown, hts, hK, hA⟩ := g
  intro H locs ls hP hD hS hl
  exact lv_icmp_lt hx hb hd ht (fun h => kt h H locs ls hP hD hS hl) (fun h => kf h H locs ls hP hD hS hl)
theorem z_if_ge (g : Gd l R cc nL own Ts G k Z) {x : Int32} {off : Int} {tgt : Nat} (hd : decode cc pc = .ok (.ifCond .ge off, 3)) (ht : (pc : Int) + off = (tgt : Int)) (kt : 0 ≤ x → Z c0 s0 w lv tgt rest) (kf : ¬ 0 ≤ x → Z c0 s0 w lv (pc + 3) rest) : Z c0 s0 w lv pc (.int x :: rest) := by
  obtain ⟨p, e, s, m, args, below, meth, c, Q, A, rfl, hx, hb, hml, hown, hts, hK, hA⟩ := g
  intro H locs ls hP hD hS hl
  exact lv_if_ge hx hb hd ht (fun h => kt h H locs ls hP hD hS hl) (fun h => kf h H locs ls hP hD hS hl)
theorem z_ic_ge (g : Gd l R cc nL own Ts G k Z) {x y : Int32} {off : Int} {tgt : Nat} (hd : decode cc pc = .ok (.if_icmp .ge off, 3)) (ht : (pc : Int) + off = (tgt : Int)) (kt : y ≤ x → Z c0 s0 w lv tgt rest) (kf : ¬ y ≤ x → Z c0 s0 w lv (pc + 3) rest) : Z c0 s0 w lv pc (.int y :: .int x :: rest) := by
  obtain ⟨p, e, s, m, args, below, meth, c, Q, A, rfl, hx, hb, hml, hown, hts, hK, hA⟩ := g
  intro H locs ls hP hD hS hl
  exact lv_icmp_ge hx hb hd ht (fun h => kt h H locs ls hP hD hS hl) (fun h => kf h H locs ls hP hD hS hl)
theorem z_if_gt (g : Gd l R cc nL own Ts G k Z) {x : Int32} {off : Int} {tgt : Nat} (hd : decode cc pc = .ok (.ifCond .gt off, 3)) (ht : (pc : Int) + off = (tgt : Int)) (kt : 0 < x → Z c0 s0 w lv tgt rest) (kf : ¬ 0 < x → Z c0 s0 w lv (pc + 3) rest) : Z c0 s0 w lv pc (.int x :: rest) := by
  obtain ⟨p, e, s, m, args, below, meth, c, Q, A, rfl, hx, hb, hml, hown, hts, hK, hA⟩ := g
  intro H locs ls hP hD hS hl
  exact lv_if_gt hx hb hd ht (fun h => kt h H locs ls hP hD hS hl) (fun h => kf h H locs ls hP hD hS hl)
theorem z_ic_gt (g : Gd l R cc nL own Ts G k Z) {x y : Int32} {off : Int} {tgt : Nat} (hd : decode cc pc = .ok (.if_icmp .gt off, 3)) (ht : (pc : Int) + off = (tgt : Int)) (kt : y < x → Z c0 s0 w lv tgt rest) (kf : ¬ y < x → Z c0 s0 w lv (pc + 3) rest) : Z c0 s0 w lv pc (.int y :: .int x :: rest) := by
  obtain ⟨p, e, s, m, args, below, meth, c, Q, A, rfl, hx, hb, hml, hown, hts, hK, hA⟩ := g
  intro H locs ls hP hD hS hl
  exact lv_icmp_gt hx hb hd ht (fun h => kt h H locs ls hP hD hS hl) (fun h => kf h H locs ls hP hD hS hl)
theorem z_if_le (g : Gd l R cc nL own Ts G k Z) {x : Int32} {off : Int} {tgt : Nat} (hd : decode cc pc = .ok (.ifCond .le off, 3)) (ht : (pc : Int) + off = (tgt : Int)) (kt : x ≤ 0 → Z c0 s0 w lv tgt rest) (kf : ¬ x ≤ 0 → Z c0 s0 w lv (pc + 3) rest) : Z c0 s0 w lv pc (.int x :: rest) := by
  obtain ⟨p, e, s, m, args, below, meth, c, Q, A, rfl, hx, hb, hml, hown, hts, hK, hA⟩ := g
  intro H locs ls hP hD hS hl
  exact lv_if_le hx hb hd ht (fun h => kt h H locs ls hP hD hS hl) (fun h => kf h H locs ls hP hD hS hl)
theorem z_ic_le (g : Gd l R cc nL own Ts G k Z) {x y : Int32} {off : Int} {tgt : Nat} (hd : decode cc pc = .ok (.if_icmp .le off, 3)) (ht : (pc : Int) + off = (tgt : Int)) (kt : x ≤ y → Z c0 s0 w lv tgt rest) (kf : ¬ x ≤ y → Z c0 s0 w lv (pc + 3) rest) : Z c0 s0 w lv pc (.int y :: .int x :: rest) := by
  obtain ⟨p, e, s, m, args, below, meth, c, Q, A, rfl, hx, hb, hml, hown, hts, hK, hA⟩ := g
  intro H locs ls hP hD hS hl
  exact lv_icmp_le hx hb hd ht (fun h => kt h H locs ls hP hD hS hl) (fun h => kf h H locs ls hP hD hS hl)
theorem z_goto (g : Gd l R cc nL own Ts G k Z) {off : Int} (tgt : Nat) (hd : decode cc pc = .ok (.goto off, 3)) (ht : (pc : Int) + off = (tgt : Int)) (kk : Z c0 s0 w lv tgt (rest)) : Z c0 s0 w lv pc (rest) := by
  obtain ⟨p, e, s, m, args, below, meth, c, Q, A, rfl, hx, hb, hml, hown, hts, hK, hA⟩ := g
  intro H locs ls hP hD hS hl
  exact lv_goto hx hb hd ht (kk H locs ls hP hD hS hl)
theorem z_tin (g : Gd l R cc nL own Ts G k Z) {dflt lo hi : Int} {offs : Array Int} {len : Nat} {x : Int32} {off : Int} (tgt : Nat) (hd : decode cc pc = .ok (.tableswitch dflt lo hi offs, len)) (h1 : ¬ x.toInt < lo) (h2 : ¬ hi < x.toInt) (ho : offs[(x.toInt - lo).toNat]? = some off) (ht : (pc : Int) + off = (tgt : Int)) (kk : Z c0 s0 w lv tgt (rest)) : Z c0 s0 w lv pc (.int x :: rest) := by
  obtain ⟨p, e, s, m, args, below, meth, c, Q, A, rfl, hx, hb, hml, hown, hts, hK, hA⟩ := g
  intro H locs ls hP hD hS hl
  exact lv_tableIn hx hb hd h1 h2 ho ht (kk H locs ls hP hD hS hl)
theorem z_tout (g : Gd l R cc nL own Ts G k Z) {dflt lo hi : Int} {offs : Array Int} {len : Nat} {x : Int32} (tgt : Nat) (hd : decode cc pc = .ok (.tableswitch dflt lo hi offs, len)) (h : x.toInt < lo ∨ hi < x.toInt) (ht : (pc : Int) + dflt = (tgt : Int)) (kk : Z c0 s0 w lv tgt (rest)) : Z c0 s0 w lv pc (.int x :: rest) := by
  obtain ⟨p, e, s, m, args, below, meth, c, Q, A, rfl, hx, hb, hml, hown, hts, hK, hA⟩ := g
  intro H locs ls hP hD hS hl
  exact lv_tableOut hx hb hd h ht (kk H locs ls hP hD hS hl)
theorem z_st {st st' : List Value} (e : st = st') (kk : Z c0 s0 w lv pc st') : Z c0 s0 w lv pc st := e ▸ kk
theorem z_ti {x y : Int32} (e : x = y) (kk : Z c0 s0 w lv pc (.int y :: rest)) : Z c0 s0 w lv pc (.int x :: rest) := e ▸ kk
theorem z_tl {x y : Int64} (e : x = y) (kk : Z c0 s0 w lv pc (.long y :: rest)) : Z c0 s0 w lv pc (.long x :: rest) := e ▸ kk
theorem z_td {x y : UInt64} (e : x = y) (kk : Z c0 s0 w lv pc (.double y :: rest)) : Z c0 s0 w lv pc (.double x :: rest) := e ▸ kk
theorem z_ni {x : Int32} (kk : ∀ y, y = x → Z c0 s0 w lv pc (.int y :: rest)) : Z c0 s0 w lv pc (.int x :: rest) := kk x rfl
theorem z_nl {x : Int64} (kk : ∀ y, y = x → Z c0 s0 w lv pc (.long y :: rest)) : Z c0 s0 w lv pc (.long x :: rest) := kk x rfl
theorem z_nd {x : UInt64} (kk : ∀ y, y = x → Z c0 s0 w lv pc (.double y :: rest)) : Z c0 s0 w lv pc (.double x :: rest) := kk x rfl
theorem z_w {w' : va_W} (e : w = w') (kk : Z c0 s0 w' lv pc rest) : Z c0 s0 w lv pc rest := e ▸ kk
theorem z_lv (e : lv = lv') (kk : Z c0 s0 w lv' pc rest) : Z c0 s0 w lv pc rest := e ▸ kk
/-- fewer cells, in any order, by their places -/
theorem z_sub (g : Gd l R cc nL own Ts G k Z) {w' : va_W} (is : List Nat) (hn : va_nd is = true) (h : is.map (fun i => w[i]?) = w'.map some) (kk : Z c0 s0 w' lv pc rest) : Z c0 s0 w lv pc rest := by
  obtain ⟨p, e, s, m, args, below, meth, c, Q, A, rfl, hx, hb, hml, hown, hts, hK, hA⟩ := g
  intro H locs ls hP hD hS hl
  exact kk H locs ls (hP.sub is (by rw [va_fm h])) (hD.sub is hn h) hS hl
/-- fewer locals -/
theorem z_locs (g : Gd l R cc nL own Ts G k Z) (ks : List Nat) (h : lv_pick lv ks = lv') (kk : Z c0 s0 w lv' pc rest) : Z c0 s0 w lv pc rest := by
  obtain ⟨p, e, s, m, args, below, meth, c, Q, A, rfl, hx, hb, hml, hown, hts, hK, hA⟩ := g
  intro H locs ls hP hD hS hl
  exact kk H locs ls hP hD hS (lv_sub hl ks h)
theorem z_widen (g : Gd l R cc nL own Ts G k Z) {c1 s1 : Nat} (h1 : c0 ≤ c1) (h2 : s0 ≤ s1) (kk : Z c1 s1 w lv pc rest) : Z c0 s0 w lv pc rest := by
  obtain ⟨p, e, s, m, args, below, meth, c, Q, A, rfl, hx, hb, hml, hown, hts, hK, hA⟩ := g
  intro H locs ls hP hD hS hl
  exact W.widen h1 h2 (kk H locs ls hP hD hS hl)
theorem z_get (g : Gd l R cc nL own Ts G k Z) {C : String} {T : u_T} {N ci ix a : Nat} {fs : List Value} {v : Value} (hin : ∀ w ∈ u_ws C T N, w ∈ Ts) (q0 : Nat) (he : w[q0]? = some (a, .inr (ci, fs))) (hc : vwCl[ci]? = some (C, T, N)) (kf : Nat) (hk : kf < N) (hlink : Cond.fieldLink own ix (T kf).1 (T kf).2.1 (T kf).2.2.1 ∈ Ts) (hv : fs[kf]? = some v) (hd : decode cc pc = .ok (.getfield ix, 3)) (kk : Z c0 s0 w lv (pc + 3) (v :: rest)) : Z c0 s0 w lv pc (.ref a :: rest) := by
  obtain ⟨p, e, s, m, args, below, meth, c, Q, A, rfl, hx, hb, hml, hown, hts, hK, hA⟩ := g
  intro H locs ls hP hD hS hl
  exact va_get (D := G) hx hb hts hin hown hK hP q0 he hc kf hk (hts _ hlink) (fun _ h9 => h9) hv hd (kk H locs ls hP hD hS hl)
theorem z_put (g : Gd l R cc nL own Ts G k Z) {C : String} {T : u_T} {N ci ix a : Nat} {fs : List Value} {v : Value} (hin : ∀ w ∈ u_ws C T N, w ∈ Ts) (ty0 : Nat → FieldType) (hty : ∀ k, k < N → parseFieldDescriptor (T k).2.2.1 = some (ty0 k)) (hnm : ∀ a, a < N → ∀ b, b < N → a ≠ b → (T a).2.1 ≠ (T b).2.1) (q0 : Nat) (he : w[q0]? = some (a, .inr (ci, fs))) (hc : vwCl[ci]? = some (C, T, N)) (kf : Nat) (hk : kf < N) (hlink : Cond.fieldLink own ix (T kf).1 (T kf).2.1 (T kf).2.2.1 ∈ Ts) (hfin : (T kf).2.2.2 = false) (hn : narrow (ty0 kf) v = v) (hfit : fits (ty0 kf) v = true) (hl9 : kf < fs.length) (hd : decode cc pc = .ok (.putfield ix, 3)) {w' : va_W} (hw : w.set q0 (a, .inr (ci, fs.set kf v)) = w') (kk : Z c0 s0 w' lv (pc + 3) rest) : Z c0 s0 w lv pc (v :: .ref a :: rest) := by
  subst hw
  obtain ⟨p, e, s, m, args, below, meth, c, Q, A, rfl, hx, hb, hml, hown, hts, hK, hA⟩ := g
  intro H locs ls hP hD hS hl
  exact va_put (D := G) hx hb hts hin ty0 hty hnm hown hK hP hD hS q0 he hc kf hk (hts _ hlink) (fun _ h9 => h9) hfin (hty kf hk) hn hfit hl9 hd (fun H locs hP hD hS => kk H locs ls hP hD hS hl)
theorem z_iald (g : Gd l R cc nL own Ts G k Z) {a n : Nat} {f : Nat → Int32} {i : Int32} (q0 : Nat) (ha : w[q0]? = some (a, .inl (k 1, n, .inl f))) (j : Nat) (hi : i = nI j) (hj : j < n) (hn : n < 2 ^ 31) (hd : decode cc pc = .ok (.iaload, 1)) (kk : Z c0 s0 w lv (pc + 1) (.int (f j) :: rest)) : Z c0 s0 w lv pc (.int i :: .ref a :: rest) := by
  obtain ⟨p, e, s, m, args, below, meth, c, Q, A, rfl, hx, hb, hml, hown, hts, hK, hA⟩ := g
  intro H locs ls hP hD hS hl
  subst hi
  have hc : (nI j).toNatClampNeg = j := nI_clamp (Nat.lt_trans hj hn)
  refine va_iald (D := G) hx hb hK hP q0 1 ha rfl (vp_in_nI hj hn) hd ?_
  rw [hc]
  exact (kk H locs ls hP hD hS hl)
theorem z_iast (g : Gd l R cc nL own Ts G k Z) {a n : Nat} {f : Nat → Int32} {i : Int32} {x : Int32} (q0 : Nat) (ha : w[q0]? = some (a, .inl (k 1, n, .inl f))) (j : Nat) (hi : i = nI j) (hj : j < n) (hn : n < 2 ^ 31) (hd : decode cc pc = .ok (.iastore, 1)) {w' : va_W} (hw : w.set q0 (a, .inl (k 1, n, .inl (upd f j x))) = w') (kk : Z c0 s0 w' lv (pc + 1) rest) : Z c0 s0 w lv pc (.int x :: .int i :: .ref a :: rest) := by
  subst hw
  obtain ⟨p, e, s, m, args, below, meth, c, Q, A, rfl, hx, hb, hml, hown, hts, hK, hA⟩ := g
  intro H locs ls hP hD hS hl
  subst hi
  have hc : (nI j).toNatClampNeg = j := nI_clamp (Nat.lt_trans hj hn)
  refine va_iast (D := G) hx hb hK hP hD hS q0 1 ha rfl (vp_in_nI hj hn) hd (fun H1 locs1 hP hD hS => ?_)
  rw [hc] at hP hD
  exact kk H1 locs1 ls hP hD hS hl
theorem z_cald (g : Gd l R cc nL own Ts G k Z) {a n : Nat} {f : Nat → Int32} {i : Int32} (q0 : Nat) (ha : w[q0]? = some (a, .inl (k 0, n, .inl f))) (j : Nat) (hi : i = nI j) (hj : j < n) (hn : n < 2 ^ 31) (hd : decode cc pc = .ok (.caload, 1)) (kk : Z c0 s0 w lv (pc + 1) (.int (f j) :: rest)) : Z c0 s0 w lv pc (.int i :: .ref a :: rest) := by
  obtain ⟨p, e, s, m, args, below, meth, c, Q, A, rfl, hx, hb, hml, hown, hts, hK, hA⟩ := g
  intro H locs ls hP hD hS hl
  subst hi
  have hc : (nI j).toNatClampNeg = j := nI_clamp (Nat.lt_trans hj hn)
  refine va_cald (D := G) hx hb hK hP q0 0 ha rfl (vp_in_nI hj hn) hd ?_
  rw [hc]
  exact (kk H locs ls hP hD hS hl)
theorem z_cast (g : Gd l R cc nL own Ts G k Z) {a n : Nat} {f : Nat → Int32} {i : Int32} {x : Int32} (q0 : Nat) (ha : w[q0]? = some (a, .inl (k 0, n, .inl f))) (j : Nat) (hi : i = nI j) (hj : j < n) (hn : n < 2 ^ 31) (hd : decode cc pc = .ok (.castore, 1)) {w' : va_W} (hw : w.set q0 (a, .inl (k 0, n, .inl (upd f j (vp_nar .char x)))) = w') (kk : Z c0 s0 w' lv (pc + 1) rest) : Z c0 s0 w lv pc (.int x :: .int i :: .ref a :: rest) := by
  subst hw
  obtain ⟨p, e, s, m, args, below, meth, c, Q, A, rfl, hx, hb, hml, hown, hts, hK, hA⟩ := g
  intro H locs ls hP hD hS hl
  subst hi
  have hc : (nI j).toNatClampNeg = j := nI_clamp (Nat.lt_trans hj hn)
  refine va_cast (D := G) hx hb hK hP hD hS q0 0 ha rfl (vp_in_nI hj hn) hd (fun H1 locs1 hP hD hS => ?_)
  rw [hc] at hP hD
  exact kk H1 locs1 ls hP hD hS hl
theorem z_lald (g : Gd l R cc nL own Ts G k Z) {a n : Nat} {f : Nat → Int64} {i : Int32} (q0 : Nat) (ha : w[q0]? = some (a, .inl (k 2, n, .inr (.inl f)))) (j : Nat) (hi : i = nI j) (hj : j < n) (hn : n < 2 ^ 31) (hd : decode cc pc = .ok (.laload, 1)) (kk : Z c0 s0 w lv (pc + 1) (.long (f j) :: rest)) : Z c0 s0 w lv pc (.int i :: .ref a :: rest) := by
  obtain ⟨p, e, s, m, args, below, meth, c, Q, A, rfl, hx, hb, hml, hown, hts, hK, hA⟩ := g
  intro H locs ls hP hD hS hl
  subst hi
  have hc : (nI j).toNatClampNeg = j := nI_clamp (Nat.lt_trans hj hn)
  refine va_lald (D := G) hx hb hK hP q0 2 ha rfl (vp_in_nI hj hn) hd ?_
  rw [hc]
  exact (kk H locs ls hP hD hS hl)
theorem z_last (g : Gd l R cc nL own Ts G k Z) {a n : Nat} {f : Nat → Int64} {i : Int32} {x : Int64} (q0 : Nat) (ha : w[q0]? = some (a, .inl (k 2, n, .inr (.inl f)))) (j : Nat) (hi : i = nI j) (hj : j < n) (hn : n < 2 ^ 31) (hd : decode cc pc = .ok (.lastore, 1)) {w' : va_W} (hw : w.set q0 (a, .inl (k 2, n, .inr (.inl (vp_updL f j x)))) = w') (kk : Z c0 s0 w' lv (pc + 1) rest) : Z c0 s0 w lv pc (.long x :: .int i :: .ref a :: rest) := by
  subst hw
  obtain ⟨p, e, s, m, args, below, meth, c, Q, A, rfl, hx, hb, hml, hown, hts, hK, hA⟩ := g
  intro H locs ls hP hD hS hl
  subst hi
  have hc : (nI j).toNatClampNeg = j := nI_clamp (Nat.lt_trans hj hn)
  refine va_last (D := G) hx hb hK hP hD hS q0 2 ha rfl (vp_in_nI hj hn) hd (fun H1 locs1 hP hD hS => ?_)
  rw [hc] at hP hD
  exact kk H1 locs1 ls hP hD hS hl
theorem z_dald (g : Gd l R cc nL own Ts G k Z) {a n : Nat} {f : Nat → UInt64} {i : Int32} (q0 : Nat) (ha : w[q0]? = some (a, .inl (k 3, n, .inr (.inr (.inr (.inl f)))))) (j : Nat) (hi : i = nI j) (hj : j < n) (hn : n < 2 ^ 31) (hd : decode cc pc = .ok (.daload, 1)) (kk : Z c0 s0 w lv (pc + 1) (.double (f j) :: rest)) : Z c0 s0 w lv pc (.int i :: .ref a :: rest) := by
  obtain ⟨p, e, s, m, args, below, meth, c, Q, A, rfl, hx, hb, hml, hown, hts, hK, hA⟩ := g
  intro H locs ls hP hD hS hl
  subst hi
  have hc : (nI j).toNatClampNeg = j := nI_clamp (Nat.lt_trans hj hn)
  refine va_dald (D := G) hx hb hK hP q0 3 ha rfl (vp_in_nI hj hn) hd ?_
  rw [hc]
  exact (kk H locs ls hP hD hS hl)
theorem z_dast (g : Gd l R cc nL own Ts G k Z) {a n : Nat} {f : Nat → UInt64} {i : Int32} {x : UInt64} (q0 : Nat) (ha : w[q0]? = some (a, .inl (k 3, n, .inr (.inr (.inr (.inl f)))))) (j : Nat) (hi : i = nI j) (hj : j < n) (hn : n < 2 ^ 31) (hd : decode cc pc = .ok (.dastore, 1)) {w' : va_W} (hw : w.set q0 (a, .inl (k 3, n, .inr (.inr (.inr (.inl (vf_upd f j x)))))) = w') (kk : Z c0 s0 w' lv (pc + 1) rest) : Z c0 s0 w lv pc (.double x :: .int i :: .ref a :: rest) := by
  subst hw
  obtain ⟨p, e, s, m, args, below, meth, c, Q, A, rfl, hx, hb, hml, hown, hts, hK, hA⟩ := g
  intro H locs ls hP hD hS hl
  subst hi
  have hc : (nI j).toNatClampNeg = j := nI_clamp (Nat.lt_trans hj hn)
  refine va_dast (D := G) hx hb hK hP hD hS q0 3 ha rfl (vp_in_nI hj hn) hd (fun H1 locs1 hP hD hS => ?_)
  rw [hc] at hP hD
  exact kk H1 locs1 ls hP hD hS hl
theorem z_alen (g : Gd l R cc nL own Ts G k Z) {a : Nat} {cA : ClassId} {x : vp_A} {ty : FieldType} (q0 t0 : Nat) (ha : w[q0]? = some (a, .inl (cA, x))) (ht : (TY k)[t0]? = some (cA, ty)) (v : Int32) (hv : Int32.ofNat x.1 = v) (hd : decode cc pc = .ok (.arraylength, 1)) (kk : Z c0 s0 w lv (pc + 1) (.int v :: rest)) : Z c0 s0 w lv pc (.ref a :: rest) := by
  obtain ⟨p, e, s, m, args, below, meth, c, Q, A, rfl, hx, hb, hml, hown, hts, hK, hA⟩ := g
  intro H locs ls hP hD hS hl
  exact va_alen (D := G) hx hb hK hP q0 t0 ha ht hv hd (kk H locs ls hP hD hS hl)
theorem z_abs (g : Gd l R cc nL own Ts G k Z) {ix : Nat} {x : Int64} (h1 : Cond.methodLink own ix Lib.MathLoose.abs_long.x ∈ Ts) (h2 : Cond.static Lib.MathLoose.abs_long.x ∈ Ts) (h3 : Cond.initialized "java/lang/Math" ∈ Ts) (h4 : Cond.code Lib.MathLoose.abs_long.x Lib.MathLoose.abs_long.code 2 (some .long) ∈ Ts) (hf : 1 ≤ R.frames) (hlo : (rest.map fun v => v.category).sum + 13 ≤ R.locals) (hc : c0 ≤ R.cells) (hs : s0 ≤ R.slots) (hd : decode cc pc = .ok (.invokestatic ix, 3)) (kk : Z c0 s0 w lv (pc + 3) (.long (if 0 < x then x else -x) :: rest)) : Z c0 s0 w lv pc (.long x :: rest) := by
  obtain ⟨p, e, s, m, args, below, meth, c, Q, A, rfl, hx, hb, hml, hown, hts, hK, hA⟩ := g
  intro H locs ls hP hD hS hl
  exact va_mabs_long hx hb (hml.trans hl.1.symm) hown (hts _ h1) (hts _ h2) (hts _ h3) (hts _ h4) hf hlo hc hs hd (kk H locs ls hP hD hS hl)
theorem z_copyi (g : Gd l R cc nL own Ts G k Z) {ix a0 a n0 n1 : Nat} {f h : Nat → Int32} {n : Int32} (h1 : Cond.methodLink own ix arraycopyName ∈ Ts) (h2 : Cond.native arraycopyName ∈ Ts) (h3 : Cond.static arraycopyName ∈ Ts) (h4 : Cond.initialized "java/lang/System" ∈ Ts) (q0 q1 : Nat) (ha0 : w[q0]? = some (a0, .inl (k 1, n0, .inl f))) (ha1 : w[q1]? = some (a, .inl (k 1, n1, .inl h))) (j : Nat) (hj : n = nI j) (hj0 : j ≤ n0) (hj1 : j ≤ n1) (hn : n0 < 2 ^ 31) (hfr : 1 ≤ R.frames) (hlo : (rest.map fun v => v.category).sum + (nativeFrameWords "java/lang/System" "arraycopy" 5 + 11) ≤ R.locals) (hd : decode cc pc = .ok (.invokestatic ix, 3)) {w' : va_W} (hw : w.set q1 (a, .inl (k 1, n1, .inl (va_cpy f h 0 0 j))) = w') (kk : Z c0 s0 w' lv (pc + 3) rest) : Z c0 s0 w lv pc (.int n :: .int 0 :: .ref a :: .int 0 :: .ref a0 :: rest) := by
  subst hw
  obtain ⟨p, e, s, m, args, below, meth, c, Q, A, rfl, hx, hb, hml, hown, hts, hK, hA⟩ := g
  intro H locs ls hP hD hS hl
  subst hj
  have hc : (nI j).toNatClampNeg = j := nI_clamp (Nat.lt_of_le_of_lt hj0 hn)
  have hz : (0 : Int32).toNatClampNeg = 0 := by decide
  refine va_copyi (D := G) hx hb (hml.trans hl.1.symm) hown (hts _ h1) (hts _ h2) (hts _ h3) (hts _ h4) hK hP hD hS q0 q1 1 1 ha0 ha1 rfl rfl rfl (sp := 0) (dp := 0) (n := nI j) (by decide) (by decide) (nI_pos (Nat.lt_of_le_of_lt hj0 hn)) (by rw [hc, hz]; omega) (by rw [hc, hz]; omega) (fun i _ => rfl) hfr hlo hd (fun H1 locs1 hP hD hS => ?_)
  rw [hc, hz] at hP hD
  exact kk H1 locs1 ls hP hD hS hl
theorem z_copyl (g : Gd l R cc nL own Ts G k Z) {ix a0 a n0 n1 : Nat} {f h : Nat → Int64} {n : Int32} (h1 : Cond.methodLink own ix arraycopyName ∈ Ts) (h2 : Cond.native arraycopyName ∈ Ts) (h3 : Cond.static arraycopyName ∈ Ts) (h4 : Cond.initialized "java/lang/System" ∈ Ts) (q0 q1 : Nat) (ha0 : w[q0]? = some (a0, .inl (k 2, n0, .inr (.inl f)))) (ha1 : w[q1]? = some (a, .inl (k 2, n1, .inr (.inl h)))) (j : Nat) (hj : n = nI j) (hj0 : j ≤ n0) (hj1 : j ≤ n1) (hn : n0 < 2 ^ 31) (hfr : 1 ≤ R.frames) (hlo : (rest.map fun v => v.category).sum + (nativeFrameWords "java/lang/System" "arraycopy" 5 + 11) ≤ R.locals) (hd : decode cc pc = .ok (.invokestatic ix, 3)) {w' : va_W} (hw : w.set q1 (a, .inl (k 2, n1, .inr (.inl (va_cpy f h 0 0 j)))) = w') (kk : Z c0 s0 w' lv (pc + 3) rest) : Z c0 s0 w lv pc (.int n :: .int 0 :: .ref a :: .int 0 :: .ref a0 :: rest) := by
  subst hw
  obtain ⟨p, e, s, m, args, below, meth, c, Q, A, rfl, hx, hb, hml, hown, hts, hK, hA⟩ := g
  intro H locs ls hP hD hS hl
  subst hj
  have hc : (nI j).toNatClampNeg = j := nI_clamp (Nat.lt_of_le_of_lt hj0 hn)
  have hz : (0 : Int32).toNatClampNeg = 0 := by decide
  refine va_copyl (D := G) hx hb (hml.trans hl.1.symm) hown (hts _ h1) (hts _ h2) (hts _ h3) (hts _ h4) hK hP hD hS q0 q1 2 2 ha0 ha1 rfl rfl rfl (sp := 0) (dp := 0) (n := nI j) (by decide) (by decide) (nI_pos (Nat.lt_of_le_of_lt hj0 hn)) (by rw [hc, hz]; omega) (by rw [hc, hz]; omega) (fun i _ => rfl) hfr hlo hd (fun H1 locs1 hP hD hS => ?_)
  rw [hc, hz] at hP hD
  exact kk H1 locs1 ls hP hD hS hl
theorem z_lc_eq (g : Gd l R cc nL own Ts G k Z) {x y : Int64} {off : Int} {tgt : Nat} (h1 : decode cc pc = .ok (.lcmp, 1)) (hd : decode cc (pc + 1) = .ok (.ifCond .eq off, 3)) (ht : ((pc + 1 : Nat) : Int) + off = (tgt : Int)) (kt : x = y → Z c0 s0 w lv tgt rest) (kf : ¬ x = y → Z c0 s0 w lv (pc + 1 + 3) rest) : Z c0 s0 w lv pc (.long y :: .long x :: rest) :=
  z_lcmp g h1 (z_if_eq g hd ht (fun h => kt ((lg_cmp_eq x y).mp h)) (fun h => kf (fun q => h ((lg_cmp_eq x y).mpr q))))
theorem z_lc_ne (g : Gd l R cc nL own Ts G k Z) {x y : Int64} {off : Int} {tgt : Nat} (h1 : decode cc pc = .ok (.lcmp, 1)) (hd : decode cc (pc + 1) = .ok (.ifCond .ne off, 3)) (ht : ((pc + 1 : Nat) : Int) + off = (tgt : Int)) (kt : ¬ x = y → Z c0 s0 w lv tgt rest) (kf : x = y → Z c0 s0 w lv (pc + 1 + 3) rest) : Z c0 s0 w lv pc (.long y :: .long x :: rest) :=
  z_lcmp g h1 (z_if_ne g hd ht (fun h => kt ((not_congr (lg_cmp_eq x y)).mp h)) (fun h => kf ((lg_cmp_eq x y).mp h)))
theorem z_lc_lt (g : Gd l R cc nL own Ts G k Z) {x y : Int64} {off : Int} {tgt : Nat} (h1 : decode cc pc = .ok (.lcmp, 1)) (hd : decode cc (pc + 1) = .ok (.ifCond .lt off, 3)) (ht : ((pc + 1 : Nat) : Int) + off = (tgt : Int)) (kt : x < y → Z c0 s0 w lv tgt rest) (kf : ¬ x < y → Z c0 s0 w lv (pc + 1 + 3) rest) : Z c0 s0 w lv pc (.long y :: .long x :: rest) :=
  z_lcmp g h1 (z_if_lt g hd ht (fun h => kt ((lg_cmp_lt x y).mp h)) (fun h => kf (fun q => h ((lg_cmp_lt x y).mpr q))))
theorem z_lc_ge (g : Gd l R cc nL own Ts G k Z) {x y : Int64} {off : Int} {tgt : Nat} (h1 : decode cc pc = .ok (.lcmp, 1)) (hd : decode cc (pc + 1) = .ok (.ifCond .ge off, 3)) (ht : ((pc + 1 : Nat) : Int) + off = (tgt : Int)) (kt : y ≤ x → Z c0 s0 w lv tgt rest) (kf : ¬ y ≤ x → Z c0 s0 w lv (pc + 1 + 3) rest) : Z c0 s0 w lv pc (.long y :: .long x :: rest) :=
  z_lcmp g h1 (z_if_ge g hd ht (fun h => kt ((lg_cmp_ge x y).mp h)) (fun h => kf (fun q => h ((lg_cmp_ge x y).mpr q))))
theorem z_lc_gt (g : Gd l R cc nL own Ts G k Z) {x y : Int64} {off : Int} {tgt : Nat} (h1 : decode cc pc = .ok (.lcmp, 1)) (hd : decode cc (pc + 1) = .ok (.ifCond .gt off, 3)) (ht : ((pc + 1 : Nat) : Int) + off = (tgt : Int)) (kt : y < x → Z c0 s0 w lv tgt rest) (kf : ¬ y < x → Z c0 s0 w lv (pc + 1 + 3) rest) : Z c0 s0 w lv pc (.long y :: .long x :: rest) :=
  z_lcmp g h1 (z_if_gt g hd ht (fun h => kt ((lg_cmp_gt x y).mp h)) (fun h => kf (fun q => h ((lg_cmp_gt x y).mpr q))))
theorem z_lc_le (g : Gd l R cc nL own Ts G k Z) {x y : Int64} {off : Int} {tgt : Nat} (h1 : decode cc pc = .ok (.lcmp, 1)) (hd : decode cc (pc + 1) = .ok (.ifCond .le off, 3)) (ht : ((pc + 1 : Nat) : Int) + off = (tgt : Int)) (kt : x ≤ y → Z c0 s0 w lv tgt rest) (kf : ¬ x ≤ y → Z c0 s0 w lv (pc + 1 + 3) rest) : Z c0 s0 w lv pc (.long y :: .long x :: rest) :=
  z_lcmp g h1 (z_if_le g hd ht (fun h => kt ((lg_cmp_le x y).mp h)) (fun h => kf (fun q => h ((lg_cmp_le x y).mpr q))))
/-- a truth as the machine has it -/
def bI (b : Bool) : Int32 := if b then 1 else 0
theorem bI_0 {b : Bool} : bI b = 0 ↔ b = false := by cases b <;> decide
theorem bI_n {b : Bool} : narrow .boolean (.int (bI b)) = .int (bI b) := by cases b <;> rfl
theorem bI_inj {a b : Bool} : bI a = bI b ↔ a = b := by cases a <;> cases b <;> decide
theorem bI_d (P : Prop) [Decidable P] : bI (decide P) = if P then 1 else 0 := by by_cases h : P <;> simp [bI, h]
theorem z_bf_eq (g : Gd l R cc nL own Ts G k Z) {b : Bool} {off : Int} {tgt : Nat} (hd : decode cc pc = .ok (.ifCond .eq off, 3)) (ht : (pc : Int) + off = (tgt : Int)) (kt : b = false → Z c0 s0 w lv tgt rest) (kf : b = true → Z c0 s0 w lv (pc + 3) rest) : Z c0 s0 w lv pc (.int (bI b) :: rest) :=
  z_if_eq g hd ht (fun h => kt (bI_0.mp h)) (fun h => kf (by cases b; exact absurd rfl h; rfl))
theorem z_bf_ne (g : Gd l R cc nL own Ts G k Z) {b : Bool} {off : Int} {tgt : Nat} (hd : decode cc pc = .ok (.ifCond .ne off, 3)) (ht : (pc : Int) + off = (tgt : Int)) (kt : b = true → Z c0 s0 w lv tgt rest) (kf : b = false → Z c0 s0 w lv (pc + 3) rest) : Z c0 s0 w lv pc (.int (bI b) :: rest) :=
  z_if_ne g hd ht (fun h => kt (by cases b; exact absurd rfl h; rfl)) (fun h => kf (bI_0.mp h))
theorem z_bd_eq (g : Gd l R cc nL own Ts G k Z) {P : Prop} [Decidable P] {off : Int} {tgt : Nat} (hd : decode cc pc = .ok (.ifCond .eq off, 3)) (ht : (pc : Int) + off = (tgt : Int)) (kt : ¬ P → Z c0 s0 w lv tgt rest) (kf : P → Z c0 s0 w lv (pc + 3) rest) : Z c0 s0 w lv pc (.int (bI (decide P)) :: rest) :=
  z_bf_eq g hd ht (fun h => kt (of_decide_eq_false h)) (fun h => kf (of_decide_eq_true h))
theorem z_bd_ne (g : Gd l R cc nL own Ts G k Z) {P : Prop} [Decidable P] {off : Int} {tgt : Nat} (hd : decode cc pc = .ok (.ifCond .ne off, 3)) (ht : (pc : Int) + off = (tgt : Int)) (kt : P → Z c0 s0 w lv tgt rest) (kf : ¬ P → Z c0 s0 w lv (pc + 3) rest) : Z c0 s0 w lv pc (.int (bI (decide P)) :: rest) :=
  z_bf_ne g hd ht (fun h => kt (of_decide_eq_true h)) (fun h => kf (of_decide_eq_false h))
theorem z_n_ge (g : Gd l R cc nL own Ts G k Z) {a b : Nat} {off : Int} {tgt : Nat} (ha : a < 2 ^ 31) (hb9 : b < 2 ^ 31) (hd : decode cc pc = .ok (.if_icmp .ge off, 3)) (ht : (pc : Int) + off = (tgt : Int)) (kt : b ≤ a → Z c0 s0 w lv tgt rest) (kf : ¬ b ≤ a → Z c0 s0 w lv (pc + 3) rest) : Z c0 s0 w lv pc (.int (nI b) :: .int (nI a) :: rest) :=
  z_ic_ge g hd ht (fun h => kt ((nI_leI hb9 ha).mp h)) (fun h => kf (fun q => h ((nI_leI hb9 ha).mpr q)))
theorem z_n_gt (g : Gd l R cc nL own Ts G k Z) {a b : Nat} {off : Int} {tgt : Nat} (ha : a < 2 ^ 31) (hb9 : b < 2 ^ 31) (hd : decode cc pc = .ok (.if_icmp .gt off, 3)) (ht : (pc : Int) + off = (tgt : Int)) (kt : b < a → Z c0 s0 w lv tgt rest) (kf : ¬ b < a → Z c0 s0 w lv (pc + 3) rest) : Z c0 s0 w lv pc (.int (nI b) :: .int (nI a) :: rest) :=
  z_ic_gt g hd ht (fun h => kt ((nI_ltI hb9 ha).mp h)) (fun h => kf (fun q => h ((nI_ltI hb9 ha).mpr q)))
theorem z_n_lt (g : Gd l R cc nL own Ts G k Z) {a b : Nat} {off : Int} {tgt : Nat} (ha : a < 2 ^ 31) (hb9 : b < 2 ^ 31) (hd : decode cc pc = .ok (.if_icmp .lt off, 3)) (ht : (pc : Int) + off = (tgt : Int)) (kt : a < b → Z c0 s0 w lv tgt rest) (kf : ¬ a < b → Z c0 s0 w lv (pc + 3) rest) : Z c0 s0 w lv pc (.int (nI b) :: .int (nI a) :: rest) :=
  z_ic_lt g hd ht (fun h => kt ((nI_ltI ha hb9).mp h)) (fun h => kf (fun q => h ((nI_ltI ha hb9).mpr q)))
theorem z_inc (g : Gd l R cc nL own Ts G k Z) {i j : Nat} (hd : decode cc pc = .ok (.iinc i 1, 3)) (q : Nat) (hq : lv[q]? = some (i, .int (nI j))) (hn : i < nL) (hl9 : (i, Value.int (nI (j + 1))) :: lv.filter (fun q => !(q.1 == i) && !(q.1 + 1 == i && q.2.category == 2)) = lv') (kk : Z c0 s0 w lv' (pc + 3) rest) : Z c0 s0 w lv pc rest :=
  z_iinc g (nI (j + 1)) hd q hq (nI_1 j) hn hl9 kk
theorem z_dec (g : Gd l R cc nL own Ts G k Z) {i j : Nat} (hd : decode cc pc = .ok (.iinc i (-1), 3)) (q : Nat) (hq : lv[q]? = some (i, .int (nI (j + 1)))) (hn : i < nL) (hl9 : (i, Value.int (nI j)) :: lv.filter (fun q => !(q.1 == i) && !(q.1 + 1 == i && q.2.category == 2)) = lv') (kk : Z c0 s0 w lv' (pc + 3) rest) : Z c0 s0 w lv pc rest :=
  z_iinc g (nI j) hd q hq (pk_m1 j) hn hl9 kk
theorem z_callVv (g : Gd l R cc nL own Ts G k Z) {y : MethodName} {ws ws' : List Cond} {rm : Room} {bytes : ByteArray} {maxL mc ms ix : Nat} {ret : Option FieldType} {C : String} {b : Nat} {As st : List Value} {wc w1 wr w' : va_W} (hM : ∀ sz, Met l y ws rm (va_Pc (.ref b :: As) (KP G k wc sz)) (va_Qv (fun (_ : Unit) => True) (KQ G w1 (va_A wc sz)) (va_A wc sz)) mc ms (va_A wc sz)) (n : Nat) (hG : GoodIn Ts (wsV own ix C y ws)) (hw : ws = Cond.code y bytes maxL ret :: ws') (hrc : rm.cells = mc) (hrs : rm.slots = ms) (hd9 : y.cls = C ∧ y.cls ≠ "java/lang/invoke/MethodHandle" ∧ y.cls ≠ "java/lang/invoke/VarHandle" ∧ (parseMethodDescriptor y.desc).map (fun d => d.parameters.length) = some n) (hR : rm.frames + 1 ≤ R.frames ∧ 8 + (maxL + 11) + rm.locals ≤ R.locals) {ci N : Nat} {T : u_T} {fs : List Value} (q0 : Nat) (he : w[q0]? = some (b, .inr (ci, fs))) (hc : vwCl[ci]? = some (C, T, N)) (isC isR is2 : List Nat) (hnC : va_nd isC = true) (hC : isC.map (fun i => w[i]?) = wc.map some) (hRr : isR.map (fun i => w[i]?) = wr.map some) (hn : va_nd isR = true) (hdis : ∀ i ∈ isR, i ∉ isC) (h2 : is2.map (fun i => (wr ++ w1)[i]?) = w'.map some) (hn2 : va_nd is2 = true) (hnA : As.length = n) (hst : st = As.reverse ++ .ref b :: rest) (hrm : (rest.map fun v => v.category).sum ≤ 8) (hd : decode cc pc = .ok (.invokevirtual ix, 3)) (hf : c0 + mc ≤ R.cells ∧ s0 + ms ≤ R.slots) (kk : Z (c0 + mc) (s0 + ms) w' lv (pc + 3) (rest)) : Z c0 s0 w lv pc st := by
  obtain ⟨p, e, s, m, args, below, meth, c, Q, A, rfl, hx, hb, hml, hown, hts, hK, hA⟩ := g
  intro H locs ls hP hD hS hl
  have hPc := hP.sub isC (va_fm hC)
  have hDc := hD.sub isC hnC hC
  have hFc := va_free (wc := wc) hD hS hA isC hC
  refine va_callv (va_runV (As := As) (rest := rest) ⟨hx, hb, hml, hown, hts⟩ (hM H.size) (cwV n hts hG hw hrc hrs hd9 hR) ⟨KP_blind, va_recv hK hP hc he, fun U hU hW => ⟨rfl, by rw [hU], by rw [hU]; exact hPc, va_K.moved hW.alike hK, hDc.weaken (fun _ _ _ _ => trivial)⟩⟩ rfl hnA hl.1 hst (lv_room hrm) hd hf) hS (fun q _ h => hFc q h) hFc (fun u t H1 locs1 ht hvm hw9 hB hz1 hk1 hS1 => ?_)
  obtain ⟨hP1, hD1⟩ := hB
  rw [ht] at hP1
  obtain ⟨hP2, hD2⟩ := va_join (wr := wr) (w1 := w1) hP hD isC isR hC hRr hn hdis hk1 hFc hP1 hD1
  exact kk H1 locs1 ls (hP2.sub is2 (va_fm h2)) (hD2.sub is2 hn2 h2) hS1 hl
theorem z_callSv (g : Gd l R cc nL own Ts G k Z) {y : MethodName} {ws ws' : List Cond} {rm : Room} {bytes : ByteArray} {maxL mc ms ix : Nat} {ret : Option FieldType} {As st : List Value} {wc w1 wr w' : va_W} (hM : ∀ sz, Met l y ws rm (va_Pc (As) (KP G k wc sz)) (va_Qv (fun (_ : Unit) => True) (KQ G w1 (va_A wc sz)) (va_A wc sz)) mc ms (va_A wc sz)) (n : Nat) (hG : GoodIn Ts (va_wsS own ix y ws)) (hw : ws = Cond.code y bytes maxL ret :: ws') (hrc : rm.cells = mc) (hrs : rm.slots = ms) (hd9 : y.cls ≠ "java/lang/invoke/MethodHandle" ∧ y.cls ≠ "java/lang/invoke/VarHandle" ∧ (parseMethodDescriptor y.desc).map (fun d => d.parameters.length) = some n) (hR : rm.frames + 1 ≤ R.frames ∧ 8 + (maxL + 11) + rm.locals ≤ R.locals) (isC isR is2 : List Nat) (hnC : va_nd isC = true) (hC : isC.map (fun i => w[i]?) = wc.map some) (hRr : isR.map (fun i => w[i]?) = wr.map some) (hn : va_nd isR = true) (hdis : ∀ i ∈ isR, i ∉ isC) (h2 : is2.map (fun i => (wr ++ w1)[i]?) = w'.map some) (hn2 : va_nd is2 = true) (hnA : As.length = n) (hst : st = As.reverse ++ rest) (hrm : (rest.map fun v => v.category).sum ≤ 8) (hd : decode cc pc = .ok (.invokestatic ix, 3)) (hf : c0 + mc ≤ R.cells ∧ s0 + ms ≤ R.slots) (kk : Z (c0 + mc) (s0 + ms) w' lv (pc + 3) (rest)) : Z c0 s0 w lv pc st := by
  obtain ⟨p, e, s, m, args, below, meth, c, Q, A, rfl, hx, hb, hml, hown, hts, hK, hA⟩ := g
  intro H locs ls hP hD hS hl
  have hPc := hP.sub isC (va_fm hC)
  have hDc := hD.sub isC hnC hC
  have hFc := va_free (wc := wc) hD hS hA isC hC
  refine va_callv (va_runS (As := As) (rest := rest) ⟨hx, hb, hml, hown, hts⟩ (hM H.size) (va_cwS n hts hG hw hrc hrs hd9 hR) ⟨KP_blind, fun U hU hW => ⟨rfl, by rw [hU], by rw [hU]; exact hPc, va_K.moved hW.alike hK, hDc.weaken (fun _ _ _ _ => trivial)⟩⟩ rfl hnA hl.1 hst (lv_room hrm) hd hf) hS (fun q _ h => hFc q h) hFc (fun u t H1 locs1 ht hvm hw9 hB hz1 hk1 hS1 => ?_)
  obtain ⟨hP1, hD1⟩ := hB
  rw [ht] at hP1
  obtain ⟨hP2, hD2⟩ := va_join (wr := wr) (w1 := w1) hP hD isC isR hC hRr hn hdis hk1 hFc hP1 hD1
  exact kk H1 locs1 ls (hP2.sub is2 (va_fm h2)) (hD2.sub is2 hn2 h2) hS1 hl
theorem z_callIv (g : Gd l R cc nL own Ts G k Z) {y : MethodName} {ws ws' : List Cond} {rm : Room} {bytes : ByteArray} {maxL mc ms ix : Nat} {b : Nat} {As st : List Value} {wc w1 wr w' : va_W} (hM : ∀ sz, Met l y ws rm (va_Pc (.ref b :: As) (KP G k wc sz)) (va_Qv (fun (_ : Unit) => True) (KQ G w1 (va_A wc sz)) (va_A wc sz)) mc ms (va_A wc sz)) (n : Nat) (hG : GoodIn Ts ws) (hw : ws = Cond.code y bytes maxL none :: ws') (hrc : rm.cells = mc) (hrs : rm.slots = ms) (hd9 : y.cls ≠ "java/lang/invoke/MethodHandle" ∧ y.cls ≠ "java/lang/invoke/VarHandle" ∧ (parseMethodDescriptor y.desc).map (fun d => d.parameters.length) = some n) (hR : rm.frames + 1 ≤ R.frames ∧ 8 + (maxL + 11) + rm.locals ≤ R.locals) (hini : Cond.initialized y.cls ∈ Ts) (hlk : Cond.methodLink own ix y ∈ Ts) (hin : Cond.instanceMethod y ∈ Ts) (hy1 : y.name = "<init>") (isC isR is2 : List Nat) (hnC : va_nd isC = true) (hC : isC.map (fun i => w[i]?) = wc.map some) (hRr : isR.map (fun i => w[i]?) = wr.map some) (hn : va_nd isR = true) (hdis : ∀ i ∈ isR, i ∉ isC) (h2 : is2.map (fun i => (wr ++ w1)[i]?) = w'.map some) (hn2 : va_nd is2 = true) (hnA : As.length = n) (hst : st = As.reverse ++ .ref b :: rest) (hrm : (rest.map fun v => v.category).sum ≤ 8) (hd : decode cc pc = .ok (.invokespecial ix, 3)) (hf : c0 + mc ≤ R.cells ∧ s0 + ms ≤ R.slots) (kk : Z (c0 + mc) (s0 + ms) w' lv (pc + 3) (rest)) : Z c0 s0 w lv pc st := by
  obtain ⟨p, e, s, m, args, below, meth, c, Q, A, rfl, hx, hb, hml, hown, hts, hK, hA⟩ := g
  intro H locs ls hP hD hS hl
  have hPc := hP.sub isC (va_fm hC)
  have hDc := hD.sub isC hnC hC
  have hFc := va_free (wc := wc) hD hS hA isC hC
  refine va_callv (va_runI (As := As) (rest := rest) ⟨hx, hb, hml, hown, hts⟩ (hM H.size) (cwI n hts hG hw hrc hrs (hts _ hini) (hts _ hlk) (hts _ hin) hy1 hd9 hR) ⟨KP_blind, fun U hU hW => ⟨rfl, by rw [hU], by rw [hU]; exact hPc, va_K.moved hW.alike hK, hDc.weaken (fun _ _ _ _ => trivial)⟩⟩ rfl hnA hl.1 hst (lv_room hrm) hd hf) hS (fun q _ h => hFc q h) hFc (fun u t H1 locs1 ht hvm hw9 hB hz1 hk1 hS1 => ?_)
  obtain ⟨hP1, hD1⟩ := hB
  rw [ht] at hP1
  obtain ⟨hP2, hD2⟩ := va_join (wr := wr) (w1 := w1) hP hD isC isR hC hRr hn hdis hk1 hFc hP1 hD1
  exact kk H1 locs1 ls (hP2.sub is2 (va_fm h2)) (hD2.sub is2 hn2 h2) hS1 hl
theorem z_callVi (g : Gd l R cc nL own Ts G k Z) {y : MethodName} {ws ws' : List Cond} {rm : Room} {bytes : ByteArray} {maxL mc ms ix : Nat} {ret : Option FieldType} {C : String} {b : Nat} {As st : List Value} {v : Int32} {wc w1 wr w' : va_W} (hM : ∀ sz, Met l y ws rm (va_Pc (.ref b :: As) (KP G k wc sz)) (va_Qi (fun r (_ : Unit) => r = v) (KQ G w1 (va_A wc sz)) (va_A wc sz)) mc ms (va_A wc sz)) (n : Nat) (hG : GoodIn Ts (wsV own ix C y ws)) (hw : ws = Cond.code y bytes maxL ret :: ws') (hrc : rm.cells = mc) (hrs : rm.slots = ms) (hd9 : y.cls = C ∧ y.cls ≠ "java/lang/invoke/MethodHandle" ∧ y.cls ≠ "java/lang/invoke/VarHandle" ∧ (parseMethodDescriptor y.desc).map (fun d => d.parameters.length) = some n) (hR : rm.frames + 1 ≤ R.frames ∧ 8 + (maxL + 11) + rm.locals ≤ R.locals) {ci N : Nat} {T : u_T} {fs : List Value} (q0 : Nat) (he : w[q0]? = some (b, .inr (ci, fs))) (hc : vwCl[ci]? = some (C, T, N)) (isC isR is2 : List Nat) (hnC : va_nd isC = true) (hC : isC.map (fun i => w[i]?) = wc.map some) (hRr : isR.map (fun i => w[i]?) = wr.map some) (hn : va_nd isR = true) (hdis : ∀ i ∈ isR, i ∉ isC) (h2 : is2.map (fun i => (wr ++ w1)[i]?) = w'.map some) (hn2 : va_nd is2 = true) (hnA : As.length = n) (hst : st = As.reverse ++ .ref b :: rest) (hrm : (rest.map fun v => v.category).sum ≤ 8) (hd : decode cc pc = .ok (.invokevirtual ix, 3)) (hf : c0 + mc ≤ R.cells ∧ s0 + ms ≤ R.slots) (kk : Z (c0 + mc) (s0 + ms) w' lv (pc + 3) (.int v :: rest)) : Z c0 s0 w lv pc st := by
  obtain ⟨p, e, s, m, args, below, meth, c, Q, A, rfl, hx, hb, hml, hown, hts, hK, hA⟩ := g
  intro H locs ls hP hD hS hl
  have hPc := hP.sub isC (va_fm hC)
  have hDc := hD.sub isC hnC hC
  have hFc := va_free (wc := wc) hD hS hA isC hC
  refine va_calli (va_runV (As := As) (rest := rest) ⟨hx, hb, hml, hown, hts⟩ (hM H.size) (cwV n hts hG hw hrc hrs hd9 hR) ⟨KP_blind, va_recv hK hP hc he, fun U hU hW => ⟨rfl, by rw [hU], by rw [hU]; exact hPc, va_K.moved hW.alike hK, hDc.weaken (fun _ _ _ _ => trivial)⟩⟩ rfl hnA hl.1 hst (lv_room hrm) hd hf) hS (fun q _ h => hFc q h) hFc (fun r u t H1 locs1 ht hvm hw9 hB hz1 hk1 hS1 => ?_)
  subst hw9
  obtain ⟨hP1, hD1⟩ := hB
  rw [ht] at hP1
  obtain ⟨hP2, hD2⟩ := va_join (wr := wr) (w1 := w1) hP hD isC isR hC hRr hn hdis hk1 hFc hP1 hD1
  exact kk H1 locs1 ls (hP2.sub is2 (va_fm h2)) (hD2.sub is2 hn2 h2) hS1 hl
theorem z_callSi (g : Gd l R cc nL own Ts G k Z) {y : MethodName} {ws ws' : List Cond} {rm : Room} {bytes : ByteArray} {maxL mc ms ix : Nat} {ret : Option FieldType} {As st : List Value} {v : Int32} {wc w1 wr w' : va_W} (hM : ∀ sz, Met l y ws rm (va_Pc (As) (KP G k wc sz)) (va_Qi (fun r (_ : Unit) => r = v) (KQ G w1 (va_A wc sz)) (va_A wc sz)) mc ms (va_A wc sz)) (n : Nat) (hG : GoodIn Ts (va_wsS own ix y ws)) (hw : ws = Cond.code y bytes maxL ret :: ws') (hrc : rm.cells = mc) (hrs : rm.slots = ms) (hd9 : y.cls ≠ "java/lang/invoke/MethodHandle" ∧ y.cls ≠ "java/lang/invoke/VarHandle" ∧ (parseMethodDescriptor y.desc).map (fun d => d.parameters.length) = some n) (hR : rm.frames + 1 ≤ R.frames ∧ 8 + (maxL + 11) + rm.locals ≤ R.locals) (isC isR is2 : List Nat) (hnC : va_nd isC = true) (hC : isC.map (fun i => w[i]?) = wc.map some) (hRr : isR.map (fun i => w[i]?) = wr.map some) (hn : va_nd isR = true) (hdis : ∀ i ∈ isR, i ∉ isC) (h2 : is2.map (fun i => (wr ++ w1)[i]?) = w'.map some) (hn2 : va_nd is2 = true) (hnA : As.length = n) (hst : st = As.reverse ++ rest) (hrm : (rest.map fun v => v.category).sum ≤ 8) (hd : decode cc pc = .ok (.invokestatic ix, 3)) (hf : c0 + mc ≤ R.cells ∧ s0 + ms ≤ R.slots) (kk : Z (c0 + mc) (s0 + ms) w' lv (pc + 3) (.int v :: rest)) : Z c0 s0 w lv pc st := by
  obtain ⟨p, e, s, m, args, below, meth, c, Q, A, rfl, hx, hb, hml, hown, hts, hK, hA⟩ := g
  intro H locs ls hP hD hS hl
  have hPc := hP.sub isC (va_fm hC)
  have hDc := hD.sub isC hnC hC
  have hFc := va_free (wc := wc) hD hS hA isC hC
  refine va_calli (va_runS (As := As) (rest := rest) ⟨hx, hb, hml, hown, hts⟩ (hM H.size) (va_cwS n hts hG hw hrc hrs hd9 hR) ⟨KP_blind, fun U hU hW => ⟨rfl, by rw [hU], by rw [hU]; exact hPc, va_K.moved hW.alike hK, hDc.weaken (fun _ _ _ _ => trivial)⟩⟩ rfl hnA hl.1 hst (lv_room hrm) hd hf) hS (fun q _ h => hFc q h) hFc (fun r u t H1 locs1 ht hvm hw9 hB hz1 hk1 hS1 => ?_)
  subst hw9
  obtain ⟨hP1, hD1⟩ := hB
  rw [ht] at hP1
  obtain ⟨hP2, hD2⟩ := va_join (wr := wr) (w1 := w1) hP hD isC isR hC hRr hn hdis hk1 hFc hP1 hD1
  exact kk H1 locs1 ls (hP2.sub is2 (va_fm h2)) (hD2.sub is2 hn2 h2) hS1 hl
theorem z_callVl (g : Gd l R cc nL own Ts G k Z) {y : MethodName} {ws ws' : List Cond} {rm : Room} {bytes : ByteArray} {maxL mc ms ix : Nat} {ret : Option FieldType} {C : String} {b : Nat} {As st : List Value} {v : Int64} {wc w1 wr w' : va_W} (hM : ∀ sz, Met l y ws rm (va_Pc (.ref b :: As) (KP G k wc sz)) (va_Ql (fun r (_ : Unit) => r = v) (KQ G w1 (va_A wc sz)) (va_A wc sz)) mc ms (va_A wc sz)) (n : Nat) (hG : GoodIn Ts (wsV own ix C y ws)) (hw : ws = Cond.code y bytes maxL ret :: ws') (hrc : rm.cells = mc) (hrs : rm.slots = ms) (hd9 : y.cls = C ∧ y.cls ≠ "java/lang/invoke/MethodHandle" ∧ y.cls ≠ "java/lang/invoke/VarHandle" ∧ (parseMethodDescriptor y.desc).map (fun d => d.parameters.length) = some n) (hR : rm.frames + 1 ≤ R.frames ∧ 8 + (maxL + 11) + rm.locals ≤ R.locals) {ci N : Nat} {T : u_T} {fs : List Value} (q0 : Nat) (he : w[q0]? = some (b, .inr (ci, fs))) (hc : vwCl[ci]? = some (C, T, N)) (isC isR is2 : List Nat) (hnC : va_nd isC = true) (hC : isC.map (fun i => w[i]?) = wc.map some) (hRr : isR.map (fun i => w[i]?) = wr.map some) (hn : va_nd isR = true) (hdis : ∀ i ∈ isR, i ∉ isC) (h2 : is2.map (fun i => (wr ++ w1)[i]?) = w'.map some) (hn2 : va_nd is2 = true) (hnA : As.length = n) (hst : st = As.reverse ++ .ref b :: rest) (hrm : (rest.map fun v => v.category).sum ≤ 8) (hd : decode cc pc = .ok (.invokevirtual ix, 3)) (hf : c0 + mc ≤ R.cells ∧ s0 + ms ≤ R.slots) (kk : Z (c0 + mc) (s0 + ms) w' lv (pc + 3) (.long v :: rest)) : Z c0 s0 w lv pc st := by
  obtain ⟨p, e, s, m, args, below, meth, c, Q, A, rfl, hx, hb, hml, hown, hts, hK, hA⟩ := g
  intro H locs ls hP hD hS hl
  have hPc := hP.sub isC (va_fm hC)
  have hDc := hD.sub isC hnC hC
  have hFc := va_free (wc := wc) hD hS hA isC hC
  refine va_calll (va_runV (As := As) (rest := rest) ⟨hx, hb, hml, hown, hts⟩ (hM H.size) (cwV n hts hG hw hrc hrs hd9 hR) ⟨KP_blind, va_recv hK hP hc he, fun U hU hW => ⟨rfl, by rw [hU], by rw [hU]; exact hPc, va_K.moved hW.alike hK, hDc.weaken (fun _ _ _ _ => trivial)⟩⟩ rfl hnA hl.1 hst (lv_room hrm) hd hf) hS (fun q _ h => hFc q h) hFc (fun r u t H1 locs1 ht hvm hw9 hB hz1 hk1 hS1 => ?_)
  subst hw9
  obtain ⟨hP1, hD1⟩ := hB
  rw [ht] at hP1
  obtain ⟨hP2, hD2⟩ := va_join (wr := wr) (w1 := w1) hP hD isC isR hC hRr hn hdis hk1 hFc hP1 hD1
  exact kk H1 locs1 ls (hP2.sub is2 (va_fm h2)) (hD2.sub is2 hn2 h2) hS1 hl
theorem z_callSl (g : Gd l R cc nL own Ts G k Z) {y : MethodName} {ws ws' : List Cond} {rm : Room} {bytes : ByteArray} {maxL mc ms ix : Nat} {ret : Option FieldType} {As st : List Value} {v : Int64} {wc w1 wr w' : va_W} (hM : ∀ sz, Met l y ws rm (va_Pc (As) (KP G k wc sz)) (va_Ql (fun r (_ : Unit) => r = v) (KQ G w1 (va_A wc sz)) (va_A wc sz)) mc ms (va_A wc sz)) (n : Nat) (hG : GoodIn Ts (va_wsS own ix y ws)) (hw : ws = Cond.code y bytes maxL ret :: ws') (hrc : rm.cells = mc) (hrs : rm.slots = ms) (hd9 : y.cls ≠ "java/lang/invoke/MethodHandle" ∧ y.cls ≠ "java/lang/invoke/VarHandle" ∧ (parseMethodDescriptor y.desc).map (fun d => d.parameters.length) = some n) (hR : rm.frames + 1 ≤ R.frames ∧ 8 + (maxL + 11) + rm.locals ≤ R.locals) (isC isR is2 : List Nat) (hnC : va_nd isC = true) (hC : isC.map (fun i => w[i]?) = wc.map some) (hRr : isR.map (fun i => w[i]?) = wr.map some) (hn : va_nd isR = true) (hdis : ∀ i ∈ isR, i ∉ isC) (h2 : is2.map (fun i => (wr ++ w1)[i]?) = w'.map some) (hn2 : va_nd is2 = true) (hnA : As.length = n) (hst : st = As.reverse ++ rest) (hrm : (rest.map fun v => v.category).sum ≤ 8) (hd : decode cc pc = .ok (.invokestatic ix, 3)) (hf : c0 + mc ≤ R.cells ∧ s0 + ms ≤ R.slots) (kk : Z (c0 + mc) (s0 + ms) w' lv (pc + 3) (.long v :: rest)) : Z c0 s0 w lv pc st := by
  obtain ⟨p, e, s, m, args, below, meth, c, Q, A, rfl, hx, hb, hml, hown, hts, hK, hA⟩ := g
  intro H locs ls hP hD hS hl
  have hPc := hP.sub isC (va_fm hC)
  have hDc := hD.sub isC hnC hC
  have hFc := va_free (wc := wc) hD hS hA isC hC
  refine va_calll (va_runS (As := As) (rest := rest) ⟨hx, hb, hml, hown, hts⟩ (hM H.size) (va_cwS n hts hG hw hrc hrs hd9 hR) ⟨KP_blind, fun U hU hW => ⟨rfl, by rw [hU], by rw [hU]; exact hPc, va_K.moved hW.alike hK, hDc.weaken (fun _ _ _ _ => trivial)⟩⟩ rfl hnA hl.1 hst (lv_room hrm) hd hf) hS (fun q _ h => hFc q h) hFc (fun r u t H1 locs1 ht hvm hw9 hB hz1 hk1 hS1 => ?_)
  subst hw9
  obtain ⟨hP1, hD1⟩ := hB
  rw [ht] at hP1
  obtain ⟨hP2, hD2⟩ := va_join (wr := wr) (w1 := w1) hP hD isC isR hC hRr hn hdis hk1 hFc hP1 hD1
  exact kk H1 locs1 ls (hP2.sub is2 (va_fm h2)) (hD2.sub is2 hn2 h2) hS1 hl
theorem z_callVd (g : Gd l R cc nL own Ts G k Z) {y : MethodName} {ws ws' : List Cond} {rm : Room} {bytes : ByteArray} {maxL mc ms ix : Nat} {ret : Option FieldType} {C : String} {b : Nat} {As st : List Value} {v : UInt64} {wc w1 wr w' : va_W} (hM : ∀ sz, Met l y ws rm (va_Pc (.ref b :: As) (KP G k wc sz)) (va_Qd (fun r (_ : Unit) => r = v) (KQ G w1 (va_A wc sz)) (va_A wc sz)) mc ms (va_A wc sz)) (n : Nat) (hG : GoodIn Ts (wsV own ix C y ws)) (hw : ws = Cond.code y bytes maxL ret :: ws') (hrc : rm.cells = mc) (hrs : rm.slots = ms) (hd9 : y.cls = C ∧ y.cls ≠ "java/lang/invoke/MethodHandle" ∧ y.cls ≠ "java/lang/invoke/VarHandle" ∧ (parseMethodDescriptor y.desc).map (fun d => d.parameters.length) = some n) (hR : rm.frames + 1 ≤ R.frames ∧ 8 + (maxL + 11) + rm.locals ≤ R.locals) {ci N : Nat} {T : u_T} {fs : List Value} (q0 : Nat) (he : w[q0]? = some (b, .inr (ci, fs))) (hc : vwCl[ci]? = some (C, T, N)) (isC isR is2 : List Nat) (hnC : va_nd isC = true) (hC : isC.map (fun i => w[i]?) = wc.map some) (hRr : isR.map (fun i => w[i]?) = wr.map some) (hn : va_nd isR = true) (hdis : ∀ i ∈ isR, i ∉ isC) (h2 : is2.map (fun i => (wr ++ w1)[i]?) = w'.map some) (hn2 : va_nd is2 = true) (hnA : As.length = n) (hst : st = As.reverse ++ .ref b :: rest) (hrm : (rest.map fun v => v.category).sum ≤ 8) (hd : decode cc pc = .ok (.invokevirtual ix, 3)) (hf : c0 + mc ≤ R.cells ∧ s0 + ms ≤ R.slots) (kk : Z (c0 + mc) (s0 + ms) w' lv (pc + 3) (.double v :: rest)) : Z c0 s0 w lv pc st := by
  obtain ⟨p, e, s, m, args, below, meth, c, Q, A, rfl, hx, hb, hml, hown, hts, hK, hA⟩ := g
  intro H locs ls hP hD hS hl
  have hPc := hP.sub isC (va_fm hC)
  have hDc := hD.sub isC hnC hC
  have hFc := va_free (wc := wc) hD hS hA isC hC
  refine va_calld (va_runV (As := As) (rest := rest) ⟨hx, hb, hml, hown, hts⟩ (hM H.size) (cwV n hts hG hw hrc hrs hd9 hR) ⟨KP_blind, va_recv hK hP hc he, fun U hU hW => ⟨rfl, by rw [hU], by rw [hU]; exact hPc, va_K.moved hW.alike hK, hDc.weaken (fun _ _ _ _ => trivial)⟩⟩ rfl hnA hl.1 hst (lv_room hrm) hd hf) hS (fun q _ h => hFc q h) hFc (fun r u t H1 locs1 ht hvm hw9 hB hz1 hk1 hS1 => ?_)
  subst hw9
  obtain ⟨hP1, hD1⟩ := hB
  rw [ht] at hP1
  obtain ⟨hP2, hD2⟩ := va_join (wr := wr) (w1 := w1) hP hD isC isR hC hRr hn hdis hk1 hFc hP1 hD1
  exact kk H1 locs1 ls (hP2.sub is2 (va_fm h2)) (hD2.sub is2 hn2 h2) hS1 hl
theorem z_callSd (g : Gd l R cc nL own Ts G k Z) {y : MethodName} {ws ws' : List Cond} {rm : Room} {bytes : ByteArray} {maxL mc ms ix : Nat} {ret : Option FieldType} {As st : List Value} {v : UInt64} {wc w1 wr w' : va_W} (hM : ∀ sz, Met l y ws rm (va_Pc (As) (KP G k wc sz)) (va_Qd (fun r (_ : Unit) => r = v) (KQ G w1 (va_A wc sz)) (va_A wc sz)) mc ms (va_A wc sz)) (n : Nat) (hG : GoodIn Ts (va_wsS own ix y ws)) (hw : ws = Cond.code y bytes maxL ret :: ws') (hrc : rm.cells = mc) (hrs : rm.slots = ms) (hd9 : y.cls ≠ "java/lang/invoke/MethodHandle" ∧ y.cls ≠ "java/lang/invoke/VarHandle" ∧ (parseMethodDescriptor y.desc).map (fun d => d.parameters.length) = some n) (hR : rm.frames + 1 ≤ R.frames ∧ 8 + (maxL + 11) + rm.locals ≤ R.locals) (isC isR is2 : List Nat) (hnC : va_nd isC = true) (hC : isC.map (fun i => w[i]?) = wc.map some) (hRr : isR.map (fun i => w[i]?) = wr.map some) (hn : va_nd isR = true) (hdis : ∀ i ∈ isR, i ∉ isC) (h2 : is2.map (fun i => (wr ++ w1)[i]?) = w'.map some) (hn2 : va_nd is2 = true) (hnA : As.length = n) (hst : st = As.reverse ++ rest) (hrm : (rest.map fun v => v.category).sum ≤ 8) (hd : decode cc pc = .ok (.invokestatic ix, 3)) (hf : c0 + mc ≤ R.cells ∧ s0 + ms ≤ R.slots) (kk : Z (c0 + mc) (s0 + ms) w' lv (pc + 3) (.double v :: rest)) : Z c0 s0 w lv pc st := by
  obtain ⟨p, e, s, m, args, below, meth, c, Q, A, rfl, hx, hb, hml, hown, hts, hK, hA⟩ := g
  intro H locs ls hP hD hS hl
  have hPc := hP.sub isC (va_fm hC)
  have hDc := hD.sub isC hnC hC
  have hFc := va_free (wc := wc) hD hS hA isC hC
  refine va_calld (va_runS (As := As) (rest := rest) ⟨hx, hb, hml, hown, hts⟩ (hM H.size) (va_cwS n hts hG hw hrc hrs hd9 hR) ⟨KP_blind, fun U hU hW => ⟨rfl, by rw [hU], by rw [hU]; exact hPc, va_K.moved hW.alike hK, hDc.weaken (fun _ _ _ _ => trivial)⟩⟩ rfl hnA hl.1 hst (lv_room hrm) hd hf) hS (fun q _ h => hFc q h) hFc (fun r u t H1 locs1 ht hvm hw9 hB hz1 hk1 hS1 => ?_)
  subst hw9
  obtain ⟨hP1, hD1⟩ := hB
  rw [ht] at hP1
  obtain ⟨hP2, hD2⟩ := va_join (wr := wr) (w1 := w1) hP hD isC isR hC hRr hn hdis hk1 hFc hP1 hD1
  exact kk H1 locs1 ls (hP2.sub is2 (va_fm h2)) (hD2.sub is2 hn2 h2) hS1 hl
theorem met_v {y : MethodName} {ws ws' : List Cond} {rm : Room} {maxL : Nat} {av : List Value} {wc w1 : va_W} {lv0 : List (Nat × Value)} (mc ms : Nat) (hy : plainName y.cls = true) (hw : ws = Cond.code y cc maxL none :: ws') (hown : y.cls = own) (hav : (lg_sl av).length ≤ maxL) (hlv : lv_args 0 av = lv0) (body : ∀ Z : ZT, Gd l rm cc maxL own ws G k Z → (∀ (w : va_W) (lv : List (Nat × Value)) (pc : Nat), decode cc pc = .ok (.return_, 1) → w = w1 → Z mc ms w lv pc []) → Z 0 0 wc lv0 0 []) : ∀ sz, Met l y ws rm (va_Pc av (KP G k wc sz)) (va_Qv (fun (_ : Unit) => True) (KQ G w1 (va_A wc sz)) (va_A wc sz)) mc ms (va_A wc sz) := by
  intro sz
  refine Met.ofW (cc := cc) (maxL := maxL) hy hw ?_
  intro p e s m args below meth c s₁ B hml hv
  obtain ⟨rfl, hsz, hP, hK, hD0⟩ := hv
  subst hsz
  subst hown
  have hD := hD0.self (sz := s.heap.size)
  have hlocks := B.notSynchronized
  rw [lg_entry_eq]
  refine body (Zd p l e rm s m av.toArray below meth c (MQ below (va_Qv (fun (_ : Unit) => True) (KQ G w1 (va_A wc s.heap.size)) (va_A wc s.heap.size)) av.toArray s mc ms (va_A wc s.heap.size)) G (va_A wc s.heap.size) maxL) ⟨p, e, s, m, _, below, meth, c, _, _, rfl, B.exec, B.bytes, hml, findClass_of_methodNamed B.named, atoms_spec B.pre, hK, fun q h => Or.inr h⟩ ?_ s.heap [] _ hP hD va_S.rf (hlv ▸ lv_entry av hav)
  intro w lv pc hd hw1 H locs ls hP hD hS hl
  subst hw1
  exact W.vret B.exec B.bytes B.returns (fun t ht hW => ⟨⟨(), rfl, trivial, by rw [ht]; exact hP, hD⟩, hS.F ht⟩) hS.2.2 hd
theorem met_i {y : MethodName} {ws ws' : List Cond} {rm : Room} {maxL : Nat} {av : List Value} {v : Int32} {wc w1 : va_W} {lv0 : List (Nat × Value)} (mc ms : Nat) (hy : plainName y.cls = true) (hw : ws = Cond.code y cc maxL (some .int) :: ws') (hown : y.cls = own) (hav : (lg_sl av).length ≤ maxL) (hlv : lv_args 0 av = lv0) (body : ∀ Z : ZT, Gd l rm cc maxL own ws G k Z → (∀ (w : va_W) (lv : List (Nat × Value)) (pc : Nat) (r : Int32), decode cc pc = .ok (.ireturn, 1) → r = v → w = w1 → Z mc ms w lv pc [.int r]) → Z 0 0 wc lv0 0 []) : ∀ sz, Met l y ws rm (va_Pc av (KP G k wc sz)) (va_Qi (fun r (_ : Unit) => r = v) (KQ G w1 (va_A wc sz)) (va_A wc sz)) mc ms (va_A wc sz) := by
  intro sz
  refine Met.ofW (cc := cc) (maxL := maxL) hy hw ?_
  intro p e s m args below meth c s₁ B hml hv
  obtain ⟨rfl, hsz, hP, hK, hD0⟩ := hv
  subst hsz
  subst hown
  have hD := hD0.self (sz := s.heap.size)
  have hlocks := B.notSynchronized
  rw [lg_entry_eq]
  refine body (Zd p l e rm s m av.toArray below meth c (MQ below (va_Qi (fun r (_ : Unit) => r = v) (KQ G w1 (va_A wc s.heap.size)) (va_A wc s.heap.size)) av.toArray s mc ms (va_A wc s.heap.size)) G (va_A wc s.heap.size) maxL) ⟨p, e, s, m, _, below, meth, c, _, _, rfl, B.exec, B.bytes, hml, findClass_of_methodNamed B.named, atoms_spec B.pre, hK, fun q h => Or.inr h⟩ ?_ s.heap [] _ hP hD va_S.rf (hlv ▸ lv_entry av hav)
  intro w lv pc r hd hr hw1 H locs ls hP hD hS hl
  subst hr; subst hw1
  exact W.iret B.exec B.bytes B.returns (fun t ht hW => ⟨⟨r, (), rfl, rfl, by rw [ht]; exact hP, hD⟩, hS.F ht⟩) hS.2.2 hd
theorem met_z {y : MethodName} {ws ws' : List Cond} {rm : Room} {maxL : Nat} {ty : FieldType} {av : List Value} {v : Int32} {wc w1 : va_W} {lv0 : List (Nat × Value)} (mc ms : Nat) (hy : plainName y.cls = true) (hw : ws = Cond.code y cc maxL (some ty) :: ws') (hown : y.cls = own) (hav : (lg_sl av).length ≤ maxL) (hlv : lv_args 0 av = lv0) (hnr : narrow ty (.int v) = .int v) (body : ∀ Z : ZT, Gd l rm cc maxL own ws G k Z → (∀ (w : va_W) (lv : List (Nat × Value)) (pc : Nat) (r : Int32), decode cc pc = .ok (.ireturn, 1) → r = v → w = w1 → Z mc ms w lv pc [.int r]) → Z 0 0 wc lv0 0 []) : ∀ sz, Met l y ws rm (va_Pc av (KP G k wc sz)) (va_Qi (fun r (_ : Unit) => r = v) (KQ G w1 (va_A wc sz)) (va_A wc sz)) mc ms (va_A wc sz) := by
  intro sz
  refine Met.ofW (cc := cc) (maxL := maxL) hy hw ?_
  intro p e s m args below meth c s₁ B hml hv
  obtain ⟨rfl, hsz, hP, hK, hD0⟩ := hv
  subst hsz
  subst hown
  have hD := hD0.self (sz := s.heap.size)
  have hlocks := B.notSynchronized
  rw [lg_entry_eq]
  refine body (Zd p l e rm s m av.toArray below meth c (MQ below (va_Qi (fun r (_ : Unit) => r = v) (KQ G w1 (va_A wc s.heap.size)) (va_A wc s.heap.size)) av.toArray s mc ms (va_A wc s.heap.size)) G (va_A wc s.heap.size) maxL) ⟨p, e, s, m, _, below, meth, c, _, _, rfl, B.exec, B.bytes, hml, findClass_of_methodNamed B.named, atoms_spec B.pre, hK, fun q h => Or.inr h⟩ ?_ s.heap [] _ hP hD va_S.rf (hlv ▸ lv_entry av hav)
  intro w lv pc r hd hr hw1 H locs ls hP hD hS hl
  subst hr; subst hw1
  exact W.zret B.exec B.bytes B.returns hnr (fun t ht hW => ⟨⟨r, (), rfl, rfl, by rw [ht]; exact hP, hD⟩, hS.F ht⟩) hS.2.2 hd
theorem met_l {y : MethodName} {ws ws' : List Cond} {rm : Room} {maxL : Nat} {av : List Value} {v : Int64} {wc w1 : va_W} {lv0 : List (Nat × Value)} (mc ms : Nat) (hy : plainName y.cls = true) (hw : ws = Cond.code y cc maxL (some .long) :: ws') (hown : y.cls = own) (hav : (lg_sl av).length ≤ maxL) (hlv : lv_args 0 av = lv0) (body : ∀ Z : ZT, Gd l rm cc maxL own ws G k Z → (∀ (w : va_W) (lv : List (Nat × Value)) (pc : Nat) (r : Int64), decode cc pc = .ok (.lreturn, 1) → r = v → w = w1 → Z mc ms w lv pc [.long r]) → Z 0 0 wc lv0 0 []) : ∀ sz, Met l y ws rm (va_Pc av (KP G k wc sz)) (va_Ql (fun r (_ : Unit) => r = v) (KQ G w1 (va_A wc sz)) (va_A wc sz)) mc ms (va_A wc sz) := by
  intro sz
  refine Met.ofW (cc := cc) (maxL := maxL) hy hw ?_
  intro p e s m args below meth c s₁ B hml hv
  obtain ⟨rfl, hsz, hP, hK, hD0⟩ := hv
  subst hsz
  subst hown
  have hD := hD0.self (sz := s.heap.size)
  have hlocks := B.notSynchronized
  rw [lg_entry_eq]
  refine body (Zd p l e rm s m av.toArray below meth c (MQ below (va_Ql (fun r (_ : Unit) => r = v) (KQ G w1 (va_A wc s.heap.size)) (va_A wc s.heap.size)) av.toArray s mc ms (va_A wc s.heap.size)) G (va_A wc s.heap.size) maxL) ⟨p, e, s, m, _, below, meth, c, _, _, rfl, B.exec, B.bytes, hml, findClass_of_methodNamed B.named, atoms_spec B.pre, hK, fun q h => Or.inr h⟩ ?_ s.heap [] _ hP hD va_S.rf (hlv ▸ lv_entry av hav)
  intro w lv pc r hd hr hw1 H locs ls hP hD hS hl
  subst hr; subst hw1
  exact W.lret B.exec B.bytes B.returns (fun t ht hW => ⟨⟨r, (), rfl, rfl, by rw [ht]; exact hP, hD⟩, hS.F ht⟩) hS.2.2 hd
theorem met_d {y : MethodName} {ws ws' : List Cond} {rm : Room} {maxL : Nat} {av : List Value} {v : UInt64} {wc w1 : va_W} {lv0 : List (Nat × Value)} (mc ms : Nat) (hy : plainName y.cls = true) (hw : ws = Cond.code y cc maxL (some .double) :: ws') (hown : y.cls = own) (hav : (lg_sl av).length ≤ maxL) (hlv : lv_args 0 av = lv0) (body : ∀ Z : ZT, Gd l rm cc maxL own ws G k Z → (∀ (w : va_W) (lv : List (Nat × Value)) (pc : Nat) (r : UInt64), decode cc pc = .ok (.dreturn, 1) → r = v → w = w1 → Z mc ms w lv pc [.double r]) → Z 0 0 wc lv0 0 []) : ∀ sz, Met l y ws rm (va_Pc av (KP G k wc sz)) (va_Qd (fun r (_ : Unit) => r = v) (KQ G w1 (va_A wc sz)) (va_A wc sz)) mc ms (va_A wc sz) := by
  intro sz
  refine Met.ofW (cc := cc) (maxL := maxL) hy hw ?_
  intro p e s m args below meth c s₁ B hml hv
  obtain ⟨rfl, hsz, hP, hK, hD0⟩ := hv
  subst hsz
  subst hown
  have hD := hD0.self (sz := s.heap.size)
  have hlocks := B.notSynchronized
  rw [lg_entry_eq]
  refine body (Zd p l e rm s m av.toArray below meth c (MQ below (va_Qd (fun r (_ : Unit) => r = v) (KQ G w1 (va_A wc s.heap.size)) (va_A wc s.heap.size)) av.toArray s mc ms (va_A wc s.heap.size)) G (va_A wc s.heap.size) maxL) ⟨p, e, s, m, _, below, meth, c, _, _, rfl, B.exec, B.bytes, hml, findClass_of_methodNamed B.named, atoms_spec B.pre, hK, fun q h => Or.inr h⟩ ?_ s.heap [] _ hP hD va_S.rf (hlv ▸ lv_entry av hav)
  intro w lv pc r hd hr hw1 H locs ls hP hD hS hl
  subst hr; subst hw1
  exact W.dret B.exec B.bytes B.returns (fun t ht hW => ⟨⟨r, (), rfl, rfl, by rw [ht]; exact hP, hD⟩, hS.F ht⟩) hS.2.2 hd
end ZR
end
section
theorem mi {l : List Cond} {w : Cond} (i : Nat) (h : l[i]? = some w) : w ∈ l := List.mem_of_getElem? h
theorem nIm_neg {j : Nat} (h : nI j - 1 < 0) (hj : j < 2 ^ 31) : j = 0 := by
  rcases j with _ | j
  · rfl
  · rw [nI_pred] at h
    exact absurd h (nI_pos (by omega))
theorem nIm_pos {j : Nat} (h : ¬ nI j - 1 < 0) : ∃ i, j = i + 1 := by
  rcases j with _ | j
  · exact absurd (by decide) h
  · exact ⟨j, rfl⟩
theorem nIm_dec (j : Nat) : nI (j + 1) - 1 + Int32.ofInt (-1) = nI j - 1 := by
  rw [nI_pred, Int32.sub_eq_add_neg]
  rfl
theorem nI_lt0 {j : Nat} (hj : j < 2 ^ 31) : ¬ nI j < 0 := nI_pos hj
/-- an array's contents outside its length don't matter -/
theorem vp_cell_eqL {cA : ClassId} {n : Nat} {f h : Nat → Int64} (e : ∀ j, j < n → f j = h j) : vp_cell cA (n, .inr (.inl f)) = vp_cell cA (n, .inr (.inl h)) := by
  rw [vp_cell_l, vp_cell_l]
  unfold arrV
  congr 2
  funext j
  show Value.long (f j.val) = Value.long (h j.val)
  rw [e j.val j.isLt]
theorem vp_cell_eqI {cA : ClassId} {n : Nat} {f h : Nat → Int32} (e : ∀ j, j < n → f j = h j) : vp_cell cA (n, .inl f) = vp_cell cA (n, .inl h) := by
  rw [vp_cell_i, vp_cell_i]
  unfold arrV
  congr 2
  funext j
  show Value.int (f j.val) = Value.int (h j.val)
  rw [e j.val j.isLt]
section ZE
variable {l : Launch} {R : Room} {cc : ByteArray} {nL : Nat} {own : String} {Ts : List Cond} {G : va_G} {k : Nat → ClassId} {Z : ZT}
variable {c0 s0 : Nat} {w w' : va_W} {lv lv' : List (Nat × Value)} {pc : Nat} {rest : List Value}
theorem va_setcell {D : va_G} {cl : List vw_C} {ws : va_W} {H : Heap} (hP : va_P D cl ws H) {q0 : Nat} {e e' : Nat × va_E} (he : ws[q0]? = some e) (h : va_at D cl e' H) : va_P D cl (ws.set q0 e') H := by
  intro i q hq
  by_cases hi : q0 = i
  · subst hi
    have hl : q0 < ws.length := (List.getElem?_eq_some_iff.mp he).1
    rw [List.getElem?_set_self hl] at hq
    cases hq
    exact h
  · rw [List.getElem?_set_ne hi] at hq
    exact hP i q hq
theorem z_eqL (g : Gd l R cc nL own Ts G k Z) {a n : Nat} {cA : ClassId} {f : Nat → Int64} (h : Nat → Int64) (q0 : Nat) (ha : w[q0]? = some (a, .inl (cA, n, .inr (.inl f)))) (e : ∀ j, j < n → f j = h j) (hw : w.set q0 (a, .inl (cA, n, .inr (.inl h))) = w') (kk : Z c0 s0 w' lv pc rest) : Z c0 s0 w lv pc rest := by
  subst hw
  obtain ⟨p, e9, s, m, args, below, meth, c, Q, A, rfl, hx, hb, hml, hown, hts, hK, hA⟩ := g
  intro H locs ls hP hD hS hl
  exact kk H locs ls (va_setcell hP ha (by have := hP q0 _ ha; show H[a]? = some (vp_cell _ _); rw [← vp_cell_eqL e]; exact this)) (hD.set ha) hS hl
theorem z_eqI (g : Gd l R cc nL own Ts G k Z) {a n : Nat} {cA : ClassId} {f : Nat → Int32} (h : Nat → Int32) (q0 : Nat) (ha : w[q0]? = some (a, .inl (cA, n, .inl f))) (e : ∀ j, j < n → f j = h j) (hw : w.set q0 (a, .inl (cA, n, .inl h)) = w') (kk : Z c0 s0 w' lv pc rest) : Z c0 s0 w lv pc rest := by
  subst hw
  obtain ⟨p, e9, s, m, args, below, meth, c, Q, A, rfl, hx, hb, hml, hown, hts, hK, hA⟩ := g
  intro H locs ls hP hD hS hl
  exact kk H locs ls (va_setcell hP ha (by have := hP q0 _ ha; show H[a]? = some (vp_cell _ _); rw [← vp_cell_eqI e]; exact this)) (hD.set ha) hS hl
end ZE
/-! the draft: f its characters, n how many, i how far they have been read -/
def takesP (f : Nat → Int32) (n i : Nat) (c : Int32) : Bool := if n ≤ i then false else if f i = c then true else false
def takesN (f : Nat → Int32) (n i : Nat) (c : Int32) : Nat := if takesP f n i c then i + 1 else i
/-- the digit that comes next, if it is lo .. hi -/
def dgD (f : Nat → Int32) (n i : Nat) : Int32 := if n ≤ i then -1 else f i - 48
def dgP (f : Nat → Int32) (n i : Nat) (lo hi : Int32) : Bool := if dgD f n i < lo then false else if dgD f n i ≤ hi then true else false
def dgV (f : Nat → Int32) (n i : Nat) (lo hi : Int32) : Int32 := if dgP f n i lo hi then dgD f n i else -1
def dgN (f : Nat → Int32) (n i : Nat) (lo hi : Int32) : Nat := if dgP f n i lo hi then i + 1 else i
/-- append -/
def appP (n : Nat) (c : Int32) : Bool := if 30 ≤ n then false else if c < 32 then false else if c ≤ 126 then true else false
def appF (f : Nat → Int32) (n : Nat) (c : Int32) : Nat → Int32 := if appP n c then upd f n (vp_nar .char c) else f
def appN (n : Nat) (c : Int32) : Nat := if appP n c then n + 1 else n
/-! polynomials: the coefficients of the powers 0 .. 6 -/
def getP (f : Nat → Int64) (i : Int32) : Int64 := if i < 0 then 0 else if 6 < i then 0 else f i.toNatClampNeg
def addP (f : Nat → Int64) (x : Int64) (i : Int32) : Nat → Int64 := if i < 0 then f else if 6 < i then f else vp_updL f i.toNatClampNeg (f i.toNatClampNeg + x)
def degP (f : Nat → Int64) : Nat → Nat
  | 0 => 0
  | j + 1 => if f (j + 1) = 0 then degP f j else j + 1
def oneP : Nat → Int64 := fun j => if j = 0 then 1 else 0
def mulP (f : Nat → Int64) (r : Int32) : Nat → Int64 := fun j => if j = 0 then (-r).toInt64 * f 0 else f (j - 1) - r.toInt64 * f j
/-- Horner from the highest power m on: after n powers -/
def hrn (f : Nat → Int64) (r : Int64) : Nat → Int64
  | 0 => 0
  | n + 1 => f (6 - n) + r * hrn f r n
def dvP (f : Nat → Int64) (r : Int32) : Nat → Int64 := fun j => hrn f r.toInt64 (6 - j)
def mixP (a b : Int64) (f h : Nat → Int64) : Nat → Int64 := fun j => a * f j + b * h j
def hxP (f : Nat → Int64) (t : Int64) (m : Nat) : Nat → Int64
  | 0 => 0
  | n + 1 => hxP f t m n * t + f (m - n)
def hdP (f : Nat → Int64) (x : UInt64) (m : Nat) : Nat → UInt64
  | 0 => FP.dconst0
  | n + 1 => FP.dadd (FP.dmul (hdP f x m n) x) (FP.l2d (f (m - n)))
/-- no NaN on the way -/
def hdOK (f : Nat → Int64) (x : UInt64) (m : Nat) : Prop := ∀ n, n ≤ m → vf_n64 (FP.dmul (hdP f x m n) x) ∧ vf_n64 (hdP f x m (n + 1))
theorem ix6 {i : Int32} (h1 : ¬ i < 0) (h2 : ¬ 6 < i) : i = nI i.toNatClampNeg ∧ i.toNatClampNeg < 7 := by
  obtain ⟨j, hj, rfl⟩ := nI_of2 (M := 6) (n := 6) (by decide) h1 (Int32.not_lt.mp h2)
  rw [nI_clamp (by omega)]
  exact ⟨rfl, by omega⟩
set_option maxHeartbeats 4000000 in
set_option maxRecDepth 100000 in
/-- Draft.empty() -/
theorem k_X0_empty (l : Launch) (G : va_G) (k : Nat → ClassId) (h0 h1 n i : Nat) : ∀ sz, Met l yX0_empty wsX0_empty ({ frames := 0, cells := 0, slots := 0, locals := 0 }) (va_Pc [.ref h0] (KP G k [(h0, .inr (0, [.ref h1, .int (nI n), .int (nI i)]))] sz)) (va_Qv (fun (_ : Unit) => True) (KQ G [(h0, .inr (0, [.ref h1, .int (nI 0), .int (nI 0)]))] (va_A [(h0, .inr (0, [.ref h1, .int (nI n), .int (nI i)]))] sz)) (va_A [(h0, .inr (0, [.ref h1, .int (nI n), .int (nI i)]))] sz)) 0 0 (va_A [(h0, .inr (0, [.ref h1, .int (nI n), .int (nI i)]))] sz) := by
  refine met_v 0 0 (lv0 := [(0, .ref h0)]) (own := RX0) (by decide) rfl rfl (Nat.le_of_ble_eq_true rfl) rfl (fun Z g hret => ?_)
  have hX0 : ∀ w ∈ u_ws RX0 TX0 3, w ∈ wsX0_empty := fun w h => List.mem_cons_of_mem _ (List.mem_append_right _ (h))
  refine z_aload_n g dX0_empty_0 0 rfl ?_
  refine z_ic0 g dX0_empty_1 ?_
  refine z_put (w' := [(_, .inr (0, [_, _, _]))]) g hX0 tyX0 tyX0_ok nmX0 0 rfl rfl 1 (by decide) (mi 1 rfl) rfl rfl rfl (Nat.le_of_ble_eq_true rfl) dX0_empty_2 rfl ?_
  refine z_aload_n g dX0_empty_5 0 rfl ?_
  refine z_ic0 g dX0_empty_6 ?_
  refine z_put (w' := [(_, .inr (0, [_, _, _]))]) g hX0 tyX0 tyX0_ok nmX0 0 rfl rfl 2 (by decide) (mi 2 rfl) rfl rfl rfl (Nat.le_of_ble_eq_true rfl) dX0_empty_7 rfl ?_
  exact hret _ _ _ dX0_empty_10 (rfl)
theorem nd_X0_empty : yX0_empty.cls = RX0 ∧ yX0_empty.cls ≠ "java/lang/invoke/MethodHandle" ∧ yX0_empty.cls ≠ "java/lang/invoke/VarHandle" ∧ (parseMethodDescriptor yX0_empty.desc).map (fun d => d.parameters.length) = some 0 := by decide +kernel
set_option maxHeartbeats 4000000 in
set_option maxRecDepth 100000 in
/-- Draft.isAtEnd() -/
theorem k_X0_isAtEnd (l : Launch) (G : va_G) (k : Nat → ClassId) (h0 h1 n i : Nat) (hn : n ≤ 30) (hi : i ≤ n) : ∀ sz, Met l yX0_isAtEnd wsX0_isAtEnd ({ frames := 0, cells := 0, slots := 0, locals := 0 }) (va_Pc [.ref h0] (KP G k [(h0, .inr (0, [.ref h1, .int (nI n), .int (nI i)]))] sz)) (va_Qi (fun r (_ : Unit) => r = bI (decide (n ≤ i))) (KQ G [(h0, .inr (0, [.ref h1, .int (nI n), .int (nI i)]))] (va_A [(h0, .inr (0, [.ref h1, .int (nI n), .int (nI i)]))] sz)) (va_A [(h0, .inr (0, [.ref h1, .int (nI n), .int (nI i)]))] sz)) 0 0 (va_A [(h0, .inr (0, [.ref h1, .int (nI n), .int (nI i)]))] sz) := by
  refine met_z 0 0 (lv0 := [(0, .ref h0)]) (own := RX0) (by decide) rfl rfl (Nat.le_of_ble_eq_true rfl) rfl bI_n (fun Z g hret => ?_)
  have hX0 : ∀ w ∈ u_ws RX0 TX0 3, w ∈ wsX0_isAtEnd := fun w h => List.mem_cons_of_mem _ (List.mem_append_right _ (h))
  refine z_aload_n g dX0_isAtEnd_0 0 rfl ?_
  refine z_get g hX0 0 rfl rfl 2 (by decide) (mi 1 rfl) rfl dX0_isAtEnd_1 ?_
  refine z_aload_n g dX0_isAtEnd_4 0 rfl ?_
  refine z_get g hX0 0 rfl rfl 1 (by decide) (mi 2 rfl) rfl dX0_isAtEnd_5 ?_
  refine z_n_lt g (a := i) (b := n) (tgt := 15) (by omega) (by omega) dX0_isAtEnd_8 (by decide) (fun b8 => ?_) (fun b8 => ?_)
  · refine z_ic0 g dX0_isAtEnd_15 ?_
    exact hret _ _ _ _ dX0_isAtEnd_16 ((by rw [bI_d]; first | rw [if_neg (by omega)] | rw [if_pos (by omega)])) (rfl)
  · refine z_ic1 g dX0_isAtEnd_11 ?_
    refine z_goto g 16 dX0_isAtEnd_12 (by decide) ?_
    exact hret _ _ _ _ dX0_isAtEnd_16 ((by rw [bI_d]; first | rw [if_neg (by omega)] | rw [if_pos (by omega)])) (rfl)
theorem nd_X0_isAtEnd : yX0_isAtEnd.cls = RX0 ∧ yX0_isAtEnd.cls ≠ "java/lang/invoke/MethodHandle" ∧ yX0_isAtEnd.cls ≠ "java/lang/invoke/VarHandle" ∧ (parseMethodDescriptor yX0_isAtEnd.desc).map (fun d => d.parameters.length) = some 0 := by decide +kernel
set_option maxHeartbeats 4000000 in
set_option maxRecDepth 100000 in
/-- Draft.append(c) -/
theorem k_X0_append (l : Launch) (G : va_G) (k : Nat → ClassId) (h0 h1 : Nat) (f : Nat → Int32) (n i : Nat) (p0 : Int32) (hn : n ≤ 30) (hi : i ≤ n) : ∀ sz, Met l yX0_append wsX0_append ({ frames := 0, cells := 0, slots := 0, locals := 0 }) (va_Pc [.ref h0, .int p0] (KP G k [(h0, .inr (0, [.ref h1, .int (nI n), .int (nI i)])), (h1, .inl (k 0, 30, .inl f))] sz)) (va_Qi (fun r (_ : Unit) => r = bI (appP n p0)) (KQ G [(h0, .inr (0, [.ref h1, .int (nI (appN n p0)), .int (nI i)])), (h1, .inl (k 0, 30, .inl (appF f n p0)))] (va_A [(h0, .inr (0, [.ref h1, .int (nI n), .int (nI i)])), (h1, .inl (k 0, 30, .inl f))] sz)) (va_A [(h0, .inr (0, [.ref h1, .int (nI n), .int (nI i)])), (h1, .inl (k 0, 30, .inl f))] sz)) 0 0 (va_A [(h0, .inr (0, [.ref h1, .int (nI n), .int (nI i)])), (h1, .inl (k 0, 30, .inl f))] sz) := by
  refine met_z 0 0 (lv0 := [(0, .ref h0), (1, .int p0)]) (own := RX0) (by decide) rfl rfl (Nat.le_of_ble_eq_true rfl) rfl bI_n (fun Z g hret => ?_)
  have hX0 : ∀ w ∈ u_ws RX0 TX0 3, w ∈ wsX0_append := fun w h => List.mem_cons_of_mem _ (List.mem_append_right _ (h))
  refine z_aload_n g dX0_append_0 0 rfl ?_
  refine z_get g hX0 0 rfl rfl 1 (by decide) (mi 1 rfl) rfl dX0_append_1 ?_
  refine z_bi g 30 dX0_append_4 (by decide) ?_
  refine z_n_ge g (a := n) (b := 30) (tgt := 21) (by omega) (by omega) dX0_append_6 (by decide) (fun b6 => ?_) (fun b6 => ?_)
  · refine z_ic0 g dX0_append_21 ?_
    exact hret _ _ _ _ dX0_append_22 ((by simp only [appP, if_pos b6, reduceIte, Bool.false_eq_true] <;> rfl)) ((by simp only [appF, appN, appP, if_pos b6, reduceIte, Bool.false_eq_true] <;> rfl))
  · refine z_iload_n g dX0_append_9 1 rfl ?_
    refine z_bi g 32 dX0_append_10 (by decide) ?_
    refine z_ic_lt g (tgt := 21) dX0_append_12 (by decide) (fun b12 => ?_) (fun b12 => ?_)
    · refine z_ic0 g dX0_append_21 ?_
      exact hret _ _ _ _ dX0_append_22 ((by simp only [appP, if_neg b6, if_pos b12, reduceIte, Bool.false_eq_true] <;> rfl)) ((by simp only [appF, appN, appP, if_neg b6, if_pos b12, reduceIte, Bool.false_eq_true] <;> rfl))
    · refine z_iload_n g dX0_append_15 1 rfl ?_
      refine z_bi g 126 dX0_append_16 (by decide) ?_
      refine z_ic_le g (tgt := 23) dX0_append_18 (by decide) (fun b18 => ?_) (fun b18 => ?_)
      · refine z_aload_n g dX0_append_23 0 rfl ?_
        refine z_get g hX0 0 rfl rfl 0 (by decide) (mi 2 rfl) rfl dX0_append_24 ?_
        refine z_aload_n g dX0_append_27 0 rfl ?_
        refine z_get g hX0 0 rfl rfl 1 (by decide) (mi 1 rfl) rfl dX0_append_28 ?_
        refine z_iload_n g dX0_append_31 1 rfl ?_
        refine z_cast (w' := [_, _]) g 1 rfl n rfl (by omega) (by decide) dX0_append_32 rfl ?_
        refine z_aload_n g dX0_append_33 0 rfl ?_
        refine z_dup g dX0_append_34 rfl ?_
        refine z_get g hX0 0 rfl rfl 1 (by decide) (mi 1 rfl) rfl dX0_append_35 ?_
        refine z_ic1 g dX0_append_38 ?_
        refine z_iadd g dX0_append_39 ?_
        refine z_ti (y := nI (n + 1)) (nI_1 n) ?_
        refine z_put (w' := [(_, .inr (0, [_, _, _])), _]) g hX0 tyX0 tyX0_ok nmX0 0 rfl rfl 1 (by decide) (mi 1 rfl) rfl rfl rfl (Nat.le_of_ble_eq_true rfl) dX0_append_40 rfl ?_
        refine z_ic1 g dX0_append_43 ?_
        exact hret _ _ _ _ dX0_append_44 ((by simp only [appP, if_neg b6, if_neg b12, if_pos b18, reduceIte, Bool.false_eq_true] <;> rfl)) ((by simp only [appF, appN, appP, if_neg b6, if_neg b12, if_pos b18, reduceIte, Bool.false_eq_true] <;> rfl))
      · refine z_ic0 g dX0_append_21 ?_
        exact hret _ _ _ _ dX0_append_22 ((by simp only [appP, if_neg b6, if_neg b12, if_neg b18, reduceIte, Bool.false_eq_true] <;> rfl)) ((by simp only [appF, appN, appP, if_neg b6, if_neg b12, if_neg b18, reduceIte, Bool.false_eq_true] <;> rfl))
theorem nd_X0_append : yX0_append.cls = RX0 ∧ yX0_append.cls ≠ "java/lang/invoke/MethodHandle" ∧ yX0_append.cls ≠ "java/lang/invoke/VarHandle" ∧ (parseMethodDescriptor yX0_append.desc).map (fun d => d.parameters.length) = some 1 := by decide +kernel
set_option maxHeartbeats 4000000 in
set_option maxRecDepth 100000 in
/-- Draft.takes(c) -/
theorem k_X0_takes (l : Launch) (G : va_G) (k : Nat → ClassId) (h0 h1 : Nat) (f : Nat → Int32) (n i : Nat) (p0 : Int32) (hn : n ≤ 30) (hi : i ≤ n) : ∀ sz, Met l yX0_takes wsX0_takes ({ frames := 1, cells := 0, slots := 0, locals := 20 }) (va_Pc [.ref h0, .int p0] (KP G k [(h0, .inr (0, [.ref h1, .int (nI n), .int (nI i)])), (h1, .inl (k 0, 30, .inl f))] sz)) (va_Qi (fun r (_ : Unit) => r = bI (takesP f n i p0)) (KQ G [(h0, .inr (0, [.ref h1, .int (nI n), .int (nI (takesN f n i p0))])), (h1, .inl (k 0, 30, .inl f))] (va_A [(h0, .inr (0, [.ref h1, .int (nI n), .int (nI i)])), (h1, .inl (k 0, 30, .inl f))] sz)) (va_A [(h0, .inr (0, [.ref h1, .int (nI n), .int (nI i)])), (h1, .inl (k 0, 30, .inl f))] sz)) 0 0 (va_A [(h0, .inr (0, [.ref h1, .int (nI n), .int (nI i)])), (h1, .inl (k 0, 30, .inl f))] sz) := by
  refine met_z 0 0 (lv0 := [(0, .ref h0), (1, .int p0)]) (own := RX0) (by decide) rfl rfl (Nat.le_of_ble_eq_true rfl) rfl bI_n (fun Z g hret => ?_)
  have hX0 : ∀ w ∈ u_ws RX0 TX0 3, w ∈ wsX0_takes := fun w h => List.mem_cons_of_mem _ (List.mem_append_right _ (h))
  refine z_aload_n g dX0_takes_0 0 rfl ?_
  refine z_callVi (w' := [_, _]) (wr := [_]) g (k_X0_isAtEnd l G k _ _ _ _ (by assumption) (by assumption)) 0 gX0_takes_X0_isAtEnd rfl rfl rfl nd_X0_isAtEnd ⟨by decide, by decide⟩ 0 rfl rfl [0] [1] [1, 0] rfl rfl rfl rfl (by decide) rfl rfl rfl rfl (Nat.le_of_ble_eq_true rfl) dX0_takes_1 ⟨by decide, by decide⟩ ?_
  refine z_bd_ne g (tgt := 24) dX0_takes_4 (by decide) (fun b4 => ?_) (fun b4 => ?_)
  · refine z_ic0 g dX0_takes_24 ?_
    refine z_istore_n (lv' := [(2, .int _), (0, .ref _), (1, .int _)]) g dX0_takes_25 (by decide) rfl ?_
    refine z_iload_n g dX0_takes_26 0 rfl ?_
    refine z_if_eq g (tgt := 40) dX0_takes_27 (by decide) (fun b27 => ?_) (fun b27 => ?_)
    · refine z_iload_n g dX0_takes_40 0 rfl ?_
      exact hret _ _ _ _ dX0_takes_41 ((by simp only [takesP, if_pos b4, if_pos b27, reduceIte, Bool.false_eq_true] <;> rfl)) ((by simp only [takesN, takesP, if_pos b4, if_pos b27, reduceIte, Bool.false_eq_true] <;> rfl))
    · exact absurd (by decide) b27
  · refine z_aload_n g dX0_takes_7 0 rfl ?_
    refine z_get g hX0 0 rfl rfl 0 (by decide) (mi 1 rfl) rfl dX0_takes_8 ?_
    refine z_aload_n g dX0_takes_11 0 rfl ?_
    refine z_get g hX0 0 rfl rfl 2 (by decide) (mi 2 rfl) rfl dX0_takes_12 ?_
    refine z_cald g 1 rfl i rfl (by omega) (by decide) dX0_takes_15 ?_
    refine z_iload_n g dX0_takes_16 1 rfl ?_
    refine z_ic_ne g (tgt := 24) dX0_takes_17 (by decide) (fun b17 => ?_) (fun b17 => ?_)
    · refine z_ic0 g dX0_takes_24 ?_
      refine z_istore_n (lv' := [(2, .int _), (0, .ref _), (1, .int _)]) g dX0_takes_25 (by decide) rfl ?_
      refine z_iload_n g dX0_takes_26 0 rfl ?_
      refine z_if_eq g (tgt := 40) dX0_takes_27 (by decide) (fun b27 => ?_) (fun b27 => ?_)
      · refine z_iload_n g dX0_takes_40 0 rfl ?_
        exact hret _ _ _ _ dX0_takes_41 ((by simp only [takesP, if_neg b4, if_neg b17, if_pos b27, reduceIte, Bool.false_eq_true] <;> rfl)) ((by simp only [takesN, takesP, if_neg b4, if_neg b17, if_pos b27, reduceIte, Bool.false_eq_true] <;> rfl))
      · exact absurd (by decide) b27
    · refine z_ic1 g dX0_takes_20 ?_
      refine z_goto g 25 dX0_takes_21 (by decide) ?_
      refine z_istore_n (lv' := [(2, .int _), (0, .ref _), (1, .int _)]) g dX0_takes_25 (by decide) rfl ?_
      refine z_iload_n g dX0_takes_26 0 rfl ?_
      refine z_if_eq g (tgt := 40) dX0_takes_27 (by decide) (fun b27 => ?_) (fun b27 => ?_)
      · exact absurd b27 (by decide)
      · refine z_aload_n g dX0_takes_30 1 rfl ?_
        refine z_dup g dX0_takes_31 rfl ?_
        refine z_get g hX0 0 rfl rfl 2 (by decide) (mi 2 rfl) rfl dX0_takes_32 ?_
        refine z_ic1 g dX0_takes_35 ?_
        refine z_iadd g dX0_takes_36 ?_
        refine z_ti (y := nI (i + 1)) (nI_1 i) ?_
        refine z_put (w' := [(_, .inr (0, [_, _, _])), _]) g hX0 tyX0 tyX0_ok nmX0 0 rfl rfl 2 (by decide) (mi 2 rfl) rfl rfl rfl (Nat.le_of_ble_eq_true rfl) dX0_takes_37 rfl ?_
        refine z_iload_n g dX0_takes_40 0 rfl ?_
        exact hret _ _ _ _ dX0_takes_41 ((by simp only [takesP, if_neg b4, if_pos b17, if_neg b27, reduceIte, Bool.false_eq_true] <;> rfl)) ((by simp only [takesN, takesP, if_neg b4, if_pos b17, if_neg b27, reduceIte, Bool.false_eq_true] <;> rfl))
theorem nd_X0_takes : yX0_takes.cls = RX0 ∧ yX0_takes.cls ≠ "java/lang/invoke/MethodHandle" ∧ yX0_takes.cls ≠ "java/lang/invoke/VarHandle" ∧ (parseMethodDescriptor yX0_takes.desc).map (fun d => d.parameters.length) = some 1 := by decide +kernel
set_option maxHeartbeats 4000000 in
set_option maxRecDepth 100000 in
/-- Draft.takeDigit(lo, hi) -/
theorem k_X0_takeDigit (l : Launch) (G : va_G) (k : Nat → ClassId) (h0 h1 : Nat) (f : Nat → Int32) (n i : Nat) (p0 p1 : Int32) (hn : n ≤ 30) (hi : i ≤ n) : ∀ sz, Met l yX0_takeDigit wsX0_takeDigit ({ frames := 1, cells := 0, slots := 0, locals := 20 }) (va_Pc [.ref h0, .int p0, .int p1] (KP G k [(h0, .inr (0, [.ref h1, .int (nI n), .int (nI i)])), (h1, .inl (k 0, 30, .inl f))] sz)) (va_Qi (fun r (_ : Unit) => r = dgV f n i p0 p1) (KQ G [(h0, .inr (0, [.ref h1, .int (nI n), .int (nI (dgN f n i p0 p1))])), (h1, .inl (k 0, 30, .inl f))] (va_A [(h0, .inr (0, [.ref h1, .int (nI n), .int (nI i)])), (h1, .inl (k 0, 30, .inl f))] sz)) (va_A [(h0, .inr (0, [.ref h1, .int (nI n), .int (nI i)])), (h1, .inl (k 0, 30, .inl f))] sz)) 0 0 (va_A [(h0, .inr (0, [.ref h1, .int (nI n), .int (nI i)])), (h1, .inl (k 0, 30, .inl f))] sz) := by
  refine met_i 0 0 (lv0 := [(0, .ref h0), (1, .int p0), (2, .int p1)]) (own := RX0) (by decide) rfl rfl (Nat.le_of_ble_eq_true rfl) rfl (fun Z g hret => ?_)
  have hX0 : ∀ w ∈ u_ws RX0 TX0 3, w ∈ wsX0_takeDigit := fun w h => List.mem_cons_of_mem _ (List.mem_append_right _ (h))
  refine z_aload_n g dX0_takeDigit_0 0 rfl ?_
  refine z_callVi (w' := [_, _]) (wr := [_]) g (k_X0_isAtEnd l G k _ _ _ _ (by assumption) (by assumption)) 0 gX0_takeDigit_X0_isAtEnd rfl rfl rfl nd_X0_isAtEnd ⟨by decide, by decide⟩ 0 rfl rfl [0] [1] [1, 0] rfl rfl rfl rfl (by decide) rfl rfl rfl rfl (Nat.le_of_ble_eq_true rfl) dX0_takeDigit_1 ⟨by decide, by decide⟩ ?_
  refine z_bd_eq g (tgt := 11) dX0_takeDigit_4 (by decide) (fun b4 => ?_) (fun b4 => ?_)
  · refine z_aload_n g dX0_takeDigit_11 0 rfl ?_
    refine z_get g hX0 0 rfl rfl 0 (by decide) (mi 1 rfl) rfl dX0_takeDigit_12 ?_
    refine z_aload_n g dX0_takeDigit_15 0 rfl ?_
    refine z_get g hX0 0 rfl rfl 2 (by decide) (mi 2 rfl) rfl dX0_takeDigit_16 ?_
    refine z_cald g 1 rfl i rfl (by omega) (by decide) dX0_takeDigit_19 ?_
    refine z_bi g 48 dX0_takeDigit_20 (by decide) ?_
    refine z_isub g dX0_takeDigit_22 ?_
    refine z_istore_n (lv' := [(3, .int _), (0, .ref _), (1, .int _), (2, .int _)]) g dX0_takeDigit_23 (by decide) rfl ?_
    refine z_iload_n g dX0_takeDigit_24 0 rfl ?_
    refine z_iload_n g dX0_takeDigit_25 2 rfl ?_
    refine z_ic_lt g (tgt := 34) dX0_takeDigit_26 (by decide) (fun b26 => ?_) (fun b26 => ?_)
    · refine z_icm1 g dX0_takeDigit_34 ?_
      exact hret _ _ _ _ dX0_takeDigit_35 ((by simp only [dgV, dgP, dgD, if_neg b4, if_pos b26, reduceIte, Bool.false_eq_true] <;> rfl)) ((by simp only [dgN, dgP, dgD, if_neg b4, if_pos b26, reduceIte, Bool.false_eq_true] <;> rfl))
    · refine z_iload_n g dX0_takeDigit_29 0 rfl ?_
      refine z_iload_n g dX0_takeDigit_30 3 rfl ?_
      refine z_ic_le g (tgt := 36) dX0_takeDigit_31 (by decide) (fun b31 => ?_) (fun b31 => ?_)
      · refine z_aload_n g dX0_takeDigit_36 1 rfl ?_
        refine z_dup g dX0_takeDigit_37 rfl ?_
        refine z_get g hX0 0 rfl rfl 2 (by decide) (mi 2 rfl) rfl dX0_takeDigit_38 ?_
        refine z_ic1 g dX0_takeDigit_41 ?_
        refine z_iadd g dX0_takeDigit_42 ?_
        refine z_ti (y := nI (i + 1)) (nI_1 i) ?_
        refine z_put (w' := [(_, .inr (0, [_, _, _])), _]) g hX0 tyX0 tyX0_ok nmX0 0 rfl rfl 2 (by decide) (mi 2 rfl) rfl rfl rfl (Nat.le_of_ble_eq_true rfl) dX0_takeDigit_43 rfl ?_
        refine z_iload_n g dX0_takeDigit_46 0 rfl ?_
        exact hret _ _ _ _ dX0_takeDigit_47 ((by simp only [dgV, dgP, dgD, if_neg b4, if_neg b26, if_pos b31, reduceIte, Bool.false_eq_true] <;> rfl)) ((by simp only [dgN, dgP, dgD, if_neg b4, if_neg b26, if_pos b31, reduceIte, Bool.false_eq_true] <;> rfl))
      · refine z_icm1 g dX0_takeDigit_34 ?_
        exact hret _ _ _ _ dX0_takeDigit_35 ((by simp only [dgV, dgP, dgD, if_neg b4, if_neg b26, if_neg b31, reduceIte, Bool.false_eq_true] <;> rfl)) ((by simp only [dgN, dgP, dgD, if_neg b4, if_neg b26, if_neg b31, reduceIte, Bool.false_eq_true] <;> rfl))
  · refine z_icm1 g dX0_takeDigit_7 ?_
    refine z_goto g 23 dX0_takeDigit_8 (by decide) ?_
    refine z_istore_n (lv' := [(3, .int _), (0, .ref _), (1, .int _), (2, .int _)]) g dX0_takeDigit_23 (by decide) rfl ?_
    refine z_iload_n g dX0_takeDigit_24 0 rfl ?_
    refine z_iload_n g dX0_takeDigit_25 2 rfl ?_
    refine z_ic_lt g (tgt := 34) dX0_takeDigit_26 (by decide) (fun b26 => ?_) (fun b26 => ?_)
    · refine z_icm1 g dX0_takeDigit_34 ?_
      exact hret _ _ _ _ dX0_takeDigit_35 ((by simp only [dgV, dgP, dgD, if_pos b4, if_pos b26, reduceIte, Bool.false_eq_true] <;> rfl)) ((by simp only [dgN, dgP, dgD, if_pos b4, if_pos b26, reduceIte, Bool.false_eq_true] <;> rfl))
    · refine z_iload_n g dX0_takeDigit_29 0 rfl ?_
      refine z_iload_n g dX0_takeDigit_30 3 rfl ?_
      refine z_ic_le g (tgt := 36) dX0_takeDigit_31 (by decide) (fun b31 => ?_) (fun b31 => ?_)
      · refine z_aload_n g dX0_takeDigit_36 1 rfl ?_
        refine z_dup g dX0_takeDigit_37 rfl ?_
        refine z_get g hX0 0 rfl rfl 2 (by decide) (mi 2 rfl) rfl dX0_takeDigit_38 ?_
        refine z_ic1 g dX0_takeDigit_41 ?_
        refine z_iadd g dX0_takeDigit_42 ?_
        refine z_ti (y := nI (i + 1)) (nI_1 i) ?_
        refine z_put (w' := [(_, .inr (0, [_, _, _])), _]) g hX0 tyX0 tyX0_ok nmX0 0 rfl rfl 2 (by decide) (mi 2 rfl) rfl rfl rfl (Nat.le_of_ble_eq_true rfl) dX0_takeDigit_43 rfl ?_
        refine z_iload_n g dX0_takeDigit_46 0 rfl ?_
        exact hret _ _ _ _ dX0_takeDigit_47 ((by simp only [dgV, dgP, dgD, if_pos b4, if_neg b26, if_pos b31, reduceIte, Bool.false_eq_true] <;> rfl)) ((by simp only [dgN, dgP, dgD, if_pos b4, if_neg b26, if_pos b31, reduceIte, Bool.false_eq_true] <;> rfl))
      · refine z_icm1 g dX0_takeDigit_34 ?_
        exact hret _ _ _ _ dX0_takeDigit_35 ((by simp only [dgV, dgP, dgD, if_pos b4, if_neg b26, if_neg b31, reduceIte, Bool.false_eq_true] <;> rfl)) ((by simp only [dgN, dgP, dgD, if_pos b4, if_neg b26, if_neg b31, reduceIte, Bool.false_eq_true] <;> rfl))
theorem nd_X0_takeDigit : yX0_takeDigit.cls = RX0 ∧ yX0_takeDigit.cls ≠ "java/lang/invoke/MethodHandle" ∧ yX0_takeDigit.cls ≠ "java/lang/invoke/VarHandle" ∧ (parseMethodDescriptor yX0_takeDigit.desc).map (fun d => d.parameters.length) = some 2 := by decide +kernel
set_option maxHeartbeats 4000000 in
set_option maxRecDepth 100000 in
/-- Arrays.fill(long[], long) -/
theorem k_J7_fill_d0a16 (l : Launch) (G : va_G) (k : Nat → ClassId) (h0 n : Nat) (f : Nat → Int64) (p0 : Int64) (hn : n < 2 ^ 31) : ∀ sz, Met l yJ7_fill_d0a16 wsJ7_fill_d0a16 ({ frames := 0, cells := 0, slots := 0, locals := 0 }) (va_Pc [.ref h0, .long p0] (KP G k [(h0, .inl (k 2, n, .inr (.inl f)))] sz)) (va_Qv (fun (_ : Unit) => True) (KQ G [(h0, .inl (k 2, n, .inr (.inl (fun _ => p0))))] (va_A [(h0, .inl (k 2, n, .inr (.inl f)))] sz)) (va_A [(h0, .inl (k 2, n, .inr (.inl f)))] sz)) 0 0 (va_A [(h0, .inl (k 2, n, .inr (.inl f)))] sz) := by
  refine met_v 0 0 (lv0 := [(0, .ref h0), (1, .long p0)]) (own := RJ7) (by decide) rfl rfl (Nat.le_of_ble_eq_true rfl) rfl (fun Z g hret => ?_)
  refine z_ic0 g dJ7_fill_d0a16_0 ?_
  refine z_istore_n (lv' := [(3, .int _), (0, .ref _), (1, .long _)]) g dJ7_fill_d0a16_1 (by decide) rfl ?_
  refine z_aload_n g dJ7_fill_d0a16_2 1 rfl ?_
  refine z_alen g 0 2 rfl rfl (nI n) rfl dJ7_fill_d0a16_3 ?_
  refine z_istore (lv' := [(4, .int _), (3, .int _), (0, .ref _), (1, .long _)]) g dJ7_fill_d0a16_4 (by decide) rfl ?_
  have cut_6 : ∀ (N : Nat) (j : Nat) (f' : Nat → Int64), n - j < N → (j ≤ n) → (∀ i, i < j → f' i = p0) → Z 0 0 [(h0, .inl (k 2, n, .inr (.inl f')))] [(0, .ref h0), (1, .long p0), (3, .int (nI j)), (4, .int (nI n))] 6 [] := by
    intro N
    induction N with
    | zero => intro j f' hm; exact absurd hm (Nat.not_lt_zero _)
    | succ N ih6 =>
      intro j f' hm hj hI
      refine z_iload_n g dJ7_fill_d0a16_6 2 rfl ?_
      refine z_iload g dJ7_fill_d0a16_7 3 rfl ?_
      refine z_n_ge g (a := j) (b := n) (tgt := 22) (by omega) (by omega) dJ7_fill_d0a16_9 (by decide) (fun b9 => ?_) (fun b9 => ?_)
      · refine z_eqL (w' := [_]) g (fun _ => p0) 0 rfl (fun i h => hI i (by omega)) rfl ?_
        exact hret _ _ _ dJ7_fill_d0a16_22 (rfl)
      · refine z_aload_n g dJ7_fill_d0a16_12 0 rfl ?_
        refine z_iload_n g dJ7_fill_d0a16_13 2 rfl ?_
        refine z_lload_n g dJ7_fill_d0a16_14 1 rfl ?_
        refine z_last (w' := [_]) g 0 rfl j rfl (by omega) (by assumption) dJ7_fill_d0a16_15 rfl ?_
        refine z_inc (lv' := [(3, .int _), (0, .ref _), (1, .long _), (4, .int _)]) g dJ7_fill_d0a16_16 2 rfl (by decide) rfl ?_
        refine z_goto g 6 dJ7_fill_d0a16_19 (by decide) ?_
        refine z_locs (lv' := [(0, .ref _), (1, .long _), (3, .int _), (4, .int _)]) g [1, 2, 0, 3] rfl ?_
        exact ih6 _ _ (by omega) (by omega) (fun i h => by unfold vp_updL; split; rfl; exact hI i (by omega))
  refine z_locs (lv' := [(0, .ref _), (1, .long _), (3, .int _), (4, .int _)]) g [2, 3, 1, 0] rfl ?_
  exact cut_6 _ _ _ (Nat.lt_succ_self _) (Nat.zero_le _) (fun i h => absurd h (Nat.not_lt_zero _))
theorem nd_J7_fill_d0a16 : yJ7_fill_d0a16.cls ≠ "java/lang/invoke/MethodHandle" ∧ yJ7_fill_d0a16.cls ≠ "java/lang/invoke/VarHandle" ∧ (parseMethodDescriptor yJ7_fill_d0a16.desc).map (fun d => d.parameters.length) = some 2 := by decide +kernel
set_option maxHeartbeats 4000000 in
set_option maxRecDepth 100000 in
/-- Polynomial.becomeZero() -/
theorem k_X1_becomeZero (l : Launch) (G : va_G) (k : Nat → ClassId) (h0 h1 : Nat) (f : Nat → Int64) : ∀ sz, Met l yX1_becomeZero wsX1_becomeZero ({ frames := 1, cells := 0, slots := 0, locals := 24 }) (va_Pc [.ref h0] (KP G k [(h0, .inr (1, [.ref h1])), (h1, .inl (k 2, 7, .inr (.inl f)))] sz)) (va_Qv (fun (_ : Unit) => True) (KQ G [(h0, .inr (1, [.ref h1])), (h1, .inl (k 2, 7, .inr (.inl (fun _ => 0))))] (va_A [(h0, .inr (1, [.ref h1])), (h1, .inl (k 2, 7, .inr (.inl f)))] sz)) (va_A [(h0, .inr (1, [.ref h1])), (h1, .inl (k 2, 7, .inr (.inl f)))] sz)) 0 0 (va_A [(h0, .inr (1, [.ref h1])), (h1, .inl (k 2, 7, .inr (.inl f)))] sz) := by
  refine met_v 0 0 (lv0 := [(0, .ref h0)]) (own := RX1) (by decide) rfl rfl (Nat.le_of_ble_eq_true rfl) rfl (fun Z g hret => ?_)
  have hX1 : ∀ w ∈ u_ws RX1 TX1 1, w ∈ wsX1_becomeZero := fun w h => List.mem_cons_of_mem _ (List.mem_append_right _ (h))
  refine z_aload_n g dX1_becomeZero_0 0 rfl ?_
  refine z_get g hX1 0 rfl rfl 0 (by decide) (mi 1 rfl) rfl dX1_becomeZero_1 ?_
  refine z_lc0 g dX1_becomeZero_4 ?_
  refine z_callSv (w' := [_, _]) (wr := [_]) g (k_J7_fill_d0a16 l G k _ _ _ _ (by decide)) 2 gX1_becomeZero_J7_fill_d0a16 rfl rfl rfl nd_J7_fill_d0a16 ⟨by decide, by decide⟩ [1] [0] [0, 1] rfl rfl rfl rfl (by decide) rfl rfl rfl rfl (Nat.le_of_ble_eq_true rfl) dX1_becomeZero_5 ⟨by decide, by decide⟩ ?_
  exact hret _ _ _ dX1_becomeZero_8 (rfl)
theorem nd_X1_becomeZero : yX1_becomeZero.cls = RX1 ∧ yX1_becomeZero.cls ≠ "java/lang/invoke/MethodHandle" ∧ yX1_becomeZero.cls ≠ "java/lang/invoke/VarHandle" ∧ (parseMethodDescriptor yX1_becomeZero.desc).map (fun d => d.parameters.length) = some 0 := by decide +kernel
set_option maxHeartbeats 4000000 in
set_option maxRecDepth 100000 in
/-- Polynomial.becomeOne() -/
theorem k_X1_becomeOne (l : Launch) (G : va_G) (k : Nat → ClassId) (h0 h1 : Nat) (f : Nat → Int64) : ∀ sz, Met l yX1_becomeOne wsX1_becomeOne ({ frames := 2, cells := 0, slots := 0, locals := 44 }) (va_Pc [.ref h0] (KP G k [(h0, .inr (1, [.ref h1])), (h1, .inl (k 2, 7, .inr (.inl f)))] sz)) (va_Qv (fun (_ : Unit) => True) (KQ G [(h0, .inr (1, [.ref h1])), (h1, .inl (k 2, 7, .inr (.inl oneP)))] (va_A [(h0, .inr (1, [.ref h1])), (h1, .inl (k 2, 7, .inr (.inl f)))] sz)) (va_A [(h0, .inr (1, [.ref h1])), (h1, .inl (k 2, 7, .inr (.inl f)))] sz)) 0 0 (va_A [(h0, .inr (1, [.ref h1])), (h1, .inl (k 2, 7, .inr (.inl f)))] sz) := by
  refine met_v 0 0 (lv0 := [(0, .ref h0)]) (own := RX1) (by decide) rfl rfl (Nat.le_of_ble_eq_true rfl) rfl (fun Z g hret => ?_)
  have hX1 : ∀ w ∈ u_ws RX1 TX1 1, w ∈ wsX1_becomeOne := fun w h => List.mem_cons_of_mem _ (List.mem_append_right _ (h))
  refine z_aload_n g dX1_becomeOne_0 0 rfl ?_
  refine z_callVv (w' := [_, _]) (wr := []) g (k_X1_becomeZero l G k _ _ _) 0 gX1_becomeOne_X1_becomeZero rfl rfl rfl nd_X1_becomeZero ⟨by decide, by decide⟩ 0 rfl rfl [0, 1] [] [0, 1] rfl rfl rfl rfl (by decide) rfl rfl rfl rfl (Nat.le_of_ble_eq_true rfl) dX1_becomeOne_1 ⟨by decide, by decide⟩ ?_
  refine z_aload_n g dX1_becomeOne_4 0 rfl ?_
  refine z_get g hX1 0 rfl rfl 0 (by decide) (mi 1 rfl) rfl dX1_becomeOne_5 ?_
  refine z_ic0 g dX1_becomeOne_8 ?_
  refine z_lc1 g dX1_becomeOne_9 ?_
  refine z_last (w' := [_, _]) g 1 rfl 0 rfl (by decide) (by decide) dX1_becomeOne_10 rfl ?_
  refine z_eqL (w' := [_, _]) g oneP 1 rfl (fun i h => rfl) rfl ?_
  exact hret _ _ _ dX1_becomeOne_11 (rfl)
theorem nd_X1_becomeOne : yX1_becomeOne.cls = RX1 ∧ yX1_becomeOne.cls ≠ "java/lang/invoke/MethodHandle" ∧ yX1_becomeOne.cls ≠ "java/lang/invoke/VarHandle" ∧ (parseMethodDescriptor yX1_becomeOne.desc).map (fun d => d.parameters.length) = some 0 := by decide +kernel
set_option maxHeartbeats 4000000 in
set_option maxRecDepth 100000 in
/-- Polynomial.become(other) -/
theorem k_X1_become (l : Launch) (G : va_G) (k : Nat → ClassId) (h0 h1 : Nat) (f : Nat → Int64) (h2 h3 : Nat) (h : Nat → Int64) : ∀ sz, Met l yX1_become wsX1_become ({ frames := 1, cells := 0, slots := 0, locals := 40 }) (va_Pc [.ref h0, .ref h2] (KP G k [(h0, .inr (1, [.ref h1])), (h1, .inl (k 2, 7, .inr (.inl f))), (h2, .inr (1, [.ref h3])), (h3, .inl (k 2, 7, .inr (.inl h)))] sz)) (va_Qv (fun (_ : Unit) => True) (KQ G [(h0, .inr (1, [.ref h1])), (h1, .inl (k 2, 7, .inr (.inl h))), (h2, .inr (1, [.ref h3])), (h3, .inl (k 2, 7, .inr (.inl h)))] (va_A [(h0, .inr (1, [.ref h1])), (h1, .inl (k 2, 7, .inr (.inl f))), (h2, .inr (1, [.ref h3])), (h3, .inl (k 2, 7, .inr (.inl h)))] sz)) (va_A [(h0, .inr (1, [.ref h1])), (h1, .inl (k 2, 7, .inr (.inl f))), (h2, .inr (1, [.ref h3])), (h3, .inl (k 2, 7, .inr (.inl h)))] sz)) 0 0 (va_A [(h0, .inr (1, [.ref h1])), (h1, .inl (k 2, 7, .inr (.inl f))), (h2, .inr (1, [.ref h3])), (h3, .inl (k 2, 7, .inr (.inl h)))] sz) := by
  refine met_v 0 0 (lv0 := [(0, .ref h0), (1, .ref h2)]) (own := RX1) (by decide) rfl rfl (Nat.le_of_ble_eq_true rfl) rfl (fun Z g hret => ?_)
  have hX1 : ∀ w ∈ u_ws RX1 TX1 1, w ∈ wsX1_become := fun w h => List.mem_cons_of_mem _ (List.mem_append_right _ (h))
  refine z_aload_n g dX1_become_0 1 rfl ?_
  refine z_get g hX1 2 rfl rfl 0 (by decide) (mi 1 rfl) rfl dX1_become_1 ?_
  refine z_ic0 g dX1_become_4 ?_
  refine z_aload_n g dX1_become_5 0 rfl ?_
  refine z_get g hX1 0 rfl rfl 0 (by decide) (mi 1 rfl) rfl dX1_become_6 ?_
  refine z_ic0 g dX1_become_9 ?_
  refine z_bi g 7 dX1_become_10 (by decide) ?_
  refine z_copyl (w' := [_, _, _, _]) g (mi 2 rfl) (mi 3 rfl) (mi 4 rfl) (mi 5 rfl) 3 1 rfl rfl 7 rfl (by decide) (by decide) (by decide) (by decide) (by decide) dX1_become_12 rfl ?_
  refine z_eqL (w' := [_, _, _, _]) g h 1 rfl (fun i hi => by rw [pk_cpy_in (Nat.zero_le _) (by omega)]; simp) rfl ?_
  exact hret _ _ _ dX1_become_15 (rfl)
theorem nd_X1_become : yX1_become.cls = RX1 ∧ yX1_become.cls ≠ "java/lang/invoke/MethodHandle" ∧ yX1_become.cls ≠ "java/lang/invoke/VarHandle" ∧ (parseMethodDescriptor yX1_become.desc).map (fun d => d.parameters.length) = some 1 := by decide +kernel
set_option maxHeartbeats 4000000 in
set_option maxRecDepth 100000 in
/-- Polynomial.get(power) -/
theorem k_X1_get (l : Launch) (G : va_G) (k : Nat → ClassId) (h0 h1 : Nat) (f : Nat → Int64) (p0 : Int32) : ∀ sz, Met l yX1_get wsX1_get ({ frames := 0, cells := 0, slots := 0, locals := 0 }) (va_Pc [.ref h0, .int p0] (KP G k [(h0, .inr (1, [.ref h1])), (h1, .inl (k 2, 7, .inr (.inl f)))] sz)) (va_Ql (fun r (_ : Unit) => r = getP f p0) (KQ G [(h0, .inr (1, [.ref h1])), (h1, .inl (k 2, 7, .inr (.inl f)))] (va_A [(h0, .inr (1, [.ref h1])), (h1, .inl (k 2, 7, .inr (.inl f)))] sz)) (va_A [(h0, .inr (1, [.ref h1])), (h1, .inl (k 2, 7, .inr (.inl f)))] sz)) 0 0 (va_A [(h0, .inr (1, [.ref h1])), (h1, .inl (k 2, 7, .inr (.inl f)))] sz) := by
  refine met_l 0 0 (lv0 := [(0, .ref h0), (1, .int p0)]) (own := RX1) (by decide) rfl rfl (Nat.le_of_ble_eq_true rfl) rfl (fun Z g hret => ?_)
  have hX1 : ∀ w ∈ u_ws RX1 TX1 1, w ∈ wsX1_get := fun w h => List.mem_cons_of_mem _ (List.mem_append_right _ (h))
  refine z_iload_n g dX1_get_0 1 rfl ?_
  refine z_if_lt g (tgt := 19) dX1_get_1 (by decide) (fun b1 => ?_) (fun b1 => ?_)
  · refine z_lc0 g dX1_get_19 ?_
    exact hret _ _ _ _ dX1_get_20 ((by simp only [getP, if_pos b1, reduceIte, Bool.false_eq_true] <;> rfl)) (rfl)
  · refine z_iload_n g dX1_get_4 1 rfl ?_
    refine z_bi g 6 dX1_get_5 (by decide) ?_
    refine z_ic_gt g (tgt := 19) dX1_get_7 (by decide) (fun b7 => ?_) (fun b7 => ?_)
    · refine z_lc0 g dX1_get_19 ?_
      exact hret _ _ _ _ dX1_get_20 ((by simp only [getP, if_neg b1, if_pos b7, reduceIte, Bool.false_eq_true] <;> rfl)) (rfl)
    · refine z_aload_n g dX1_get_10 0 rfl ?_
      refine z_get g hX1 0 rfl rfl 0 (by decide) (mi 1 rfl) rfl dX1_get_11 ?_
      refine z_iload_n g dX1_get_14 1 rfl ?_
      refine z_lald g 1 rfl p0.toNatClampNeg (ix6 b1 b7).1 (ix6 b1 b7).2 (by decide) dX1_get_15 ?_
      refine z_goto g 20 dX1_get_16 (by decide) ?_
      exact hret _ _ _ _ dX1_get_20 ((by simp only [getP, if_neg b1, if_neg b7, reduceIte, Bool.false_eq_true] <;> rfl)) (rfl)
theorem nd_X1_get : yX1_get.cls = RX1 ∧ yX1_get.cls ≠ "java/lang/invoke/MethodHandle" ∧ yX1_get.cls ≠ "java/lang/invoke/VarHandle" ∧ (parseMethodDescriptor yX1_get.desc).map (fun d => d.parameters.length) = some 1 := by decide +kernel
set_option maxHeartbeats 4000000 in
set_option maxRecDepth 100000 in
/-- Polynomial.add(amount, power) -/
theorem k_X1_add (l : Launch) (G : va_G) (k : Nat → ClassId) (h0 h1 : Nat) (f : Nat → Int64) (p0 : Int64) (p1 : Int32) : ∀ sz, Met l yX1_add wsX1_add ({ frames := 0, cells := 0, slots := 0, locals := 0 }) (va_Pc [.ref h0, .long p0, .int p1] (KP G k [(h0, .inr (1, [.ref h1])), (h1, .inl (k 2, 7, .inr (.inl f)))] sz)) (va_Qv (fun (_ : Unit) => True) (KQ G [(h0, .inr (1, [.ref h1])), (h1, .inl (k 2, 7, .inr (.inl (addP f p0 p1))))] (va_A [(h0, .inr (1, [.ref h1])), (h1, .inl (k 2, 7, .inr (.inl f)))] sz)) (va_A [(h0, .inr (1, [.ref h1])), (h1, .inl (k 2, 7, .inr (.inl f)))] sz)) 0 0 (va_A [(h0, .inr (1, [.ref h1])), (h1, .inl (k 2, 7, .inr (.inl f)))] sz) := by
  refine met_v 0 0 (lv0 := [(0, .ref h0), (1, .long p0), (3, .int p1)]) (own := RX1) (by decide) rfl rfl (Nat.le_of_ble_eq_true rfl) rfl (fun Z g hret => ?_)
  have hX1 : ∀ w ∈ u_ws RX1 TX1 1, w ∈ wsX1_add := fun w h => List.mem_cons_of_mem _ (List.mem_append_right _ (h))
  refine z_iload_n g dX1_add_0 2 rfl ?_
  refine z_if_lt g (tgt := 20) dX1_add_1 (by decide) (fun b1 => ?_) (fun b1 => ?_)
  · exact hret _ _ _ dX1_add_20 ((by simp only [addP, if_pos b1, reduceIte, Bool.false_eq_true] <;> rfl))
  · refine z_iload_n g dX1_add_4 2 rfl ?_
    refine z_bi g 6 dX1_add_5 (by decide) ?_
    refine z_ic_gt g (tgt := 20) dX1_add_7 (by decide) (fun b7 => ?_) (fun b7 => ?_)
    · exact hret _ _ _ dX1_add_20 ((by simp only [addP, if_neg b1, if_pos b7, reduceIte, Bool.false_eq_true] <;> rfl))
    · refine z_aload_n g dX1_add_10 0 rfl ?_
      refine z_get g hX1 0 rfl rfl 0 (by decide) (mi 1 rfl) rfl dX1_add_11 ?_
      refine z_iload_n g dX1_add_14 2 rfl ?_
      refine z_dup2 g dX1_add_15 rfl rfl ?_
      refine z_lald g 1 rfl p1.toNatClampNeg (ix6 b1 b7).1 (ix6 b1 b7).2 (by decide) dX1_add_16 ?_
      refine z_lload_n g dX1_add_17 1 rfl ?_
      refine z_ladd g dX1_add_18 ?_
      refine z_last (w' := [_, _]) g 1 rfl p1.toNatClampNeg (ix6 b1 b7).1 (ix6 b1 b7).2 (by decide) dX1_add_19 rfl ?_
      exact hret _ _ _ dX1_add_20 ((by simp only [addP, if_neg b1, if_neg b7, reduceIte, Bool.false_eq_true] <;> rfl))
theorem nd_X1_add : yX1_add.cls = RX1 ∧ yX1_add.cls ≠ "java/lang/invoke/MethodHandle" ∧ yX1_add.cls ≠ "java/lang/invoke/VarHandle" ∧ (parseMethodDescriptor yX1_add.desc).map (fun d => d.parameters.length) = some 2 := by decide +kernel
set_option maxHeartbeats 4000000 in
set_option maxRecDepth 100000 in
/-- Polynomial.degree() -/
theorem k_X1_degree (l : Launch) (G : va_G) (k : Nat → ClassId) (h0 h1 : Nat) (f : Nat → Int64) : ∀ sz, Met l yX1_degree wsX1_degree ({ frames := 0, cells := 0, slots := 0, locals := 0 }) (va_Pc [.ref h0] (KP G k [(h0, .inr (1, [.ref h1])), (h1, .inl (k 2, 7, .inr (.inl f)))] sz)) (va_Qi (fun r (_ : Unit) => r = nI (degP f 6)) (KQ G [(h0, .inr (1, [.ref h1])), (h1, .inl (k 2, 7, .inr (.inl f)))] (va_A [(h0, .inr (1, [.ref h1])), (h1, .inl (k 2, 7, .inr (.inl f)))] sz)) (va_A [(h0, .inr (1, [.ref h1])), (h1, .inl (k 2, 7, .inr (.inl f)))] sz)) 0 0 (va_A [(h0, .inr (1, [.ref h1])), (h1, .inl (k 2, 7, .inr (.inl f)))] sz) := by
  refine met_i 0 0 (lv0 := [(0, .ref h0)]) (own := RX1) (by decide) rfl rfl (Nat.le_of_ble_eq_true rfl) rfl (fun Z g hret => ?_)
  have hX1 : ∀ w ∈ u_ws RX1 TX1 1, w ∈ wsX1_degree := fun w h => List.mem_cons_of_mem _ (List.mem_append_right _ (h))
  refine z_bi g 6 dX1_degree_0 (by decide) ?_
  refine z_istore_n (lv' := [(1, .int _), (0, .ref _)]) g dX1_degree_2 (by decide) rfl ?_
  have cut_3 : ∀ (N : Nat) (j : Nat), j < N → (j ≤ 6) → (degP f j = degP f 6) → Z 0 0 [(h0, .inr (1, [.ref h1])), (h1, .inl (k 2, 7, .inr (.inl f)))] [(0, .ref h0), (1, .int (nI j))] 3 [] := by
    intro N
    induction N with
    | zero => intro j hm; exact absurd hm (Nat.not_lt_zero _)
    | succ N ih3 =>
      intro j hm hj hI
      refine z_iload_n g dX1_degree_3 1 rfl ?_
      refine z_if_le g (tgt := 24) dX1_degree_4 (by decide) (fun b4 => ?_) (fun b4 => ?_)
      · refine z_iload_n g dX1_degree_24 1 rfl ?_
        exact hret _ _ _ _ dX1_degree_25 ((by first | (rw [← hI]; simp [degP, *]; done) | (rcases j with _ | j; (rw [← hI]; rfl); exact absurd b4 (nI_nle (by omega) (by omega))))) (rfl)
      · obtain ⟨j, rfl⟩ : ∃ i, j = i + 1 := ⟨j - 1, by rcases j with _ | j; exact absurd (by decide) b4; rfl⟩
        refine z_aload_n g dX1_degree_7 0 rfl ?_
        refine z_get g hX1 0 rfl rfl 0 (by decide) (mi 1 rfl) rfl dX1_degree_8 ?_
        refine z_iload_n g dX1_degree_11 1 rfl ?_
        refine z_lald g 1 rfl (j + 1) rfl (by omega) (by decide) dX1_degree_12 ?_
        refine z_lc0 g dX1_degree_13 ?_
        refine z_lc_ne g (tgt := 24) dX1_degree_14 dX1_degree_15 (by decide) (fun b14 => ?_) (fun b14 => ?_)
        · refine z_iload_n g dX1_degree_24 1 rfl ?_
          exact hret _ _ _ _ dX1_degree_25 ((by first | (rw [← hI]; simp [degP, *]; done) | (rcases j with _ | j; (rw [← hI]; rfl); exact absurd b4 (nI_nle (by omega) (by omega))))) (rfl)
        · refine z_dec (lv' := [(1, .int _), (0, .ref _)]) g dX1_degree_18 1 rfl (by decide) rfl ?_
          refine z_goto g 3 dX1_degree_21 (by decide) ?_
          refine z_locs (lv' := [(0, .ref _), (1, .int _)]) g [1, 0] rfl ?_
          exact ih3 _ (by omega) (by omega) (by rw [← hI]; simp [degP, *])
  refine z_locs (lv' := [(0, .ref _), (1, .int _)]) g [1, 0] rfl ?_
  exact cut_3 _ 6 (Nat.lt_succ_self _) (by decide) rfl
theorem nd_X1_degree : yX1_degree.cls = RX1 ∧ yX1_degree.cls ≠ "java/lang/invoke/MethodHandle" ∧ yX1_degree.cls ≠ "java/lang/invoke/VarHandle" ∧ (parseMethodDescriptor yX1_degree.desc).map (fun d => d.parameters.length) = some 0 := by decide +kernel
set_option maxHeartbeats 4000000 in
set_option maxRecDepth 100000 in
/-- Polynomial.multiplyByFactorOf(root) -/
theorem k_X1_multiplyByFactorOf (l : Launch) (G : va_G) (k : Nat → ClassId) (h0 h1 : Nat) (f : Nat → Int64) (p0 : Int32) : ∀ sz, Met l yX1_multiplyByFactorOf wsX1_multiplyByFactorOf ({ frames := 0, cells := 0, slots := 0, locals := 0 }) (va_Pc [.ref h0, .int p0] (KP G k [(h0, .inr (1, [.ref h1])), (h1, .inl (k 2, 7, .inr (.inl f)))] sz)) (va_Qv (fun (_ : Unit) => True) (KQ G [(h0, .inr (1, [.ref h1])), (h1, .inl (k 2, 7, .inr (.inl (mulP f p0))))] (va_A [(h0, .inr (1, [.ref h1])), (h1, .inl (k 2, 7, .inr (.inl f)))] sz)) (va_A [(h0, .inr (1, [.ref h1])), (h1, .inl (k 2, 7, .inr (.inl f)))] sz)) 0 0 (va_A [(h0, .inr (1, [.ref h1])), (h1, .inl (k 2, 7, .inr (.inl f)))] sz) := by
  refine met_v 0 0 (lv0 := [(0, .ref h0), (1, .int p0)]) (own := RX1) (by decide) rfl rfl (Nat.le_of_ble_eq_true rfl) rfl (fun Z g hret => ?_)
  have hX1 : ∀ w ∈ u_ws RX1 TX1 1, w ∈ wsX1_multiplyByFactorOf := fun w h => List.mem_cons_of_mem _ (List.mem_append_right _ (h))
  refine z_bi g 6 dX1_multiplyByFactorOf_0 (by decide) ?_
  refine z_istore_n (lv' := [(2, .int _), (0, .ref _), (1, .int _)]) g dX1_multiplyByFactorOf_2 (by decide) rfl ?_
  have cut_3 : ∀ (N : Nat) (j : Nat) (f' : Nat → Int64), j < N → (j ≤ 6) → (∀ i, i < 7 → f' i = if j < i then f (i - 1) - p0.toInt64 * f i else f i) → Z 0 0 [(h0, .inr (1, [.ref h1])), (h1, .inl (k 2, 7, .inr (.inl f')))] [(0, .ref h0), (1, .int p0), (2, .int (nI j))] 3 [] := by
    intro N
    induction N with
    | zero => intro j f' hm; exact absurd hm (Nat.not_lt_zero _)
    | succ N ih3 =>
      intro j f' hm hj hI
      refine z_iload_n g dX1_multiplyByFactorOf_3 2 rfl ?_
      refine z_if_le g (tgt := 37) dX1_multiplyByFactorOf_4 (by decide) (fun b4 => ?_) (fun b4 => ?_)
      · obtain rfl : j = 0 := by rcases j with _ | j; rfl; exact absurd b4 (nI_nle (by omega) (by omega))
        refine z_aload_n g dX1_multiplyByFactorOf_37 0 rfl ?_
        refine z_get g hX1 0 rfl rfl 0 (by decide) (mi 1 rfl) rfl dX1_multiplyByFactorOf_38 ?_
        refine z_ic0 g dX1_multiplyByFactorOf_41 ?_
        refine z_iload_n g dX1_multiplyByFactorOf_42 1 rfl ?_
        refine z_ineg g dX1_multiplyByFactorOf_43 ?_
        refine z_i2l g dX1_multiplyByFactorOf_44 ?_
        refine z_aload_n g dX1_multiplyByFactorOf_45 0 rfl ?_
        refine z_get g hX1 0 rfl rfl 0 (by decide) (mi 1 rfl) rfl dX1_multiplyByFactorOf_46 ?_
        refine z_ic0 g dX1_multiplyByFactorOf_49 ?_
        refine z_lald g 1 rfl 0 rfl (by decide) (by decide) dX1_multiplyByFactorOf_50 ?_
        refine z_lmul g dX1_multiplyByFactorOf_51 ?_
        refine z_last (w' := [_, _]) g 1 rfl 0 rfl (by decide) (by decide) dX1_multiplyByFactorOf_52 rfl ?_
        refine z_eqL (w' := [_, _]) g (mulP f p0) 1 rfl (fun i h => by unfold vp_updL mulP; split; (next e => subst e; rw [hI 0 (by omega), if_neg (by omega)]); (next e => rw [hI i h, if_pos (by omega)])) rfl ?_
        exact hret _ _ _ dX1_multiplyByFactorOf_53 (rfl)
      · obtain ⟨j, rfl⟩ : ∃ i, j = i + 1 := ⟨j - 1, by rcases j with _ | j; exact absurd (by decide) b4; rfl⟩
        refine z_aload_n g dX1_multiplyByFactorOf_7 0 rfl ?_
        refine z_get g hX1 0 rfl rfl 0 (by decide) (mi 1 rfl) rfl dX1_multiplyByFactorOf_8 ?_
        refine z_iload_n g dX1_multiplyByFactorOf_11 2 rfl ?_
        refine z_aload_n g dX1_multiplyByFactorOf_12 0 rfl ?_
        refine z_get g hX1 0 rfl rfl 0 (by decide) (mi 1 rfl) rfl dX1_multiplyByFactorOf_13 ?_
        refine z_iload_n g dX1_multiplyByFactorOf_16 2 rfl ?_
        refine z_ic1 g dX1_multiplyByFactorOf_17 ?_
        refine z_isub g dX1_multiplyByFactorOf_18 ?_
        refine z_lald g 1 rfl j (nI_pred j) (by omega) (by decide) dX1_multiplyByFactorOf_19 ?_
        refine z_iload_n g dX1_multiplyByFactorOf_20 1 rfl ?_
        refine z_i2l g dX1_multiplyByFactorOf_21 ?_
        refine z_aload_n g dX1_multiplyByFactorOf_22 0 rfl ?_
        refine z_get g hX1 0 rfl rfl 0 (by decide) (mi 1 rfl) rfl dX1_multiplyByFactorOf_23 ?_
        refine z_iload_n g dX1_multiplyByFactorOf_26 2 rfl ?_
        refine z_lald g 1 rfl (j + 1) rfl (by omega) (by decide) dX1_multiplyByFactorOf_27 ?_
        refine z_lmul g dX1_multiplyByFactorOf_28 ?_
        refine z_lsub g dX1_multiplyByFactorOf_29 ?_
        refine z_last (w' := [_, _]) g 1 rfl (j + 1) rfl (by omega) (by decide) dX1_multiplyByFactorOf_30 rfl ?_
        refine z_dec (lv' := [(2, .int _), (0, .ref _), (1, .int _)]) g dX1_multiplyByFactorOf_31 2 rfl (by decide) rfl ?_
        refine z_goto g 3 dX1_multiplyByFactorOf_34 (by decide) ?_
        refine z_locs (lv' := [(0, .ref _), (1, .int _), (2, .int _)]) g [1, 2, 0] rfl ?_
        exact ih3 _ _ (by omega) (by omega) (fun i h => by unfold vp_updL; split; (next e => subst e; rw [hI j (by omega), hI (j + 1) h, if_neg (by omega), if_neg (by omega), if_pos (by omega)]; rfl); (next e => rw [hI i h]; by_cases e2 : j + 1 < i; (rw [if_pos e2, if_pos (by omega)]); (rw [if_neg e2, if_neg (by omega)])))
  refine z_locs (lv' := [(0, .ref _), (1, .int _), (2, .int _)]) g [1, 2, 0] rfl ?_
  exact cut_3 _ 6 f (Nat.lt_succ_self _) (by decide) (fun i h => by rw [if_neg (by omega)])
theorem nd_X1_multiplyByFactorOf : yX1_multiplyByFactorOf.cls = RX1 ∧ yX1_multiplyByFactorOf.cls ≠ "java/lang/invoke/MethodHandle" ∧ yX1_multiplyByFactorOf.cls ≠ "java/lang/invoke/VarHandle" ∧ (parseMethodDescriptor yX1_multiplyByFactorOf.desc).map (fun d => d.parameters.length) = some 1 := by decide +kernel
set_option maxHeartbeats 4000000 in
set_option maxRecDepth 100000 in
/-- Polynomial.divideByFactorOf(root) -/
theorem k_X1_divideByFactorOf (l : Launch) (G : va_G) (k : Nat → ClassId) (h0 h1 : Nat) (f : Nat → Int64) (p0 : Int32) : ∀ sz, Met l yX1_divideByFactorOf wsX1_divideByFactorOf ({ frames := 0, cells := 0, slots := 0, locals := 0 }) (va_Pc [.ref h0, .int p0] (KP G k [(h0, .inr (1, [.ref h1])), (h1, .inl (k 2, 7, .inr (.inl f)))] sz)) (va_Ql (fun r (_ : Unit) => r = hrn f p0.toInt64 7) (KQ G [(h0, .inr (1, [.ref h1])), (h1, .inl (k 2, 7, .inr (.inl (dvP f p0))))] (va_A [(h0, .inr (1, [.ref h1])), (h1, .inl (k 2, 7, .inr (.inl f)))] sz)) (va_A [(h0, .inr (1, [.ref h1])), (h1, .inl (k 2, 7, .inr (.inl f)))] sz)) 0 0 (va_A [(h0, .inr (1, [.ref h1])), (h1, .inl (k 2, 7, .inr (.inl f)))] sz) := by
  refine met_l 0 0 (lv0 := [(0, .ref h0), (1, .int p0)]) (own := RX1) (by decide) rfl rfl (Nat.le_of_ble_eq_true rfl) rfl (fun Z g hret => ?_)
  have hX1 : ∀ w ∈ u_ws RX1 TX1 1, w ∈ wsX1_divideByFactorOf := fun w h => List.mem_cons_of_mem _ (List.mem_append_right _ (h))
  refine z_lc0 g dX1_divideByFactorOf_0 ?_
  refine z_lstore_n (lv' := [(2, .long _), (0, .ref _), (1, .int _)]) g dX1_divideByFactorOf_1 (by decide) rfl ?_
  refine z_bi g 6 dX1_divideByFactorOf_2 (by decide) ?_
  refine z_istore (lv' := [(4, .int _), (2, .long _), (0, .ref _), (1, .int _)]) g dX1_divideByFactorOf_4 (by decide) rfl ?_
  have cut_6 : ∀ (N : Nat) (j : Nat) (c : Int64) (f' : Nat → Int64), j < N → (j ≤ 7) → (c = hrn f p0.toInt64 (7 - j)) → (∀ i, i < 7 → f' i = if j ≤ i then hrn f p0.toInt64 (6 - i) else f i) → Z 0 0 [(h0, .inr (1, [.ref h1])), (h1, .inl (k 2, 7, .inr (.inl f')))] [(0, .ref h0), (1, .int p0), (2, .long c), (4, .int (nI j - 1))] 6 [] := by
    intro N
    induction N with
    | zero => intro j c f' hm; exact absurd hm (Nat.not_lt_zero _)
    | succ N ih6 =>
      intro j c f' hm hj hc hI
      refine z_iload g dX1_divideByFactorOf_6 3 rfl ?_
      refine z_if_lt g (tgt := 42) dX1_divideByFactorOf_8 (by decide) (fun b8 => ?_) (fun b8 => ?_)
      · obtain rfl := nIm_neg b8 (by omega)
        refine z_lload_n g dX1_divideByFactorOf_42 2 rfl ?_
        refine z_eqL (w' := [_, _]) g (dvP f p0) 1 rfl (fun i h => by rw [hI i h, if_pos (by omega)]; rfl) rfl ?_
        exact hret _ _ _ _ dX1_divideByFactorOf_43 (hc) (rfl)
      · obtain ⟨j, rfl⟩ := nIm_pos b8
        refine z_aload_n g dX1_divideByFactorOf_11 0 rfl ?_
        refine z_get g hX1 0 rfl rfl 0 (by decide) (mi 1 rfl) rfl dX1_divideByFactorOf_12 ?_
        refine z_iload g dX1_divideByFactorOf_15 3 rfl ?_
        refine z_lald g 1 rfl j (nI_pred j) (by omega) (by decide) dX1_divideByFactorOf_17 ?_
        refine z_iload_n g dX1_divideByFactorOf_18 1 rfl ?_
        refine z_i2l g dX1_divideByFactorOf_19 ?_
        refine z_lload_n g dX1_divideByFactorOf_20 2 rfl ?_
        refine z_lmul g dX1_divideByFactorOf_21 ?_
        refine z_ladd g dX1_divideByFactorOf_22 ?_
        refine z_lstore (lv' := [(5, .long _), (0, .ref _), (1, .int _), (2, .long _), (4, .int _)]) g dX1_divideByFactorOf_23 (by decide) rfl ?_
        refine z_aload_n g dX1_divideByFactorOf_25 1 rfl ?_
        refine z_get g hX1 0 rfl rfl 0 (by decide) (mi 1 rfl) rfl dX1_divideByFactorOf_26 ?_
        refine z_iload g dX1_divideByFactorOf_29 4 rfl ?_
        refine z_lload_n g dX1_divideByFactorOf_31 3 rfl ?_
        refine z_last (w' := [_, _]) g 1 rfl j (nI_pred j) (by omega) (by decide) dX1_divideByFactorOf_32 rfl ?_
        refine z_lload g dX1_divideByFactorOf_33 0 rfl ?_
        refine z_lstore_n (lv' := [(2, .long _), (5, .long _), (0, .ref _), (1, .int _), (4, .int _)]) g dX1_divideByFactorOf_35 (by decide) rfl ?_
        refine z_iinc (lv' := [(4, .int _), (2, .long _), (5, .long _), (0, .ref _), (1, .int _)]) g (nI j - 1) dX1_divideByFactorOf_36 4 rfl (nIm_dec j) (by decide) rfl ?_
        refine z_goto g 6 dX1_divideByFactorOf_39 (by decide) ?_
        refine z_locs (lv' := [(0, .ref _), (1, .int _), (2, .long _), (4, .int _)]) g [3, 4, 1, 0] rfl ?_
        exact ih6 _ _ _ (by omega) (by omega) (by rw [show 7 - j = (7 - (j + 1)) + 1 by omega]; show _ = f (6 - (7 - (j + 1))) + _ * hrn f _ (7 - (j + 1)); rw [← hc, hI j (by omega), if_neg (by omega), show 6 - (7 - (j + 1)) = j by omega]) (fun i h => by unfold vp_updL; split; (next e => subst e; rw [if_pos (by omega), hc, show 7 - (i + 1) = 6 - i by omega]); (next e => rw [hI i h]; by_cases e2 : j + 1 ≤ i; (rw [if_pos e2, if_pos (by omega)]); (rw [if_neg e2, if_neg (by omega)])))
  refine z_locs (lv' := [(0, .ref _), (1, .int _), (2, .long _), (4, .int _)]) g [2, 3, 1, 0] rfl ?_
  exact cut_6 _ 7 0 f (Nat.lt_succ_self _) (by decide) rfl (fun i h => by rw [if_neg (by omega)])
theorem nd_X1_divideByFactorOf : yX1_divideByFactorOf.cls = RX1 ∧ yX1_divideByFactorOf.cls ≠ "java/lang/invoke/MethodHandle" ∧ yX1_divideByFactorOf.cls ≠ "java/lang/invoke/VarHandle" ∧ (parseMethodDescriptor yX1_divideByFactorOf.desc).map (fun d => d.parameters.length) = some 1 := by decide +kernel
set_option maxHeartbeats 4000000 in
set_option maxRecDepth 100000 in
/-- Polynomial.mix(own, others, other) -/
theorem k_X1_mix (l : Launch) (G : va_G) (k : Nat → ClassId) (h0 h1 : Nat) (f : Nat → Int64) (p0 p1 : Int64) (h2 h3 : Nat) (h : Nat → Int64) : ∀ sz, Met l yX1_mix wsX1_mix ({ frames := 0, cells := 0, slots := 0, locals := 0 }) (va_Pc [.ref h0, .long p0, .long p1, .ref h2] (KP G k [(h0, .inr (1, [.ref h1])), (h1, .inl (k 2, 7, .inr (.inl f))), (h2, .inr (1, [.ref h3])), (h3, .inl (k 2, 7, .inr (.inl h)))] sz)) (va_Qv (fun (_ : Unit) => True) (KQ G [(h0, .inr (1, [.ref h1])), (h1, .inl (k 2, 7, .inr (.inl (mixP p0 p1 f h)))), (h2, .inr (1, [.ref h3])), (h3, .inl (k 2, 7, .inr (.inl h)))] (va_A [(h0, .inr (1, [.ref h1])), (h1, .inl (k 2, 7, .inr (.inl f))), (h2, .inr (1, [.ref h3])), (h3, .inl (k 2, 7, .inr (.inl h)))] sz)) (va_A [(h0, .inr (1, [.ref h1])), (h1, .inl (k 2, 7, .inr (.inl f))), (h2, .inr (1, [.ref h3])), (h3, .inl (k 2, 7, .inr (.inl h)))] sz)) 0 0 (va_A [(h0, .inr (1, [.ref h1])), (h1, .inl (k 2, 7, .inr (.inl f))), (h2, .inr (1, [.ref h3])), (h3, .inl (k 2, 7, .inr (.inl h)))] sz) := by
  refine met_v 0 0 (lv0 := [(0, .ref h0), (1, .long p0), (3, .long p1), (5, .ref h2)]) (own := RX1) (by decide) rfl rfl (Nat.le_of_ble_eq_true rfl) rfl (fun Z g hret => ?_)
  have hX1 : ∀ w ∈ u_ws RX1 TX1 1, w ∈ wsX1_mix := fun w h => List.mem_cons_of_mem _ (List.mem_append_right _ (h))
  refine z_ic0 g dX1_mix_0 ?_
  refine z_istore (lv' := [(6, .int _), (0, .ref _), (1, .long _), (3, .long _), (5, .ref _)]) g dX1_mix_1 (by decide) rfl ?_
  have cut_3 : ∀ (N : Nat) (j : Nat) (f' : Nat → Int64), 7 - j < N → (j ≤ 7) → (∀ i, i < 7 → f' i = if i < j then p0 * f i + p1 * h i else f i) → Z 0 0 [(h0, .inr (1, [.ref h1])), (h1, .inl (k 2, 7, .inr (.inl f'))), (h2, .inr (1, [.ref h3])), (h3, .inl (k 2, 7, .inr (.inl h)))] [(0, .ref h0), (1, .long p0), (3, .long p1), (5, .ref h2), (6, .int (nI j))] 3 [] := by
    intro N
    induction N with
    | zero => intro j f' hm; exact absurd hm (Nat.not_lt_zero _)
    | succ N ih3 =>
      intro j f' hm hj hI
      refine z_iload g dX1_mix_3 4 rfl ?_
      refine z_bi g 6 dX1_mix_5 (by decide) ?_
      refine z_n_gt g (a := j) (b := 6) (tgt := 43) (by omega) (by omega) dX1_mix_7 (by decide) (fun b7 => ?_) (fun b7 => ?_)
      · refine z_eqL (w' := [_, _, _, _]) g (mixP p0 p1 f h) 1 rfl (fun i h9 => by rw [hI i h9, if_pos (by omega)]; rfl) rfl ?_
        exact hret _ _ _ dX1_mix_43 (rfl)
      · refine z_aload_n g dX1_mix_10 0 rfl ?_
        refine z_get g hX1 0 rfl rfl 0 (by decide) (mi 1 rfl) rfl dX1_mix_11 ?_
        refine z_iload g dX1_mix_14 4 rfl ?_
        refine z_lload_n g dX1_mix_16 1 rfl ?_
        refine z_aload_n g dX1_mix_17 0 rfl ?_
        refine z_get g hX1 0 rfl rfl 0 (by decide) (mi 1 rfl) rfl dX1_mix_18 ?_
        refine z_iload g dX1_mix_21 4 rfl ?_
        refine z_lald g 1 rfl j rfl (by omega) (by decide) dX1_mix_23 ?_
        refine z_lmul g dX1_mix_24 ?_
        refine z_lload_n g dX1_mix_25 2 rfl ?_
        refine z_aload g dX1_mix_26 3 rfl ?_
        refine z_get g hX1 2 rfl rfl 0 (by decide) (mi 1 rfl) rfl dX1_mix_28 ?_
        refine z_iload g dX1_mix_31 4 rfl ?_
        refine z_lald g 3 rfl j rfl (by omega) (by decide) dX1_mix_33 ?_
        refine z_lmul g dX1_mix_34 ?_
        refine z_ladd g dX1_mix_35 ?_
        refine z_last (w' := [_, _, _, _]) g 1 rfl j rfl (by omega) (by decide) dX1_mix_36 rfl ?_
        refine z_inc (lv' := [(6, .int _), (0, .ref _), (1, .long _), (3, .long _), (5, .ref _)]) g dX1_mix_37 4 rfl (by decide) rfl ?_
        refine z_goto g 3 dX1_mix_40 (by decide) ?_
        refine z_locs (lv' := [(0, .ref _), (1, .long _), (3, .long _), (5, .ref _), (6, .int _)]) g [1, 2, 3, 4, 0] rfl ?_
        exact ih3 _ _ (by omega) (by omega) (fun i h9 => by unfold vp_updL; split; (next e => subst e; rw [hI i h9, if_neg (by omega), if_pos (by omega)]); (next e => rw [hI i h9]; by_cases e2 : i < j; (rw [if_pos e2, if_pos (by omega)]); (rw [if_neg e2, if_neg (by omega)])))
  refine z_locs (lv' := [(0, .ref _), (1, .long _), (3, .long _), (5, .ref _), (6, .int _)]) g [1, 2, 3, 4, 0] rfl ?_
  exact cut_3 _ 0 f (Nat.lt_succ_self _) (by decide) (fun i h => by rw [if_neg (by omega)])
theorem nd_X1_mix : yX1_mix.cls = RX1 ∧ yX1_mix.cls ≠ "java/lang/invoke/MethodHandle" ∧ yX1_mix.cls ≠ "java/lang/invoke/VarHandle" ∧ (parseMethodDescriptor yX1_mix.desc).map (fun d => d.parameters.length) = some 3 := by decide +kernel
set_option maxHeartbeats 4000000 in
set_option maxRecDepth 100000 in
/-- Polynomial.exactlyAt(t) -/
theorem k_X1_exactlyAt (l : Launch) (G : va_G) (k : Nat → ClassId) (h0 h1 : Nat) (f : Nat → Int64) (p0 : Int32) : ∀ sz, Met l yX1_exactlyAt wsX1_exactlyAt ({ frames := 0, cells := 0, slots := 0, locals := 0 }) (va_Pc [.ref h0, .int p0] (KP G k [(h0, .inr (1, [.ref h1])), (h1, .inl (k 2, 7, .inr (.inl f)))] sz)) (va_Ql (fun r (_ : Unit) => r = hxP f p0.toInt64 6 7) (KQ G [(h0, .inr (1, [.ref h1])), (h1, .inl (k 2, 7, .inr (.inl f)))] (va_A [(h0, .inr (1, [.ref h1])), (h1, .inl (k 2, 7, .inr (.inl f)))] sz)) (va_A [(h0, .inr (1, [.ref h1])), (h1, .inl (k 2, 7, .inr (.inl f)))] sz)) 0 0 (va_A [(h0, .inr (1, [.ref h1])), (h1, .inl (k 2, 7, .inr (.inl f)))] sz) := by
  refine met_l 0 0 (lv0 := [(0, .ref h0), (1, .int p0)]) (own := RX1) (by decide) rfl rfl (Nat.le_of_ble_eq_true rfl) rfl (fun Z g hret => ?_)
  have hX1 : ∀ w ∈ u_ws RX1 TX1 1, w ∈ wsX1_exactlyAt := fun w h => List.mem_cons_of_mem _ (List.mem_append_right _ (h))
  refine z_lc0 g dX1_exactlyAt_0 ?_
  refine z_lstore_n (lv' := [(2, .long _), (0, .ref _), (1, .int _)]) g dX1_exactlyAt_1 (by decide) rfl ?_
  refine z_bi g 6 dX1_exactlyAt_2 (by decide) ?_
  refine z_istore (lv' := [(4, .int _), (2, .long _), (0, .ref _), (1, .int _)]) g dX1_exactlyAt_4 (by decide) rfl ?_
  have cut_6 : ∀ (N : Nat) (j : Nat) (c : Int64), j < N → (j ≤ 7) → (c = hxP f p0.toInt64 6 (7 - j)) → Z 0 0 [(h0, .inr (1, [.ref h1])), (h1, .inl (k 2, 7, .inr (.inl f)))] [(0, .ref h0), (1, .int p0), (2, .long c), (4, .int (nI j - 1))] 6 [] := by
    intro N
    induction N with
    | zero => intro j c hm; exact absurd hm (Nat.not_lt_zero _)
    | succ N ih6 =>
      intro j c hm hj hc
      refine z_iload g dX1_exactlyAt_6 3 rfl ?_
      refine z_if_lt g (tgt := 30) dX1_exactlyAt_8 (by decide) (fun b8 => ?_) (fun b8 => ?_)
      · obtain rfl := nIm_neg b8 (by omega)
        refine z_lload_n g dX1_exactlyAt_30 2 rfl ?_
        exact hret _ _ _ _ dX1_exactlyAt_31 (hc) (rfl)
      · obtain ⟨j, rfl⟩ := nIm_pos b8
        refine z_lload_n g dX1_exactlyAt_11 2 rfl ?_
        refine z_iload_n g dX1_exactlyAt_12 1 rfl ?_
        refine z_i2l g dX1_exactlyAt_13 ?_
        refine z_lmul g dX1_exactlyAt_14 ?_
        refine z_aload_n g dX1_exactlyAt_15 0 rfl ?_
        refine z_get g hX1 0 rfl rfl 0 (by decide) (mi 1 rfl) rfl dX1_exactlyAt_16 ?_
        refine z_iload g dX1_exactlyAt_19 3 rfl ?_
        refine z_lald g 1 rfl j (nI_pred j) (by omega) (by decide) dX1_exactlyAt_21 ?_
        refine z_ladd g dX1_exactlyAt_22 ?_
        refine z_lstore_n (lv' := [(2, .long _), (0, .ref _), (1, .int _), (4, .int _)]) g dX1_exactlyAt_23 (by decide) rfl ?_
        refine z_iinc (lv' := [(4, .int _), (2, .long _), (0, .ref _), (1, .int _)]) g (nI j - 1) dX1_exactlyAt_24 3 rfl (nIm_dec j) (by decide) rfl ?_
        refine z_goto g 6 dX1_exactlyAt_27 (by decide) ?_
        refine z_locs (lv' := [(0, .ref _), (1, .int _), (2, .long _), (4, .int _)]) g [2, 3, 1, 0] rfl ?_
        exact ih6 _ _ (by omega) (by omega) (by rw [show 7 - j = (7 - (j + 1)) + 1 by omega]; show _ = hxP f _ 6 (7 - (j + 1)) * _ + f (6 - (7 - (j + 1))); rw [← hc, show 6 - (7 - (j + 1)) = j by omega])
  refine z_locs (lv' := [(0, .ref _), (1, .int _), (2, .long _), (4, .int _)]) g [2, 3, 1, 0] rfl ?_
  exact cut_6 _ 7 0 (Nat.lt_succ_self _) (by decide) rfl
theorem nd_X1_exactlyAt : yX1_exactlyAt.cls = RX1 ∧ yX1_exactlyAt.cls ≠ "java/lang/invoke/MethodHandle" ∧ yX1_exactlyAt.cls ≠ "java/lang/invoke/VarHandle" ∧ (parseMethodDescriptor yX1_exactlyAt.desc).map (fun d => d.parameters.length) = some 1 := by decide +kernel
set_option maxHeartbeats 4000000 in
set_option maxRecDepth 100000 in
/-- Polynomial.inDoublesAt(x) -/
theorem k_X1_inDoublesAt (l : Launch) (G : va_G) (k : Nat → ClassId) (h0 h1 : Nat) (f : Nat → Int64) (p0 : UInt64) (hok : hdOK f p0 6) : ∀ sz, Met l yX1_inDoublesAt wsX1_inDoublesAt ({ frames := 0, cells := 0, slots := 0, locals := 0 }) (va_Pc [.ref h0, .double p0] (KP G k [(h0, .inr (1, [.ref h1])), (h1, .inl (k 2, 7, .inr (.inl f)))] sz)) (va_Qd (fun r (_ : Unit) => r = hdP f p0 6 7) (KQ G [(h0, .inr (1, [.ref h1])), (h1, .inl (k 2, 7, .inr (.inl f)))] (va_A [(h0, .inr (1, [.ref h1])), (h1, .inl (k 2, 7, .inr (.inl f)))] sz)) (va_A [(h0, .inr (1, [.ref h1])), (h1, .inl (k 2, 7, .inr (.inl f)))] sz)) 0 0 (va_A [(h0, .inr (1, [.ref h1])), (h1, .inl (k 2, 7, .inr (.inl f)))] sz) := by
  refine met_d 0 0 (lv0 := [(0, .ref h0), (1, .double p0)]) (own := RX1) (by decide) rfl rfl (Nat.le_of_ble_eq_true rfl) rfl (fun Z g hret => ?_)
  have hX1 : ∀ w ∈ u_ws RX1 TX1 1, w ∈ wsX1_inDoublesAt := fun w h => List.mem_cons_of_mem _ (List.mem_append_right _ (h))
  refine z_dc0 g dX1_inDoublesAt_0 ?_
  refine z_dstore_n (lv' := [(3, .double _), (0, .ref _), (1, .double _)]) g dX1_inDoublesAt_1 (by decide) rfl ?_
  refine z_bi g 6 dX1_inDoublesAt_2 (by decide) ?_
  refine z_istore (lv' := [(5, .int _), (3, .double _), (0, .ref _), (1, .double _)]) g dX1_inDoublesAt_4 (by decide) rfl ?_
  have cut_6 : ∀ (N : Nat) (j : Nat) (c : UInt64), j < N → (j ≤ 7) → (c = hdP f p0 6 (7 - j)) → Z 0 0 [(h0, .inr (1, [.ref h1])), (h1, .inl (k 2, 7, .inr (.inl f)))] [(0, .ref h0), (1, .double p0), (3, .double c), (5, .int (nI j - 1))] 6 [] := by
    intro N
    induction N with
    | zero => intro j c hm; exact absurd hm (Nat.not_lt_zero _)
    | succ N ih6 =>
      intro j c hm hj hc
      refine z_iload g dX1_inDoublesAt_6 3 rfl ?_
      refine z_if_lt g (tgt := 30) dX1_inDoublesAt_8 (by decide) (fun b8 => ?_) (fun b8 => ?_)
      · obtain rfl := nIm_neg b8 (by omega)
        refine z_dload_n g dX1_inDoublesAt_30 2 rfl ?_
        exact hret _ _ _ _ dX1_inDoublesAt_31 (hc) (rfl)
      · obtain ⟨j, rfl⟩ := nIm_pos b8
        refine z_dload_n g dX1_inDoublesAt_11 2 rfl ?_
        refine z_dload_n g dX1_inDoublesAt_12 1 rfl ?_
        refine z_dmul g dX1_inDoublesAt_13 (by rw [hc]; exact (hok _ (by omega)).1) ?_
        refine z_aload_n g dX1_inDoublesAt_14 0 rfl ?_
        refine z_get g hX1 0 rfl rfl 0 (by decide) (mi 1 rfl) rfl dX1_inDoublesAt_15 ?_
        refine z_iload g dX1_inDoublesAt_18 3 rfl ?_
        refine z_lald g 1 rfl j (nI_pred j) (by omega) (by decide) dX1_inDoublesAt_20 ?_
        refine z_l2d g dX1_inDoublesAt_21 ?_
        refine z_dadd g dX1_inDoublesAt_22 (by rw [hc]; have h9 := (hok (7 - (j + 1)) (by omega)).2; unfold hdP at h9; rwa [show 6 - (7 - (j + 1)) = j by omega] at h9) ?_
        refine z_dstore_n (lv' := [(3, .double _), (0, .ref _), (1, .double _), (5, .int _)]) g dX1_inDoublesAt_23 (by decide) rfl ?_
        refine z_iinc (lv' := [(5, .int _), (3, .double _), (0, .ref _), (1, .double _)]) g (nI j - 1) dX1_inDoublesAt_24 3 rfl (nIm_dec j) (by decide) rfl ?_
        refine z_goto g 6 dX1_inDoublesAt_27 (by decide) ?_
        refine z_locs (lv' := [(0, .ref _), (1, .double _), (3, .double _), (5, .int _)]) g [2, 3, 1, 0] rfl ?_
        exact ih6 _ _ (by omega) (by omega) (by rw [show 7 - j = (7 - (j + 1)) + 1 by omega]; show _ = FP.dadd (FP.dmul (hdP f _ 6 (7 - (j + 1))) _) (FP.l2d (f (6 - (7 - (j + 1))))); rw [← hc, show 6 - (7 - (j + 1)) = j by omega])
  refine z_locs (lv' := [(0, .ref _), (1, .double _), (3, .double _), (5, .int _)]) g [2, 3, 1, 0] rfl ?_
  exact cut_6 _ 7 FP.dconst0 (Nat.lt_succ_self _) (by decide) rfl
theorem nd_X1_inDoublesAt : yX1_inDoublesAt.cls = RX1 ∧ yX1_inDoublesAt.cls ≠ "java/lang/invoke/MethodHandle" ∧ yX1_inDoublesAt.cls ≠ "java/lang/invoke/VarHandle" ∧ (parseMethodDescriptor yX1_inDoublesAt.desc).map (fun d => d.parameters.length) = some 1 := by decide +kernel
end
section
/-! the desk: roots -3 .. 3 by their places 0 .. 6; m: how often each comes -/
def poss (r : Int32) : Bool := if r < -3 then false else if 3 < r then false else true
def rix (r : Int32) : Nat := (r - (-3)).toNatClampNeg
def manyP (m : Nat → Nat) (r : Int32) : Nat := if poss r then m (rix r) else 0
def plc (r k : Int32) : Int32 := if poss r then (if k < 1 then -1 else if 5 < k then -1 else (r - (-3)) * 5 + k - 1) else -1
def paP (A : Nat → Int64) (e : Int64) (r k : Int32) : Int64 := if 0 ≤ plc r k then A (plc r k).toNatClampNeg else e
def kpP (A : Nat → Int64) (r k : Int32) (v : Int64) : Nat → Int64 := if plc r k < 0 then A else vp_updL A (plc r k).toNatClampNeg v
def absL (x : Int64) : Int64 := if 0 < x then x else -x
def cgL : Nat → Int64 → Int64 → Int64
  | 0, d, _ => d
  | n + 1, d, r => if r = 0 then d else cgL n r (d - d / r * r)
def cgP (a b : Int64) : Int64 := cgL 100 (absL a) (absL b)
def lowP (n d : Int64) (w : Int32) : Int64 :=
  if d = 0 then (if w = 0 then 0 else 1) else if cgP n d = 0 then (if w = 0 then 0 else 1) else (if w = 0 then n else d) / (if 0 ≤ d then cgP n d else -cgP n d)
def mulN (f : Nat → Int64) (r : Int32) : Nat → Nat → Int64
  | 0 => f
  | n + 1 => mulP (mulN f r n) r
def dvN (f : Nat → Int64) (r : Int32) : Nat → Nat → Int64
  | 0 => f
  | n + 1 => dvP (dvN f r n) r
def othT (m : Nat → Nat) (r : Int32) (j : Nat) : Nat := if nI j - 3 = r then 0 else m j
def othF (m : Nat → Nat) (r : Int32) : Nat → Nat → Int64
  | 0 => oneP
  | j + 1 => mulN (othF m r j) (nI j - 3) (othT m r j)
def belF (m : Nat → Nat) : Nat → Nat → Int64
  | 0 => oneP
  | j + 1 => mulN (belF m j) (nI j - 3) (m j)
def quoF (m : Nat → Nat) (f : Nat → Int64) : Nat → Nat → Int64
  | 0 => f
  | j + 1 => dvN (quoF m f j) (nI j - 3) (m j)
def mkL (g0 : Int64) (o : Nat → Int64) (r : Int32) : Nat → (Nat → Int64) → Int64 → (Nat → Int64) → (Nat → Int64) → (Nat → Int64) × (Nat → Int64) × (Nat → Int64)
  | 0, R, _, A, B => (R, A, B)
  | t + 1, R, s, A, B => mkL g0 o r t (mixP g0 (-(hrn R r.toInt64 7)) (dvP R r) o) (s * g0) (kpP A r (nI (t + 1)) (lowP (hrn R r.toInt64 7) (s * g0) 0)) (kpP B r (nI (t + 1)) (lowP (hrn R r.toInt64 7) (s * g0) 1))
def mkP (m : Nat → Nat) (f : Nat → Int64) (r : Int32) (A B : Nat → Int64) : (Nat → Int64) × (Nat → Int64) × (Nat → Int64) :=
  mkL (hrn (othF m r 7) r.toInt64 7) (dvP (othF m r 7) r) r (manyP m r) f 1 A B
/-- parts above, parts below, the rest, the other factors, behind j roots -/
def tkS (m : Nat → Nat) (f R O : Nat → Int64) : Nat → (Nat → Int64) × (Nat → Int64) × (Nat → Int64) × (Nat → Int64)
  | 0 => (fun _ => 0, fun _ => 1, R, O)
  | j + 1 => ((mkP m f (nI j - 3) (tkS m f R O j).1 (tkS m f R O j).2.1).2.1, (mkP m f (nI j - 3) (tkS m f R O j).1 (tkS m f R O j).2.1).2.2, (mkP m f (nI j - 3) (tkS m f R O j).1 (tkS m f R O j).2.1).1, dvP (othF m (nI j - 3) 7) (nI j - 3))
theorem rt_gt {j : Nat} (hj : j ≤ 7) (h : 3 < nI j - 3) : j = 7 := by
  rcases (show j = 0 ∨ j = 1 ∨ j = 2 ∨ j = 3 ∨ j = 4 ∨ j = 5 ∨ j = 6 ∨ j = 7 by omega) with rfl | rfl | rfl | rfl | rfl | rfl | rfl | rfl <;> first | rfl | exact absurd h (by decide)
theorem rt_le {j : Nat} (hj : j ≤ 7) (h : ¬ 3 < nI j - 3) : j < 7 := by
  rcases (show j = 7 ∨ j < 7 by omega) with rfl | h2
  · exact absurd (by decide) h
  · exact h2
theorem rt_inc (j : Nat) : nI j - 3 + Int32.ofInt 1 = nI (j + 1) - 3 := by
  rw [← nI_1, Int32.sub_eq_add_neg, Int32.sub_eq_add_neg, Int32.add_assoc, Int32.add_assoc, Int32.add_comm (-3)]
  rfl
theorem rt_ok : ∀ j, j < 7 → poss (nI j - 3) = true ∧ rix (nI j - 3) = j := by decide +kernel
theorem manyP_rt {m : Nat → Nat} {j : Nat} (hj : j < 7) : manyP m (nI j - 3) = m j := by
  unfold manyP
  rw [(rt_ok j hj).1, (rt_ok j hj).2]
  rfl
theorem poss_of {r : Int32} (h : poss r = true) : ∃ j, j < 7 ∧ r = nI j - 3 := by
  unfold poss at h
  by_cases h1 : r < -3
  · rw [if_pos h1] at h; cases h
  · by_cases h2 : 3 < r
    · rw [if_neg h1, if_pos h2] at h; cases h
    · have e1 : (-3 : Int) ≤ r.toInt := by
        have := Int32.le_iff_toInt_le.mp (Int32.not_lt.mp h1)
        exact this
      have e2 : r.toInt ≤ 3 := Int32.le_iff_toInt_le.mp (Int32.not_lt.mp h2)
      have e3 : r = Int32.ofInt r.toInt := (Int32.ofInt_toInt r).symm
      rcases (show r.toInt = -3 ∨ r.toInt = -2 ∨ r.toInt = -1 ∨ r.toInt = 0 ∨ r.toInt = 1 ∨ r.toInt = 2 ∨ r.toInt = 3 by omega) with h | h | h | h | h | h | h <;> rw [h] at e3
      · exact ⟨0, by decide, e3⟩
      · exact ⟨1, by decide, e3⟩
      · exact ⟨2, by decide, e3⟩
      · exact ⟨3, by decide, e3⟩
      · exact ⟨4, by decide, e3⟩
      · exact ⟨5, by decide, e3⟩
      · exact ⟨6, by decide, e3⟩
theorem rix_ok {r : Int32} (h : poss r = true) : r - (-3) = nI (rix r) ∧ rix r < 7 := by
  obtain ⟨j, hj, rfl⟩ := poss_of h
  rw [(rt_ok j hj).2]
  exact ⟨(by decide +kernel : ∀ j, j < 7 → nI j - 3 - (-3) = nI j) j hj, hj⟩
theorem manyP_le {m : Nat → Nat} {b : Nat} (h : ∀ j, j < 7 → m j ≤ b) (r : Int32) : manyP m r ≤ b := by
  unfold manyP
  split
  · next e => exact h _ (rix_ok e).2
  · exact Nat.zero_le _
theorem k5_of {k : Int32} (h1 : ¬ k < 1) (h2 : ¬ 5 < k) : ∃ j, j < 5 ∧ k = nI (j + 1) := by
  have h0 : ¬ k < 0 := fun h => h1 (Int32.lt_trans h (by decide))
  obtain ⟨i, hi, rfl⟩ := nI_of2 (M := 5) (n := 5) (by decide) h0 (Int32.not_lt.mp h2)
  rcases i with _ | i
  · exact absurd (by decide) h1
  · exact ⟨i, by omega, rfl⟩
theorem plc_at {j i : Nat} (hj : j < 7) (hi : i < 5) : plc (nI j - 3) (nI (i + 1)) = nI (j * 5 + i) :=
  (by decide +kernel : ∀ j, j < 7 → ∀ i, i < 5 → plc (nI j - 3) (nI (i + 1)) = nI (j * 5 + i)) j hj i hi
theorem plc_ok {r k : Int32} (h : ¬ plc r k < 0) : plc r k = nI (plc r k).toNatClampNeg ∧ (plc r k).toNatClampNeg < 35 := by
  by_cases h0 : poss r = true
  · by_cases h1 : k < 1
    · exact absurd (by unfold plc; rw [h0, if_pos rfl, if_pos h1]; decide) h
    · by_cases h2 : 5 < k
      · exact absurd (by unfold plc; rw [h0, if_pos rfl, if_neg h1, if_pos h2]; decide) h
      · obtain ⟨j, hj, rfl⟩ := poss_of h0
        obtain ⟨i, hi, rfl⟩ := k5_of h1 h2
        rw [plc_at hj hi, nI_clamp (by omega)]
        exact ⟨rfl, by omega⟩
  · exact absurd (by unfold plc; rw [if_neg h0]; decide) h
theorem neg_ne0 {x : Int64} (h : ¬ x = 0) : ¬ -x = 0 := fun e => h (by rw [← @Int64.neg_neg x, e]; rfl)
set_option maxHeartbeats 4000000 in
set_option maxRecDepth 100000 in
/-- isPossibleRoot(root) -/
theorem k_X2_isPossibleRoot (l : Launch) (G : va_G) (k : Nat → ClassId) (p0 : Int32) : ∀ sz, Met l yX2_isPossibleRoot wsX2_isPossibleRoot ({ frames := 0, cells := 0, slots := 0, locals := 0 }) (va_Pc [.int p0] (KP G k [] sz)) (va_Qi (fun r (_ : Unit) => r = bI (poss p0)) (KQ G [] (va_A [] sz)) (va_A [] sz)) 0 0 (va_A [] sz) := by
  refine met_z 0 0 (lv0 := [(0, .int p0)]) (own := RX2) (by decide) rfl rfl (Nat.le_of_ble_eq_true rfl) rfl bI_n (fun Z g hret => ?_)
  refine z_iload_n g dX2_isPossibleRoot_0 0 rfl ?_
  refine z_bi g (-3) dX2_isPossibleRoot_1 (by decide) ?_
  refine z_ic_lt g (tgt := 15) dX2_isPossibleRoot_3 (by decide) (fun b3 => ?_) (fun b3 => ?_)
  · refine z_ic0 g dX2_isPossibleRoot_15 ?_
    exact hret _ _ _ _ dX2_isPossibleRoot_16 ((by simp only [poss, if_pos b3, reduceIte, Bool.false_eq_true] <;> rfl)) (rfl)
  · refine z_iload_n g dX2_isPossibleRoot_6 0 rfl ?_
    refine z_ic3 g dX2_isPossibleRoot_7 ?_
    refine z_ic_gt g (tgt := 15) dX2_isPossibleRoot_8 (by decide) (fun b8 => ?_) (fun b8 => ?_)
    · refine z_ic0 g dX2_isPossibleRoot_15 ?_
      exact hret _ _ _ _ dX2_isPossibleRoot_16 ((by simp only [poss, if_neg b3, if_pos b8, reduceIte, Bool.false_eq_true] <;> rfl)) (rfl)
    · refine z_ic1 g dX2_isPossibleRoot_11 ?_
      refine z_goto g 16 dX2_isPossibleRoot_12 (by decide) ?_
      exact hret _ _ _ _ dX2_isPossibleRoot_16 ((by simp only [poss, if_neg b3, if_neg b8, reduceIte, Bool.false_eq_true] <;> rfl)) (rfl)
theorem nd_X2_isPossibleRoot : yX2_isPossibleRoot.cls ≠ "java/lang/invoke/MethodHandle" ∧ yX2_isPossibleRoot.cls ≠ "java/lang/invoke/VarHandle" ∧ (parseMethodDescriptor yX2_isPossibleRoot.desc).map (fun d => d.parameters.length) = some 1 := by decide +kernel
set_option maxHeartbeats 4000000 in
set_option maxRecDepth 100000 in
/-- isSide(w) -/
theorem k_X2_isSide (l : Launch) (G : va_G) (k : Nat → ClassId) (p0 : Int32) : ∀ sz, Met l yX2_isSide wsX2_isSide ({ frames := 0, cells := 0, slots := 0, locals := 0 }) (va_Pc [.int p0] (KP G k [] sz)) (va_Qi (fun r (_ : Unit) => r = bI (decide (p0 = 0 ∨ p0 = 1))) (KQ G [] (va_A [] sz)) (va_A [] sz)) 0 0 (va_A [] sz) := by
  refine met_z 0 0 (lv0 := [(0, .int p0)]) (own := RX2) (by decide) rfl rfl (Nat.le_of_ble_eq_true rfl) rfl bI_n (fun Z g hret => ?_)
  refine z_iload_n g dX2_isSide_0 0 rfl ?_
  refine z_if_eq g (tgt := 9) dX2_isSide_1 (by decide) (fun b1 => ?_) (fun b1 => ?_)
  · refine z_ic1 g dX2_isSide_9 ?_
    refine z_goto g 14 dX2_isSide_10 (by decide) ?_
    exact hret _ _ _ _ dX2_isSide_14 ((by rw [bI_d]; simp [*])) (rfl)
  · refine z_iload_n g dX2_isSide_4 0 rfl ?_
    refine z_ic1 g dX2_isSide_5 ?_
    refine z_ic_ne g (tgt := 13) dX2_isSide_6 (by decide) (fun b6 => ?_) (fun b6 => ?_)
    · refine z_ic0 g dX2_isSide_13 ?_
      exact hret _ _ _ _ dX2_isSide_14 ((by rw [bI_d]; simp [*])) (rfl)
    · refine z_ic1 g dX2_isSide_9 ?_
      refine z_goto g 14 dX2_isSide_10 (by decide) ?_
      exact hret _ _ _ _ dX2_isSide_14 ((by rw [bI_d]; simp [*])) (rfl)
theorem nd_X2_isSide : yX2_isSide.cls ≠ "java/lang/invoke/MethodHandle" ∧ yX2_isSide.cls ≠ "java/lang/invoke/VarHandle" ∧ (parseMethodDescriptor yX2_isSide.desc).map (fun d => d.parameters.length) = some 1 := by decide +kernel
set_option maxHeartbeats 4000000 in
set_option maxRecDepth 100000 in
/-- many(root) -/
theorem k_X2_many (l : Launch) (G : va_G) (k : Nat → ClassId) (h0 a0 a1 a2 a3 a4 a5 a6 a7 a8 a9 a10 : Nat) (m : Nat → Nat) (p0 : Int32) : ∀ sz, Met l yX2_many wsX2_many ({ frames := 1, cells := 0, slots := 0, locals := 20 }) (va_Pc [.ref h0, .int p0] (KP G k [(h0, .inr (2, [.ref a0, .ref a1, .ref a2, .ref a3, .ref a4, .ref a5, .ref a6, .ref a7, .ref a8, .ref a9, .ref a10])), (a4, .inl (k 1, 7, .inl (fun j => nI (m j))))] sz)) (va_Qi (fun r (_ : Unit) => r = nI (manyP m p0)) (KQ G [(h0, .inr (2, [.ref a0, .ref a1, .ref a2, .ref a3, .ref a4, .ref a5, .ref a6, .ref a7, .ref a8, .ref a9, .ref a10])), (a4, .inl (k 1, 7, .inl (fun j => nI (m j))))] (va_A [(h0, .inr (2, [.ref a0, .ref a1, .ref a2, .ref a3, .ref a4, .ref a5, .ref a6, .ref a7, .ref a8, .ref a9, .ref a10])), (a4, .inl (k 1, 7, .inl (fun j => nI (m j))))] sz)) (va_A [(h0, .inr (2, [.ref a0, .ref a1, .ref a2, .ref a3, .ref a4, .ref a5, .ref a6, .ref a7, .ref a8, .ref a9, .ref a10])), (a4, .inl (k 1, 7, .inl (fun j => nI (m j))))] sz)) 0 0 (va_A [(h0, .inr (2, [.ref a0, .ref a1, .ref a2, .ref a3, .ref a4, .ref a5, .ref a6, .ref a7, .ref a8, .ref a9, .ref a10])), (a4, .inl (k 1, 7, .inl (fun j => nI (m j))))] sz) := by
  refine met_i 0 0 (lv0 := [(0, .ref h0), (1, .int p0)]) (own := RX2) (by decide) rfl rfl (Nat.le_of_ble_eq_true rfl) rfl (fun Z g hret => ?_)
  have hX2 : ∀ w ∈ u_ws RX2 TX2 11, w ∈ wsX2_many := fun w h => List.mem_cons_of_mem _ (List.mem_append_right _ (h))
  refine z_iload_n g dX2_many_0 1 rfl ?_
  refine z_callSi (w' := [_, _]) (wr := [_, _]) g (k_X2_isPossibleRoot l G k _) 1 gX2_many_X2_isPossibleRoot rfl rfl rfl nd_X2_isPossibleRoot ⟨by decide, by decide⟩ [] [0, 1] [0, 1] rfl rfl rfl rfl (by decide) rfl rfl rfl rfl (Nat.le_of_ble_eq_true rfl) dX2_many_1 ⟨by decide, by decide⟩ ?_
  refine z_bf_eq g (tgt := 19) dX2_many_4 (by decide) (fun b4 => ?_) (fun b4 => ?_)
  · refine z_ic0 g dX2_many_19 ?_
    exact hret _ _ _ _ dX2_many_20 ((by unfold manyP; rw [b4]; rfl)) (rfl)
  · refine z_aload_n g dX2_many_7 0 rfl ?_
    refine z_get g hX2 0 rfl rfl 4 (by decide) (mi 1 rfl) rfl dX2_many_8 ?_
    refine z_iload_n g dX2_many_11 1 rfl ?_
    refine z_bi g (-3) dX2_many_12 (by decide) ?_
    refine z_isub g dX2_many_14 ?_
    refine z_iald g 1 rfl (rix p0) (rix_ok b4).1 (rix_ok b4).2 (by decide) dX2_many_15 ?_
    refine z_goto g 20 dX2_many_16 (by decide) ?_
    exact hret _ _ _ _ dX2_many_20 ((by unfold manyP; rw [b4]; rfl)) (rfl)
theorem nd_X2_many : yX2_many.cls = RX2 ∧ yX2_many.cls ≠ "java/lang/invoke/MethodHandle" ∧ yX2_many.cls ≠ "java/lang/invoke/VarHandle" ∧ (parseMethodDescriptor yX2_many.desc).map (fun d => d.parameters.length) = some 1 := by decide +kernel
set_option maxHeartbeats 4000000 in
set_option maxRecDepth 100000 in
/-- placeOfPart(root, k) -/
theorem k_X2_placeOfPart (l : Launch) (G : va_G) (k : Nat → ClassId) (p0 p1 : Int32) : ∀ sz, Met l yX2_placeOfPart wsX2_placeOfPart ({ frames := 1, cells := 0, slots := 0, locals := 20 }) (va_Pc [.int p0, .int p1] (KP G k [] sz)) (va_Qi (fun r (_ : Unit) => r = plc p0 p1) (KQ G [] (va_A [] sz)) (va_A [] sz)) 0 0 (va_A [] sz) := by
  refine met_i 0 0 (lv0 := [(0, .int p0), (1, .int p1)]) (own := RX2) (by decide) rfl rfl (Nat.le_of_ble_eq_true rfl) rfl (fun Z g hret => ?_)
  refine z_iload_n g dX2_placeOfPart_0 0 rfl ?_
  refine z_callSi (w' := []) (wr := []) g (k_X2_isPossibleRoot l G k _) 1 gX2_placeOfPart_X2_isPossibleRoot rfl rfl rfl nd_X2_isPossibleRoot ⟨by decide, by decide⟩ [] [] [] rfl rfl rfl rfl (by decide) rfl rfl rfl rfl (Nat.le_of_ble_eq_true rfl) dX2_placeOfPart_1 ⟨by decide, by decide⟩ ?_
  refine z_bf_eq g (tgt := 21) dX2_placeOfPart_4 (by decide) (fun b4 => ?_) (fun b4 => ?_)
  · refine z_ic0 g dX2_placeOfPart_21 ?_
    refine z_istore_n (lv' := [(2, .int _), (0, .int _), (1, .int _)]) g dX2_placeOfPart_22 (by decide) rfl ?_
    refine z_iload_n g dX2_placeOfPart_23 0 rfl ?_
    refine z_if_eq g (tgt := 40) dX2_placeOfPart_24 (by decide) (fun b24 => ?_) (fun b24 => ?_)
    · refine z_icm1 g dX2_placeOfPart_40 ?_
      exact hret _ _ _ _ dX2_placeOfPart_41 ((by simp only [plc, if_neg (Bool.eq_false_iff.mp b4), if_pos b24, reduceIte, Bool.false_eq_true] <;> rfl)) (rfl)
    · exact absurd (by decide) b24
  · refine z_iload_n g dX2_placeOfPart_7 1 rfl ?_
    refine z_ic1 g dX2_placeOfPart_8 ?_
    refine z_ic_lt g (tgt := 21) dX2_placeOfPart_9 (by decide) (fun b9 => ?_) (fun b9 => ?_)
    · refine z_ic0 g dX2_placeOfPart_21 ?_
      refine z_istore_n (lv' := [(2, .int _), (0, .int _), (1, .int _)]) g dX2_placeOfPart_22 (by decide) rfl ?_
      refine z_iload_n g dX2_placeOfPart_23 0 rfl ?_
      refine z_if_eq g (tgt := 40) dX2_placeOfPart_24 (by decide) (fun b24 => ?_) (fun b24 => ?_)
      · refine z_icm1 g dX2_placeOfPart_40 ?_
        exact hret _ _ _ _ dX2_placeOfPart_41 ((by simp only [plc, if_pos b4, if_pos b9, if_pos b24, reduceIte, Bool.false_eq_true] <;> rfl)) (rfl)
      · exact absurd (by decide) b24
    · refine z_iload_n g dX2_placeOfPart_12 1 rfl ?_
      refine z_ic5 g dX2_placeOfPart_13 ?_
      refine z_ic_gt g (tgt := 21) dX2_placeOfPart_14 (by decide) (fun b14 => ?_) (fun b14 => ?_)
      · refine z_ic0 g dX2_placeOfPart_21 ?_
        refine z_istore_n (lv' := [(2, .int _), (0, .int _), (1, .int _)]) g dX2_placeOfPart_22 (by decide) rfl ?_
        refine z_iload_n g dX2_placeOfPart_23 0 rfl ?_
        refine z_if_eq g (tgt := 40) dX2_placeOfPart_24 (by decide) (fun b24 => ?_) (fun b24 => ?_)
        · refine z_icm1 g dX2_placeOfPart_40 ?_
          exact hret _ _ _ _ dX2_placeOfPart_41 ((by simp only [plc, if_pos b4, if_neg b9, if_pos b14, if_pos b24, reduceIte, Bool.false_eq_true] <;> rfl)) (rfl)
        · exact absurd (by decide) b24
      · refine z_ic1 g dX2_placeOfPart_17 ?_
        refine z_goto g 22 dX2_placeOfPart_18 (by decide) ?_
        refine z_istore_n (lv' := [(2, .int _), (0, .int _), (1, .int _)]) g dX2_placeOfPart_22 (by decide) rfl ?_
        refine z_iload_n g dX2_placeOfPart_23 0 rfl ?_
        refine z_if_eq g (tgt := 40) dX2_placeOfPart_24 (by decide) (fun b24 => ?_) (fun b24 => ?_)
        · exact absurd b24 (by decide)
        · refine z_iload_n g dX2_placeOfPart_27 1 rfl ?_
          refine z_bi g (-3) dX2_placeOfPart_28 (by decide) ?_
          refine z_isub g dX2_placeOfPart_30 ?_
          refine z_ic5 g dX2_placeOfPart_31 ?_
          refine z_imul g dX2_placeOfPart_32 ?_
          refine z_iload_n g dX2_placeOfPart_33 2 rfl ?_
          refine z_iadd g dX2_placeOfPart_34 ?_
          refine z_ic1 g dX2_placeOfPart_35 ?_
          refine z_isub g dX2_placeOfPart_36 ?_
          refine z_goto g 41 dX2_placeOfPart_37 (by decide) ?_
          exact hret _ _ _ _ dX2_placeOfPart_41 ((by simp only [plc, if_pos b4, if_neg b9, if_neg b14, if_neg b24, reduceIte, Bool.false_eq_true] <;> rfl)) (rfl)
theorem nd_X2_placeOfPart : yX2_placeOfPart.cls ≠ "java/lang/invoke/MethodHandle" ∧ yX2_placeOfPart.cls ≠ "java/lang/invoke/VarHandle" ∧ (parseMethodDescriptor yX2_placeOfPart.desc).map (fun d => d.parameters.length) = some 2 := by decide +kernel
set_option maxHeartbeats 4000000 in
set_option maxRecDepth 100000 in
/-- partAbove(root, k) -/
theorem k_X2_partAbove (l : Launch) (G : va_G) (k : Nat → ClassId) (h0 a0 a1 a2 a3 a4 a5 a6 a7 a8 a9 a10 : Nat) (A : Nat → Int64) (p0 p1 : Int32) : ∀ sz, Met l yX2_partAbove wsX2_partAbove ({ frames := 2, cells := 0, slots := 0, locals := 42 }) (va_Pc [.ref h0, .int p0, .int p1] (KP G k [(h0, .inr (2, [.ref a0, .ref a1, .ref a2, .ref a3, .ref a4, .ref a5, .ref a6, .ref a7, .ref a8, .ref a9, .ref a10])), (a5, .inl (k 2, 35, .inr (.inl A)))] sz)) (va_Ql (fun r (_ : Unit) => r = paP A 0 p0 p1) (KQ G [(h0, .inr (2, [.ref a0, .ref a1, .ref a2, .ref a3, .ref a4, .ref a5, .ref a6, .ref a7, .ref a8, .ref a9, .ref a10])), (a5, .inl (k 2, 35, .inr (.inl A)))] (va_A [(h0, .inr (2, [.ref a0, .ref a1, .ref a2, .ref a3, .ref a4, .ref a5, .ref a6, .ref a7, .ref a8, .ref a9, .ref a10])), (a5, .inl (k 2, 35, .inr (.inl A)))] sz)) (va_A [(h0, .inr (2, [.ref a0, .ref a1, .ref a2, .ref a3, .ref a4, .ref a5, .ref a6, .ref a7, .ref a8, .ref a9, .ref a10])), (a5, .inl (k 2, 35, .inr (.inl A)))] sz)) 0 0 (va_A [(h0, .inr (2, [.ref a0, .ref a1, .ref a2, .ref a3, .ref a4, .ref a5, .ref a6, .ref a7, .ref a8, .ref a9, .ref a10])), (a5, .inl (k 2, 35, .inr (.inl A)))] sz) := by
  refine met_l 0 0 (lv0 := [(0, .ref h0), (1, .int p0), (2, .int p1)]) (own := RX2) (by decide) rfl rfl (Nat.le_of_ble_eq_true rfl) rfl (fun Z g hret => ?_)
  have hX2 : ∀ w ∈ u_ws RX2 TX2 11, w ∈ wsX2_partAbove := fun w h => List.mem_cons_of_mem _ (List.mem_append_right _ (h))
  refine z_iload_n g dX2_partAbove_0 1 rfl ?_
  refine z_iload_n g dX2_partAbove_1 2 rfl ?_
  refine z_callSi (w' := [_, _]) (wr := [_, _]) g (k_X2_placeOfPart l G k _ _) 2 gX2_partAbove_X2_placeOfPart rfl rfl rfl nd_X2_placeOfPart ⟨by decide, by decide⟩ [] [0, 1] [0, 1] rfl rfl rfl rfl (by decide) rfl rfl rfl rfl (Nat.le_of_ble_eq_true rfl) dX2_partAbove_2 ⟨by decide, by decide⟩ ?_
  refine z_istore_n (lv' := [(3, .int _), (0, .ref _), (1, .int _), (2, .int _)]) g dX2_partAbove_5 (by decide) rfl ?_
  refine z_iload_n g dX2_partAbove_6 0 rfl ?_
  refine z_if_ge g (tgt := 14) dX2_partAbove_7 (by decide) (fun b7 => ?_) (fun b7 => ?_)
  · refine z_aload_n g dX2_partAbove_14 1 rfl ?_
    refine z_get g hX2 0 rfl rfl 5 (by decide) (mi 1 rfl) rfl dX2_partAbove_15 ?_
    refine z_iload_n g dX2_partAbove_18 0 rfl ?_
    refine z_lald g 1 rfl (plc p0 p1).toNatClampNeg (plc_ok (Int32.not_lt.mpr b7)).1 (plc_ok (Int32.not_lt.mpr b7)).2 (by decide) dX2_partAbove_19 ?_
    exact hret _ _ _ _ dX2_partAbove_20 ((by simp only [paP, if_pos b7, reduceIte, Bool.false_eq_true] <;> rfl)) (rfl)
  · refine z_lc0 g dX2_partAbove_10 ?_
    refine z_goto g 20 dX2_partAbove_11 (by decide) ?_
    exact hret _ _ _ _ dX2_partAbove_20 ((by simp only [paP, if_neg b7, reduceIte, Bool.false_eq_true] <;> rfl)) (rfl)
theorem nd_X2_partAbove : yX2_partAbove.cls = RX2 ∧ yX2_partAbove.cls ≠ "java/lang/invoke/MethodHandle" ∧ yX2_partAbove.cls ≠ "java/lang/invoke/VarHandle" ∧ (parseMethodDescriptor yX2_partAbove.desc).map (fun d => d.parameters.length) = some 2 := by decide +kernel
set_option maxHeartbeats 4000000 in
set_option maxRecDepth 100000 in
/-- partBelow(root, k) -/
theorem k_X2_partBelow (l : Launch) (G : va_G) (k : Nat → ClassId) (h0 a0 a1 a2 a3 a4 a5 a6 a7 a8 a9 a10 : Nat) (A : Nat → Int64) (p0 p1 : Int32) : ∀ sz, Met l yX2_partBelow wsX2_partBelow ({ frames := 2, cells := 0, slots := 0, locals := 42 }) (va_Pc [.ref h0, .int p0, .int p1] (KP G k [(h0, .inr (2, [.ref a0, .ref a1, .ref a2, .ref a3, .ref a4, .ref a5, .ref a6, .ref a7, .ref a8, .ref a9, .ref a10])), (a6, .inl (k 2, 35, .inr (.inl A)))] sz)) (va_Ql (fun r (_ : Unit) => r = paP A 1 p0 p1) (KQ G [(h0, .inr (2, [.ref a0, .ref a1, .ref a2, .ref a3, .ref a4, .ref a5, .ref a6, .ref a7, .ref a8, .ref a9, .ref a10])), (a6, .inl (k 2, 35, .inr (.inl A)))] (va_A [(h0, .inr (2, [.ref a0, .ref a1, .ref a2, .ref a3, .ref a4, .ref a5, .ref a6, .ref a7, .ref a8, .ref a9, .ref a10])), (a6, .inl (k 2, 35, .inr (.inl A)))] sz)) (va_A [(h0, .inr (2, [.ref a0, .ref a1, .ref a2, .ref a3, .ref a4, .ref a5, .ref a6, .ref a7, .ref a8, .ref a9, .ref a10])), (a6, .inl (k 2, 35, .inr (.inl A)))] sz)) 0 0 (va_A [(h0, .inr (2, [.ref a0, .ref a1, .ref a2, .ref a3, .ref a4, .ref a5, .ref a6, .ref a7, .ref a8, .ref a9, .ref a10])), (a6, .inl (k 2, 35, .inr (.inl A)))] sz) := by
  refine met_l 0 0 (lv0 := [(0, .ref h0), (1, .int p0), (2, .int p1)]) (own := RX2) (by decide) rfl rfl (Nat.le_of_ble_eq_true rfl) rfl (fun Z g hret => ?_)
  have hX2 : ∀ w ∈ u_ws RX2 TX2 11, w ∈ wsX2_partBelow := fun w h => List.mem_cons_of_mem _ (List.mem_append_right _ (h))
  refine z_iload_n g dX2_partBelow_0 1 rfl ?_
  refine z_iload_n g dX2_partBelow_1 2 rfl ?_
  refine z_callSi (w' := [_, _]) (wr := [_, _]) g (k_X2_placeOfPart l G k _ _) 2 gX2_partBelow_X2_placeOfPart rfl rfl rfl nd_X2_placeOfPart ⟨by decide, by decide⟩ [] [0, 1] [0, 1] rfl rfl rfl rfl (by decide) rfl rfl rfl rfl (Nat.le_of_ble_eq_true rfl) dX2_partBelow_2 ⟨by decide, by decide⟩ ?_
  refine z_istore_n (lv' := [(3, .int _), (0, .ref _), (1, .int _), (2, .int _)]) g dX2_partBelow_5 (by decide) rfl ?_
  refine z_iload_n g dX2_partBelow_6 0 rfl ?_
  refine z_if_ge g (tgt := 14) dX2_partBelow_7 (by decide) (fun b7 => ?_) (fun b7 => ?_)
  · refine z_aload_n g dX2_partBelow_14 1 rfl ?_
    refine z_get g hX2 0 rfl rfl 6 (by decide) (mi 1 rfl) rfl dX2_partBelow_15 ?_
    refine z_iload_n g dX2_partBelow_18 0 rfl ?_
    refine z_lald g 1 rfl (plc p0 p1).toNatClampNeg (plc_ok (Int32.not_lt.mpr b7)).1 (plc_ok (Int32.not_lt.mpr b7)).2 (by decide) dX2_partBelow_19 ?_
    exact hret _ _ _ _ dX2_partBelow_20 ((by simp only [paP, if_pos b7, reduceIte, Bool.false_eq_true] <;> rfl)) (rfl)
  · refine z_lc1 g dX2_partBelow_10 ?_
    refine z_goto g 20 dX2_partBelow_11 (by decide) ?_
    exact hret _ _ _ _ dX2_partBelow_20 ((by simp only [paP, if_neg b7, reduceIte, Bool.false_eq_true] <;> rfl)) (rfl)
theorem nd_X2_partBelow : yX2_partBelow.cls = RX2 ∧ yX2_partBelow.cls ≠ "java/lang/invoke/MethodHandle" ∧ yX2_partBelow.cls ≠ "java/lang/invoke/VarHandle" ∧ (parseMethodDescriptor yX2_partBelow.desc).map (fun d => d.parameters.length) = some 2 := by decide +kernel
set_option maxHeartbeats 4000000 in
set_option maxRecDepth 100000 in
/-- commonDivisor(a, b) -/
theorem k_X2_commonDivisor (l : Launch) (G : va_G) (k : Nat → ClassId) (p0 p1 : Int64) : ∀ sz, Met l yX2_commonDivisor wsX2_commonDivisor ({ frames := 1, cells := 0, slots := 0, locals := 13 }) (va_Pc [.long p0, .long p1] (KP G k [] sz)) (va_Ql (fun r (_ : Unit) => r = cgP p0 p1) (KQ G [] (va_A [] sz)) (va_A [] sz)) 0 0 (va_A [] sz) := by
  refine met_l 0 0 (lv0 := [(0, .long p0), (2, .long p1)]) (own := RX2) (by decide) rfl rfl (Nat.le_of_ble_eq_true rfl) rfl (fun Z g hret => ?_)
  refine z_lload_n g dX2_commonDivisor_0 0 rfl ?_
  refine z_abs g (mi 1 rfl) (mi 2 rfl) (mi 3 rfl) (mi 4 rfl) (by decide) (Nat.le_of_ble_eq_true rfl) (by decide) (by decide) dX2_commonDivisor_1 ?_
  refine z_tl (y := absL p0) (rfl) ?_
  refine z_lstore (lv' := [(4, .long _), (0, .long _), (2, .long _)]) g dX2_commonDivisor_4 (by decide) rfl ?_
  refine z_lload_n g dX2_commonDivisor_6 2 rfl ?_
  refine z_abs g (mi 1 rfl) (mi 2 rfl) (mi 3 rfl) (mi 4 rfl) (by decide) (Nat.le_of_ble_eq_true rfl) (by decide) (by decide) dX2_commonDivisor_7 ?_
  refine z_tl (y := absL p1) (rfl) ?_
  refine z_lstore (lv' := [(6, .long _), (4, .long _), (0, .long _), (2, .long _)]) g dX2_commonDivisor_10 (by decide) rfl ?_
  refine z_ic0 g dX2_commonDivisor_12 ?_
  refine z_istore (lv' := [(8, .int _), (6, .long _), (4, .long _), (0, .long _), (2, .long _)]) g dX2_commonDivisor_13 (by decide) rfl ?_
  have cut_15 : ∀ (N15 : Nat) (s : Nat) (d r : Int64), 100 - s < N15 → (s ≤ 100) → (cgL (100 - s) d r = cgP p0 p1) → Z 0 0 [] [(0, .long p0), (2, .long p1), (4, .long d), (6, .long r), (8, .int (nI s))] 15 [] := by
    intro N15
    induction N15 with
    | zero => intro s d r hms; exact absurd hms (Nat.not_lt_zero _)
    | succ N15 ih15 =>
      intro s d r hms15 hs hI
      refine z_iload g dX2_commonDivisor_15 4 rfl ?_
      refine z_bi g 100 dX2_commonDivisor_17 (by decide) ?_
      refine z_n_ge g (a := s) (b := 100) (tgt := 50) (by omega) (by omega) dX2_commonDivisor_19 (by decide) (fun b19 => ?_) (fun b19 => ?_)
      · refine z_lload g dX2_commonDivisor_50 2 rfl ?_
        exact hret _ _ _ _ dX2_commonDivisor_52 ((by first | (rw [← hI, show 100 - s = 0 by omega]; rfl) | (rw [← hI, show 100 - s = (100 - (s + 1)) + 1 by omega]; show _ = if r = 0 then d else _; rw [if_pos b25]))) (rfl)
      · refine z_lload g dX2_commonDivisor_22 3 rfl ?_
        refine z_lc0 g dX2_commonDivisor_24 ?_
        refine z_lc_eq g (tgt := 50) dX2_commonDivisor_25 dX2_commonDivisor_26 (by decide) (fun b25 => ?_) (fun b25 => ?_)
        · refine z_lload g dX2_commonDivisor_50 2 rfl ?_
          exact hret _ _ _ _ dX2_commonDivisor_52 ((by first | (rw [← hI, show 100 - s = 0 by omega]; rfl) | (rw [← hI, show 100 - s = (100 - (s + 1)) + 1 by omega]; show _ = if r = 0 then d else _; rw [if_pos b25]))) (rfl)
        · refine z_lload g dX2_commonDivisor_29 2 rfl ?_
          refine z_lload g dX2_commonDivisor_31 3 rfl ?_
          refine z_lrem g dX2_commonDivisor_33 b25 ?_
          refine z_lstore (lv' := [(9, .long _), (0, .long _), (2, .long _), (4, .long _), (6, .long _), (8, .int _)]) g dX2_commonDivisor_34 (by decide) rfl ?_
          refine z_lload g dX2_commonDivisor_36 4 rfl ?_
          refine z_lstore (lv' := [(4, .long _), (9, .long _), (0, .long _), (2, .long _), (6, .long _), (8, .int _)]) g dX2_commonDivisor_38 (by decide) rfl ?_
          refine z_lload g dX2_commonDivisor_40 1 rfl ?_
          refine z_lstore (lv' := [(6, .long _), (4, .long _), (9, .long _), (0, .long _), (2, .long _), (8, .int _)]) g dX2_commonDivisor_42 (by decide) rfl ?_
          refine z_inc (lv' := [(8, .int _), (6, .long _), (4, .long _), (9, .long _), (0, .long _), (2, .long _)]) g dX2_commonDivisor_44 5 rfl (by decide) rfl ?_
          refine z_goto g 15 dX2_commonDivisor_47 (by decide) ?_
          refine z_locs (lv' := [(0, .long _), (2, .long _), (4, .long _), (6, .long _), (8, .int _)]) g [4, 5, 2, 1, 0] rfl ?_
          exact ih15 _ _ _ (by omega) (by omega) (by rw [← hI, show 100 - s = (100 - (s + 1)) + 1 by omega]; show _ = if r = 0 then d else _; rw [if_neg b25])
  refine z_locs (lv' := [(0, .long _), (2, .long _), (4, .long _), (6, .long _), (8, .int _)]) g [3, 4, 2, 1, 0] rfl ?_
  exact cut_15 _ 0 _ _ (Nat.lt_succ_self _) (by decide) rfl
theorem nd_X2_commonDivisor : yX2_commonDivisor.cls ≠ "java/lang/invoke/MethodHandle" ∧ yX2_commonDivisor.cls ≠ "java/lang/invoke/VarHandle" ∧ (parseMethodDescriptor yX2_commonDivisor.desc).map (fun d => d.parameters.length) = some 2 := by decide +kernel
set_option maxHeartbeats 4000000 in
set_option maxRecDepth 100000 in
/-- inLowestTerms(n, d, w) -/
theorem k_X2_inLowestTerms (l : Launch) (G : va_G) (k : Nat → ClassId) (p0 p1 : Int64) (p2 : Int32) : ∀ sz, Met l yX2_inLowestTerms wsX2_inLowestTerms ({ frames := 2, cells := 0, slots := 0, locals := 43 }) (va_Pc [.long p0, .long p1, .int p2] (KP G k [] sz)) (va_Ql (fun r (_ : Unit) => r = lowP p0 p1 p2) (KQ G [] (va_A [] sz)) (va_A [] sz)) 0 0 (va_A [] sz) := by
  refine met_l 0 0 (lv0 := [(0, .long p0), (2, .long p1), (4, .int p2)]) (own := RX2) (by decide) rfl rfl (Nat.le_of_ble_eq_true rfl) rfl (fun Z g hret => ?_)
  refine z_lload_n g dX2_inLowestTerms_0 0 rfl ?_
  refine z_lload_n g dX2_inLowestTerms_1 1 rfl ?_
  refine z_callSl (w' := []) (wr := []) g (k_X2_commonDivisor l G k _ _) 2 gX2_inLowestTerms_X2_commonDivisor rfl rfl rfl nd_X2_commonDivisor ⟨by decide, by decide⟩ [] [] [] rfl rfl rfl rfl (by decide) rfl rfl rfl rfl (Nat.le_of_ble_eq_true rfl) dX2_inLowestTerms_2 ⟨by decide, by decide⟩ ?_
  refine z_lstore (lv' := [(5, .long _), (0, .long _), (2, .long _), (4, .int _)]) g dX2_inLowestTerms_5 (by decide) rfl ?_
  refine z_lload_n g dX2_inLowestTerms_7 2 rfl ?_
  refine z_lc0 g dX2_inLowestTerms_8 ?_
  refine z_lc_eq g (tgt := 20) dX2_inLowestTerms_9 dX2_inLowestTerms_10 (by decide) (fun b9 => ?_) (fun b9 => ?_)
  · refine z_iload g dX2_inLowestTerms_20 3 rfl ?_
    refine z_if_ne g (tgt := 29) dX2_inLowestTerms_22 (by decide) (fun b22 => ?_) (fun b22 => ?_)
    · refine z_lc1 g dX2_inLowestTerms_29 ?_
      exact hret _ _ _ _ dX2_inLowestTerms_30 ((by simp only [lowP, if_pos b9, if_neg b22, reduceIte, Bool.false_eq_true] <;> rfl)) (rfl)
    · refine z_lc0 g dX2_inLowestTerms_25 ?_
      refine z_goto g 30 dX2_inLowestTerms_26 (by decide) ?_
      exact hret _ _ _ _ dX2_inLowestTerms_30 ((by simp only [lowP, if_pos b9, if_pos b22, reduceIte, Bool.false_eq_true] <;> rfl)) (rfl)
  · refine z_lload g dX2_inLowestTerms_13 0 rfl ?_
    refine z_lc0 g dX2_inLowestTerms_15 ?_
    refine z_lc_ne g (tgt := 31) dX2_inLowestTerms_16 dX2_inLowestTerms_17 (by decide) (fun b16 => ?_) (fun b16 => ?_)
    · refine z_lload_n g dX2_inLowestTerms_31 2 rfl ?_
      refine z_lc0 g dX2_inLowestTerms_32 ?_
      refine z_lc_ge g (tgt := 43) dX2_inLowestTerms_33 dX2_inLowestTerms_34 (by decide) (fun b33 => ?_) (fun b33 => ?_)
      · refine z_lload g dX2_inLowestTerms_43 0 rfl ?_
        refine z_lstore (lv' := [(7, .long _), (5, .long _), (0, .long _), (2, .long _), (4, .int _)]) g dX2_inLowestTerms_45 (by decide) rfl ?_
        refine z_iload g dX2_inLowestTerms_47 4 rfl ?_
        refine z_if_ne g (tgt := 56) dX2_inLowestTerms_49 (by decide) (fun b49 => ?_) (fun b49 => ?_)
        · refine z_lload_n g dX2_inLowestTerms_56 3 rfl ?_
          refine z_lload g dX2_inLowestTerms_57 0 rfl ?_
          refine z_ldiv g dX2_inLowestTerms_59 (by first | exact b16 | exact neg_ne0 b16) ?_
          exact hret _ _ _ _ dX2_inLowestTerms_60 ((by simp only [lowP, if_neg b9, if_neg b16, if_pos b33, if_neg b49, reduceIte, Bool.false_eq_true] <;> rfl)) (rfl)
        · refine z_lload_n g dX2_inLowestTerms_52 2 rfl ?_
          refine z_goto g 57 dX2_inLowestTerms_53 (by decide) ?_
          refine z_lload g dX2_inLowestTerms_57 0 rfl ?_
          refine z_ldiv g dX2_inLowestTerms_59 (by first | exact b16 | exact neg_ne0 b16) ?_
          exact hret _ _ _ _ dX2_inLowestTerms_60 ((by simp only [lowP, if_neg b9, if_neg b16, if_pos b33, if_pos b49, reduceIte, Bool.false_eq_true] <;> rfl)) (rfl)
      · refine z_lload g dX2_inLowestTerms_37 0 rfl ?_
        refine z_lneg g dX2_inLowestTerms_39 ?_
        refine z_goto g 45 dX2_inLowestTerms_40 (by decide) ?_
        refine z_lstore (lv' := [(7, .long _), (5, .long _), (0, .long _), (2, .long _), (4, .int _)]) g dX2_inLowestTerms_45 (by decide) rfl ?_
        refine z_iload g dX2_inLowestTerms_47 4 rfl ?_
        refine z_if_ne g (tgt := 56) dX2_inLowestTerms_49 (by decide) (fun b49 => ?_) (fun b49 => ?_)
        · refine z_lload_n g dX2_inLowestTerms_56 3 rfl ?_
          refine z_lload g dX2_inLowestTerms_57 0 rfl ?_
          refine z_ldiv g dX2_inLowestTerms_59 (by first | exact b16 | exact neg_ne0 b16) ?_
          exact hret _ _ _ _ dX2_inLowestTerms_60 ((by simp only [lowP, if_neg b9, if_neg b16, if_neg b33, if_neg b49, reduceIte, Bool.false_eq_true] <;> rfl)) (rfl)
        · refine z_lload_n g dX2_inLowestTerms_52 2 rfl ?_
          refine z_goto g 57 dX2_inLowestTerms_53 (by decide) ?_
          refine z_lload g dX2_inLowestTerms_57 0 rfl ?_
          refine z_ldiv g dX2_inLowestTerms_59 (by first | exact b16 | exact neg_ne0 b16) ?_
          exact hret _ _ _ _ dX2_inLowestTerms_60 ((by simp only [lowP, if_neg b9, if_neg b16, if_neg b33, if_pos b49, reduceIte, Bool.false_eq_true] <;> rfl)) (rfl)
    · refine z_iload g dX2_inLowestTerms_20 3 rfl ?_
      refine z_if_ne g (tgt := 29) dX2_inLowestTerms_22 (by decide) (fun b22 => ?_) (fun b22 => ?_)
      · refine z_lc1 g dX2_inLowestTerms_29 ?_
        exact hret _ _ _ _ dX2_inLowestTerms_30 ((by simp only [lowP, if_neg b9, if_pos b16, if_neg b22, reduceIte, Bool.false_eq_true] <;> rfl)) (rfl)
      · refine z_lc0 g dX2_inLowestTerms_25 ?_
        refine z_goto g 30 dX2_inLowestTerms_26 (by decide) ?_
        exact hret _ _ _ _ dX2_inLowestTerms_30 ((by simp only [lowP, if_neg b9, if_pos b16, if_pos b22, reduceIte, Bool.false_eq_true] <;> rfl)) (rfl)
theorem nd_X2_inLowestTerms : yX2_inLowestTerms.cls ≠ "java/lang/invoke/MethodHandle" ∧ yX2_inLowestTerms.cls ≠ "java/lang/invoke/VarHandle" ∧ (parseMethodDescriptor yX2_inLowestTerms.desc).map (fun d => d.parameters.length) = some 3 := by decide +kernel
set_option maxHeartbeats 4000000 in
set_option maxRecDepth 100000 in
/-- keepPart(root, k, n, d) -/
theorem k_X2_keepPart (l : Launch) (G : va_G) (k : Nat → ClassId) (h0 a0 a1 a2 a3 a4 a5 a6 a7 a8 a9 a10 : Nat) (A B : Nat → Int64) (p0 p1 : Int32) (p2 p3 : Int64) : ∀ sz, Met l yX2_keepPart wsX2_keepPart ({ frames := 3, cells := 0, slots := 0, locals := 71 }) (va_Pc [.ref h0, .int p0, .int p1, .long p2, .long p3] (KP G k [(h0, .inr (2, [.ref a0, .ref a1, .ref a2, .ref a3, .ref a4, .ref a5, .ref a6, .ref a7, .ref a8, .ref a9, .ref a10])), (a5, .inl (k 2, 35, .inr (.inl A))), (a6, .inl (k 2, 35, .inr (.inl B)))] sz)) (va_Qv (fun (_ : Unit) => True) (KQ G [(h0, .inr (2, [.ref a0, .ref a1, .ref a2, .ref a3, .ref a4, .ref a5, .ref a6, .ref a7, .ref a8, .ref a9, .ref a10])), (a5, .inl (k 2, 35, .inr (.inl (kpP A p0 p1 (lowP p2 p3 0))))), (a6, .inl (k 2, 35, .inr (.inl (kpP B p0 p1 (lowP p2 p3 1)))))] (va_A [(h0, .inr (2, [.ref a0, .ref a1, .ref a2, .ref a3, .ref a4, .ref a5, .ref a6, .ref a7, .ref a8, .ref a9, .ref a10])), (a5, .inl (k 2, 35, .inr (.inl A))), (a6, .inl (k 2, 35, .inr (.inl B)))] sz)) (va_A [(h0, .inr (2, [.ref a0, .ref a1, .ref a2, .ref a3, .ref a4, .ref a5, .ref a6, .ref a7, .ref a8, .ref a9, .ref a10])), (a5, .inl (k 2, 35, .inr (.inl A))), (a6, .inl (k 2, 35, .inr (.inl B)))] sz)) 0 0 (va_A [(h0, .inr (2, [.ref a0, .ref a1, .ref a2, .ref a3, .ref a4, .ref a5, .ref a6, .ref a7, .ref a8, .ref a9, .ref a10])), (a5, .inl (k 2, 35, .inr (.inl A))), (a6, .inl (k 2, 35, .inr (.inl B)))] sz) := by
  refine met_v 0 0 (lv0 := [(0, .ref h0), (1, .int p0), (2, .int p1), (3, .long p2), (5, .long p3)]) (own := RX2) (by decide) rfl rfl (Nat.le_of_ble_eq_true rfl) rfl (fun Z g hret => ?_)
  have hX2 : ∀ w ∈ u_ws RX2 TX2 11, w ∈ wsX2_keepPart := fun w h => List.mem_cons_of_mem _ (List.mem_append_right _ (h))
  refine z_iload_n g dX2_keepPart_0 1 rfl ?_
  refine z_iload_n g dX2_keepPart_1 2 rfl ?_
  refine z_callSi (w' := [_, _, _]) (wr := [_, _, _]) g (k_X2_placeOfPart l G k _ _) 2 gX2_keepPart_X2_placeOfPart rfl rfl rfl nd_X2_placeOfPart ⟨by decide, by decide⟩ [] [0, 1, 2] [0, 1, 2] rfl rfl rfl rfl (by decide) rfl rfl rfl rfl (Nat.le_of_ble_eq_true rfl) dX2_keepPart_2 ⟨by decide, by decide⟩ ?_
  refine z_istore (lv' := [(7, .int _), (0, .ref _), (1, .int _), (2, .int _), (3, .long _), (5, .long _)]) g dX2_keepPart_5 (by decide) rfl ?_
  refine z_iload g dX2_keepPart_7 0 rfl ?_
  refine z_if_lt g (tgt := 40) dX2_keepPart_9 (by decide) (fun b9 => ?_) (fun b9 => ?_)
  · exact hret _ _ _ dX2_keepPart_40 ((by simp only [kpP, if_pos b9, reduceIte, Bool.false_eq_true] <;> rfl))
  · refine z_aload_n g dX2_keepPart_12 1 rfl ?_
    refine z_get g hX2 0 rfl rfl 5 (by decide) (mi 1 rfl) rfl dX2_keepPart_13 ?_
    refine z_iload g dX2_keepPart_16 0 rfl ?_
    refine z_lload_n g dX2_keepPart_18 4 rfl ?_
    refine z_lload g dX2_keepPart_19 5 rfl ?_
    refine z_ic0 g dX2_keepPart_21 ?_
    refine z_callSl (w' := [_, _, _]) (wr := [_, _, _]) g (k_X2_inLowestTerms l G k _ _ _) 3 gX2_keepPart_X2_inLowestTerms rfl rfl rfl nd_X2_inLowestTerms ⟨by decide, by decide⟩ [] [0, 1, 2] [0, 1, 2] rfl rfl rfl rfl (by decide) rfl rfl rfl rfl (Nat.le_of_ble_eq_true rfl) dX2_keepPart_22 ⟨by decide, by decide⟩ ?_
    refine z_last (w' := [_, _, _]) g 1 rfl (plc p0 p1).toNatClampNeg (plc_ok b9).1 (plc_ok b9).2 (by decide) dX2_keepPart_25 rfl ?_
    refine z_aload_n g dX2_keepPart_26 1 rfl ?_
    refine z_get g hX2 0 rfl rfl 6 (by decide) (mi 2 rfl) rfl dX2_keepPart_27 ?_
    refine z_iload g dX2_keepPart_30 0 rfl ?_
    refine z_lload_n g dX2_keepPart_32 4 rfl ?_
    refine z_lload g dX2_keepPart_33 5 rfl ?_
    refine z_ic1 g dX2_keepPart_35 ?_
    refine z_callSl (w' := [_, _, _]) (wr := [_, _, _]) g (k_X2_inLowestTerms l G k _ _ _) 3 gX2_keepPart_X2_inLowestTerms rfl rfl rfl nd_X2_inLowestTerms ⟨by decide, by decide⟩ [] [0, 1, 2] [0, 1, 2] rfl rfl rfl rfl (by decide) rfl rfl rfl rfl (Nat.le_of_ble_eq_true rfl) dX2_keepPart_36 ⟨by decide, by decide⟩ ?_
    refine z_last (w' := [_, _, _]) g 2 rfl (plc p0 p1).toNatClampNeg (plc_ok b9).1 (plc_ok b9).2 (by decide) dX2_keepPart_39 rfl ?_
    exact hret _ _ _ dX2_keepPart_40 ((by simp only [kpP, if_neg b9, reduceIte, Bool.false_eq_true] <;> rfl))
theorem nd_X2_keepPart : yX2_keepPart.cls = RX2 ∧ yX2_keepPart.cls ≠ "java/lang/invoke/MethodHandle" ∧ yX2_keepPart.cls ≠ "java/lang/invoke/VarHandle" ∧ (parseMethodDescriptor yX2_keepPart.desc).map (fun d => d.parameters.length) = some 4 := by decide +kernel
set_option maxHeartbeats 4000000 in
set_option maxRecDepth 100000 in
/-- multiplyOtherFactors(root) -/
theorem k_X2_multiplyOtherFactors (l : Launch) (G : va_G) (k : Nat → ClassId) (h0 a0 a1 a2 a3 a4 a5 a6 a7 a8 a9 a10 : Nat) (b10 : Nat) (m : Nat → Nat) (O : Nat → Int64) (p0 : Int32) (hm : ∀ j, j < 7 → m j ≤ 5) : ∀ sz, Met l yX2_multiplyOtherFactors wsX2_multiplyOtherFactors ({ frames := 3, cells := 0, slots := 0, locals := 64 }) (va_Pc [.ref h0, .int p0] (KP G k [(h0, .inr (2, [.ref a0, .ref a1, .ref a2, .ref a3, .ref a4, .ref a5, .ref a6, .ref a7, .ref a8, .ref a9, .ref a10])), (a4, .inl (k 1, 7, .inl (fun j => nI (m j)))), (a10, .inr (1, [.ref b10])), (b10, .inl (k 2, 7, .inr (.inl O)))] sz)) (va_Qv (fun (_ : Unit) => True) (KQ G [(h0, .inr (2, [.ref a0, .ref a1, .ref a2, .ref a3, .ref a4, .ref a5, .ref a6, .ref a7, .ref a8, .ref a9, .ref a10])), (a4, .inl (k 1, 7, .inl (fun j => nI (m j)))), (a10, .inr (1, [.ref b10])), (b10, .inl (k 2, 7, .inr (.inl (othF m p0 7))))] (va_A [(h0, .inr (2, [.ref a0, .ref a1, .ref a2, .ref a3, .ref a4, .ref a5, .ref a6, .ref a7, .ref a8, .ref a9, .ref a10])), (a4, .inl (k 1, 7, .inl (fun j => nI (m j)))), (a10, .inr (1, [.ref b10])), (b10, .inl (k 2, 7, .inr (.inl O)))] sz)) (va_A [(h0, .inr (2, [.ref a0, .ref a1, .ref a2, .ref a3, .ref a4, .ref a5, .ref a6, .ref a7, .ref a8, .ref a9, .ref a10])), (a4, .inl (k 1, 7, .inl (fun j => nI (m j)))), (a10, .inr (1, [.ref b10])), (b10, .inl (k 2, 7, .inr (.inl O)))] sz)) 0 0 (va_A [(h0, .inr (2, [.ref a0, .ref a1, .ref a2, .ref a3, .ref a4, .ref a5, .ref a6, .ref a7, .ref a8, .ref a9, .ref a10])), (a4, .inl (k 1, 7, .inl (fun j => nI (m j)))), (a10, .inr (1, [.ref b10])), (b10, .inl (k 2, 7, .inr (.inl O)))] sz) := by
  refine met_v 0 0 (lv0 := [(0, .ref h0), (1, .int p0)]) (own := RX2) (by decide) rfl rfl (Nat.le_of_ble_eq_true rfl) rfl (fun Z g hret => ?_)
  have hX2 : ∀ w ∈ u_ws RX2 TX2 11, w ∈ wsX2_multiplyOtherFactors := fun w h => List.mem_cons_of_mem _ (List.mem_append_left _ (List.mem_append_right _ (h)))
  refine z_aload_n g dX2_multiplyOtherFactors_0 0 rfl ?_
  refine z_get g hX2 0 rfl rfl 10 (by decide) (mi 1 rfl) rfl dX2_multiplyOtherFactors_1 ?_
  refine z_callVv (w' := [_, _, _, _]) (wr := [_, _]) g (k_X1_becomeOne l G k _ _ _) 0 gX2_multiplyOtherFactors_X1_becomeOne rfl rfl rfl nd_X1_becomeOne ⟨by decide, by decide⟩ 2 rfl rfl [2, 3] [0, 1] [0, 1, 2, 3] rfl rfl rfl rfl (by decide) rfl rfl rfl rfl (Nat.le_of_ble_eq_true rfl) dX2_multiplyOtherFactors_4 ⟨by decide, by decide⟩ ?_
  refine z_bi g (-3) dX2_multiplyOtherFactors_7 (by decide) ?_
  refine z_istore_n (lv' := [(2, .int _), (0, .ref _), (1, .int _)]) g dX2_multiplyOtherFactors_9 (by decide) rfl ?_
  have cut_10 : ∀ (N10 : Nat) (j : Nat), 7 - j < N10 → (j ≤ 7) → Z 0 0 [(h0, .inr (2, [.ref a0, .ref a1, .ref a2, .ref a3, .ref a4, .ref a5, .ref a6, .ref a7, .ref a8, .ref a9, .ref a10])), (a4, .inl (k 1, 7, .inl (fun j => nI (m j)))), (a10, .inr (1, [.ref b10])), (b10, .inl (k 2, 7, .inr (.inl (othF m p0 j))))] [(0, .ref h0), (1, .int p0), (2, .int (nI j - 3))] 10 [] := by
    intro N10
    induction N10 with
    | zero => intro j hms; exact absurd hms (Nat.not_lt_zero _)
    | succ N10 ih10 =>
      intro j hms10 hj
      refine z_iload_n g dX2_multiplyOtherFactors_10 2 rfl ?_
      refine z_ic3 g dX2_multiplyOtherFactors_11 ?_
      refine z_ic_gt g (tgt := 59) dX2_multiplyOtherFactors_12 (by decide) (fun b12 => ?_) (fun b12 => ?_)
      · obtain rfl := rt_gt hj b12
        exact hret _ _ _ dX2_multiplyOtherFactors_59 (rfl)
      · have hj7 := rt_le hj b12
        have cut_29 : ∀ (t : Nat), (t = othT m p0 j) → Z 0 0 [(h0, .inr (2, [.ref a0, .ref a1, .ref a2, .ref a3, .ref a4, .ref a5, .ref a6, .ref a7, .ref a8, .ref a9, .ref a10])), (a4, .inl (k 1, 7, .inl (fun j => nI (m j)))), (a10, .inr (1, [.ref b10])), (b10, .inl (k 2, 7, .inr (.inl (othF m p0 j))))] [(0, .ref h0), (1, .int p0), (2, .int (nI j - 3))] 29 [.int (nI t)] := by
          intro t ht
          have ht5 : t ≤ 5 := by rw [ht]; unfold othT; split; exact Nat.zero_le _; exact hm j (by omega)
          refine z_istore_n (lv' := [(3, .int _), (0, .ref _), (1, .int _), (2, .int _)]) g dX2_multiplyOtherFactors_29 (by decide) rfl ?_
          refine z_ic0 g dX2_multiplyOtherFactors_30 ?_
          refine z_istore (lv' := [(4, .int _), (3, .int _), (0, .ref _), (1, .int _), (2, .int _)]) g dX2_multiplyOtherFactors_31 (by decide) rfl ?_
          have cut_33 : ∀ (N33 : Nat) (i : Nat), t - i < N33 → (i ≤ t) → Z 0 0 [(h0, .inr (2, [.ref a0, .ref a1, .ref a2, .ref a3, .ref a4, .ref a5, .ref a6, .ref a7, .ref a8, .ref a9, .ref a10])), (a4, .inl (k 1, 7, .inl (fun j => nI (m j)))), (a10, .inr (1, [.ref b10])), (b10, .inl (k 2, 7, .inr (.inl (mulN (othF m p0 j) (nI j - 3) i))))] [(0, .ref h0), (1, .int p0), (2, .int (nI j - 3)), (3, .int (nI t)), (4, .int (nI i))] 33 [] := by
            intro N33
            induction N33 with
            | zero => intro i hms; exact absurd hms (Nat.not_lt_zero _)
            | succ N33 ih33 =>
              intro i hms33 hi
              refine z_iload g dX2_multiplyOtherFactors_33 4 rfl ?_
              refine z_iload_n g dX2_multiplyOtherFactors_35 3 rfl ?_
              refine z_n_ge g (a := i) (b := t) (tgt := 53) (by omega) (by omega) dX2_multiplyOtherFactors_36 (by decide) (fun b36 => ?_) (fun b36 => ?_)
              · obtain rfl : i = t := by omega
                subst ht
                refine z_iinc (lv' := [(2, .int _), (0, .ref _), (1, .int _), (3, .int _), (4, .int _)]) g (nI (j + 1) - 3) dX2_multiplyOtherFactors_53 2 rfl (rt_inc j) (by decide) rfl ?_
                refine z_goto g 10 dX2_multiplyOtherFactors_56 (by decide) ?_
                refine z_locs (lv' := [(0, .ref _), (1, .int _), (2, .int _)]) g [1, 2, 0] rfl ?_
                exact ih10 (j + 1) (by omega) (by omega)
              · refine z_aload_n g dX2_multiplyOtherFactors_39 0 rfl ?_
                refine z_get g hX2 0 rfl rfl 10 (by decide) (mi 1 rfl) rfl dX2_multiplyOtherFactors_40 ?_
                refine z_iload_n g dX2_multiplyOtherFactors_43 2 rfl ?_
                refine z_callVv (w' := [_, _, _, _]) (wr := [_, _]) g (k_X1_multiplyByFactorOf l G k _ _ _ _) 1 gX2_multiplyOtherFactors_X1_multiplyByFactorOf rfl rfl rfl nd_X1_multiplyByFactorOf ⟨by decide, by decide⟩ 2 rfl rfl [2, 3] [0, 1] [0, 1, 2, 3] rfl rfl rfl rfl (by decide) rfl rfl rfl rfl (Nat.le_of_ble_eq_true rfl) dX2_multiplyOtherFactors_44 ⟨by decide, by decide⟩ ?_
                refine z_inc (lv' := [(4, .int _), (0, .ref _), (1, .int _), (2, .int _), (3, .int _)]) g dX2_multiplyOtherFactors_47 4 rfl (by decide) rfl ?_
                refine z_goto g 33 dX2_multiplyOtherFactors_50 (by decide) ?_
                refine z_locs (lv' := [(0, .ref _), (1, .int _), (2, .int _), (3, .int _), (4, .int _)]) g [1, 2, 3, 4, 0] rfl ?_
                exact ih33 (i + 1) (by omega) (by omega)
          refine z_locs (lv' := [(0, .ref _), (1, .int _), (2, .int _), (3, .int _), (4, .int _)]) g [2, 3, 4, 1, 0] rfl ?_
          exact cut_33 _ 0 (Nat.lt_succ_self _) (Nat.zero_le _)
        refine z_iload_n g dX2_multiplyOtherFactors_15 2 rfl ?_
        refine z_iload_n g dX2_multiplyOtherFactors_16 1 rfl ?_
        refine z_ic_ne g (tgt := 24) dX2_multiplyOtherFactors_17 (by decide) (fun b17 => ?_) (fun b17 => ?_)
        · refine z_aload_n g dX2_multiplyOtherFactors_24 0 rfl ?_
          refine z_iload_n g dX2_multiplyOtherFactors_25 2 rfl ?_
          refine z_callVi (w' := [_, _, _, _]) (wr := [_, _]) g (k_X2_many l G k _ _ _ _ _ _ _ _ _ _ _ _ _ _) 1 gX2_multiplyOtherFactors_X2_many rfl rfl rfl nd_X2_many ⟨by decide, by decide⟩ 0 rfl rfl [0, 1] [2, 3] [2, 3, 0, 1] rfl rfl rfl rfl (by decide) rfl rfl rfl rfl (Nat.le_of_ble_eq_true rfl) dX2_multiplyOtherFactors_26 ⟨by decide, by decide⟩ ?_
          refine z_ti (y := nI (m j)) (by rw [manyP_rt hj7]) ?_
          exact cut_29 _ (by unfold othT; first | rw [if_pos b17] | rw [if_neg b17])
        · refine z_ic0 g dX2_multiplyOtherFactors_20 ?_
          refine z_goto g 29 dX2_multiplyOtherFactors_21 (by decide) ?_
          exact cut_29 _ (by unfold othT; first | rw [if_pos b17] | rw [if_neg b17])
  refine z_locs (lv' := [(0, .ref _), (1, .int _), (2, .int _)]) g [1, 2, 0] rfl ?_
  exact cut_10 _ 0 (Nat.lt_succ_self _) (by decide)
theorem nd_X2_multiplyOtherFactors : yX2_multiplyOtherFactors.cls = RX2 ∧ yX2_multiplyOtherFactors.cls ≠ "java/lang/invoke/MethodHandle" ∧ yX2_multiplyOtherFactors.cls ≠ "java/lang/invoke/VarHandle" ∧ (parseMethodDescriptor yX2_multiplyOtherFactors.desc).map (fun d => d.parameters.length) = some 1 := by decide +kernel
set_option maxHeartbeats 4000000 in
set_option maxRecDepth 100000 in
/-- makePartsOf(root) -/
theorem k_X2_makePartsOf (l : Launch) (G : va_G) (k : Nat → ClassId) (h0 a0 a1 a2 a3 a4 a5 a6 a7 a8 a9 a10 : Nat) (b1 b9 b10 : Nat) (m : Nat → Nat) (f A B R O : Nat → Int64) (p0 : Int32) (hm : ∀ j, j < 7 → m j ≤ 5) : ∀ sz, Met l yX2_makePartsOf wsX2_makePartsOf ({ frames := 4, cells := 0, slots := 0, locals := 98 }) (va_Pc [.ref h0, .int p0] (KP G k [(h0, .inr (2, [.ref a0, .ref a1, .ref a2, .ref a3, .ref a4, .ref a5, .ref a6, .ref a7, .ref a8, .ref a9, .ref a10])), (a1, .inr (1, [.ref b1])), (b1, .inl (k 2, 7, .inr (.inl f))), (a4, .inl (k 1, 7, .inl (fun j => nI (m j)))), (a5, .inl (k 2, 35, .inr (.inl A))), (a6, .inl (k 2, 35, .inr (.inl B))), (a9, .inr (1, [.ref b9])), (b9, .inl (k 2, 7, .inr (.inl R))), (a10, .inr (1, [.ref b10])), (b10, .inl (k 2, 7, .inr (.inl O)))] sz)) (va_Qv (fun (_ : Unit) => True) (KQ G [(h0, .inr (2, [.ref a0, .ref a1, .ref a2, .ref a3, .ref a4, .ref a5, .ref a6, .ref a7, .ref a8, .ref a9, .ref a10])), (a1, .inr (1, [.ref b1])), (b1, .inl (k 2, 7, .inr (.inl f))), (a4, .inl (k 1, 7, .inl (fun j => nI (m j)))), (a5, .inl (k 2, 35, .inr (.inl ((mkP m f p0 A B).2.1)))), (a6, .inl (k 2, 35, .inr (.inl ((mkP m f p0 A B).2.2)))), (a9, .inr (1, [.ref b9])), (b9, .inl (k 2, 7, .inr (.inl ((mkP m f p0 A B).1)))), (a10, .inr (1, [.ref b10])), (b10, .inl (k 2, 7, .inr (.inl (dvP (othF m p0 7) p0))))] (va_A [(h0, .inr (2, [.ref a0, .ref a1, .ref a2, .ref a3, .ref a4, .ref a5, .ref a6, .ref a7, .ref a8, .ref a9, .ref a10])), (a1, .inr (1, [.ref b1])), (b1, .inl (k 2, 7, .inr (.inl f))), (a4, .inl (k 1, 7, .inl (fun j => nI (m j)))), (a5, .inl (k 2, 35, .inr (.inl A))), (a6, .inl (k 2, 35, .inr (.inl B))), (a9, .inr (1, [.ref b9])), (b9, .inl (k 2, 7, .inr (.inl R))), (a10, .inr (1, [.ref b10])), (b10, .inl (k 2, 7, .inr (.inl O)))] sz)) (va_A [(h0, .inr (2, [.ref a0, .ref a1, .ref a2, .ref a3, .ref a4, .ref a5, .ref a6, .ref a7, .ref a8, .ref a9, .ref a10])), (a1, .inr (1, [.ref b1])), (b1, .inl (k 2, 7, .inr (.inl f))), (a4, .inl (k 1, 7, .inl (fun j => nI (m j)))), (a5, .inl (k 2, 35, .inr (.inl A))), (a6, .inl (k 2, 35, .inr (.inl B))), (a9, .inr (1, [.ref b9])), (b9, .inl (k 2, 7, .inr (.inl R))), (a10, .inr (1, [.ref b10])), (b10, .inl (k 2, 7, .inr (.inl O)))] sz)) 0 0 (va_A [(h0, .inr (2, [.ref a0, .ref a1, .ref a2, .ref a3, .ref a4, .ref a5, .ref a6, .ref a7, .ref a8, .ref a9, .ref a10])), (a1, .inr (1, [.ref b1])), (b1, .inl (k 2, 7, .inr (.inl f))), (a4, .inl (k 1, 7, .inl (fun j => nI (m j)))), (a5, .inl (k 2, 35, .inr (.inl A))), (a6, .inl (k 2, 35, .inr (.inl B))), (a9, .inr (1, [.ref b9])), (b9, .inl (k 2, 7, .inr (.inl R))), (a10, .inr (1, [.ref b10])), (b10, .inl (k 2, 7, .inr (.inl O)))] sz) := by
  refine met_v 0 0 (lv0 := [(0, .ref h0), (1, .int p0)]) (own := RX2) (by decide) rfl rfl (Nat.le_of_ble_eq_true rfl) rfl (fun Z g hret => ?_)
  have hX2 : ∀ w ∈ u_ws RX2 TX2 11, w ∈ wsX2_makePartsOf := fun w h => List.mem_cons_of_mem _ (List.mem_append_left _ (List.mem_append_right _ (h)))
  refine z_aload_n g dX2_makePartsOf_0 0 rfl ?_
  refine z_get g hX2 0 rfl rfl 9 (by decide) (mi 1 rfl) rfl dX2_makePartsOf_1 ?_
  refine z_aload_n g dX2_makePartsOf_4 0 rfl ?_
  refine z_get g hX2 0 rfl rfl 1 (by decide) (mi 2 rfl) rfl dX2_makePartsOf_5 ?_
  refine z_callVv (w' := [_, _, _, _, _, _, _, _, _, _]) (wr := [_, _, _, _, _, _]) g (k_X1_become l G k _ _ _ _ _ _) 1 gX2_makePartsOf_X1_become rfl rfl rfl nd_X1_become ⟨by decide, by decide⟩ 6 rfl rfl [6, 7, 1, 2] [0, 3, 4, 5, 8, 9] [0, 8, 9, 1, 2, 3, 6, 7, 4, 5] rfl rfl rfl rfl (by decide) rfl rfl rfl rfl (Nat.le_of_ble_eq_true rfl) dX2_makePartsOf_8 ⟨by decide, by decide⟩ ?_
  refine z_aload_n g dX2_makePartsOf_11 0 rfl ?_
  refine z_iload_n g dX2_makePartsOf_12 1 rfl ?_
  refine z_callVv (w' := [_, _, _, _, _, _, _, _, _, _]) (wr := [_, _, _, _, _, _]) g (k_X2_multiplyOtherFactors l G k _ _ _ _ _ _ _ _ _ _ _ _ _ _ _ _ (by assumption)) 1 gX2_makePartsOf_X2_multiplyOtherFactors rfl rfl rfl nd_X2_multiplyOtherFactors ⟨by decide, by decide⟩ 0 rfl rfl [0, 3, 8, 9] [1, 2, 4, 5, 6, 7] [6, 0, 1, 7, 2, 3, 4, 5, 8, 9] rfl rfl rfl rfl (by decide) rfl rfl rfl rfl (Nat.le_of_ble_eq_true rfl) dX2_makePartsOf_13 ⟨by decide, by decide⟩ ?_
  refine z_aload_n g dX2_makePartsOf_16 0 rfl ?_
  refine z_get g hX2 0 rfl rfl 10 (by decide) (mi 3 rfl) rfl dX2_makePartsOf_17 ?_
  refine z_iload_n g dX2_makePartsOf_20 1 rfl ?_
  refine z_callVl (w' := [_, _, _, _, _, _, _, _, _, _]) (wr := [_, _, _, _, _, _, _, _]) g (k_X1_divideByFactorOf l G k _ _ _ _) 1 gX2_makePartsOf_X1_divideByFactorOf rfl rfl rfl nd_X1_divideByFactorOf ⟨by decide, by decide⟩ 8 rfl rfl [8, 9] [0, 1, 2, 3, 4, 5, 6, 7] [0, 1, 2, 3, 4, 5, 6, 7, 8, 9] rfl rfl rfl rfl (by decide) rfl rfl rfl rfl (Nat.le_of_ble_eq_true rfl) dX2_makePartsOf_21 ⟨by decide, by decide⟩ ?_
  refine z_lstore_n (lv' := [(2, .long _), (0, .ref _), (1, .int _)]) g dX2_makePartsOf_24 (by decide) rfl ?_
  refine z_lc1 g dX2_makePartsOf_25 ?_
  refine z_lstore (lv' := [(4, .long _), (2, .long _), (0, .ref _), (1, .int _)]) g dX2_makePartsOf_26 (by decide) rfl ?_
  refine z_aload_n g dX2_makePartsOf_28 2 rfl ?_
  refine z_iload_n g dX2_makePartsOf_29 3 rfl ?_
  refine z_callVi (w' := [_, _, _, _, _, _, _, _, _, _]) (wr := [_, _, _, _, _, _, _, _]) g (k_X2_many l G k _ _ _ _ _ _ _ _ _ _ _ _ _ _) 1 gX2_makePartsOf_X2_many rfl rfl rfl nd_X2_many ⟨by decide, by decide⟩ 0 rfl rfl [0, 3] [1, 2, 4, 5, 6, 7, 8, 9] [8, 0, 1, 9, 2, 3, 4, 5, 6, 7] rfl rfl rfl rfl (by decide) rfl rfl rfl rfl (Nat.le_of_ble_eq_true rfl) dX2_makePartsOf_30 ⟨by decide, by decide⟩ ?_
  refine z_istore (lv' := [(6, .int _), (4, .long _), (2, .long _), (0, .ref _), (1, .int _)]) g dX2_makePartsOf_33 (by decide) rfl ?_
  have cut_35 : ∀ (N35 : Nat) (t : Nat) (s : Int64) (A' B' R' : Nat → Int64), t < N35 → (t ≤ 5) → (mkL (hrn (othF m p0 7) p0.toInt64 7) (dvP (othF m p0 7) p0) p0 t R' s A' B' = mkP m f p0 A B) → Z 0 0 [(h0, .inr (2, [.ref a0, .ref a1, .ref a2, .ref a3, .ref a4, .ref a5, .ref a6, .ref a7, .ref a8, .ref a9, .ref a10])), (a1, .inr (1, [.ref b1])), (b1, .inl (k 2, 7, .inr (.inl f))), (a4, .inl (k 1, 7, .inl (fun j => nI (m j)))), (a5, .inl (k 2, 35, .inr (.inl A'))), (a6, .inl (k 2, 35, .inr (.inl B'))), (a9, .inr (1, [.ref b9])), (b9, .inl (k 2, 7, .inr (.inl R'))), (a10, .inr (1, [.ref b10])), (b10, .inl (k 2, 7, .inr (.inl (dvP (othF m p0 7) p0))))] [(0, .ref h0), (1, .int p0), (2, .long (hrn (othF m p0 7) p0.toInt64 7)), (4, .long s), (6, .int (nI t))] 35 [] := by
    intro N35
    induction N35 with
    | zero => intro t s A' B' R' hms; exact absurd hms (Nat.not_lt_zero _)
    | succ N35 ih35 =>
      intro t s A' B' R' hms35 ht hI
      refine z_iload g dX2_makePartsOf_35 4 rfl ?_
      refine z_ic1 g dX2_makePartsOf_37 ?_
      refine z_n_lt g (a := t) (b := 1) (tgt := 89) (by omega) (by omega) dX2_makePartsOf_38 (by decide) (fun b38 => ?_) (fun b38 => ?_)
      · obtain rfl : t = 0 := by omega
        exact hret _ _ _ dX2_makePartsOf_89 ((by rw [← hI]; rfl))
      · obtain ⟨t, rfl⟩ : ∃ i, t = i + 1 := ⟨t - 1, by omega⟩
        refine z_aload_n g dX2_makePartsOf_41 0 rfl ?_
        refine z_get g hX2 0 rfl rfl 9 (by decide) (mi 1 rfl) rfl dX2_makePartsOf_42 ?_
        refine z_iload_n g dX2_makePartsOf_45 1 rfl ?_
        refine z_callVl (w' := [_, _, _, _, _, _, _, _, _, _]) (wr := [_, _, _, _, _, _, _, _]) g (k_X1_divideByFactorOf l G k _ _ _ _) 1 gX2_makePartsOf_X1_divideByFactorOf rfl rfl rfl nd_X1_divideByFactorOf ⟨by decide, by decide⟩ 6 rfl rfl [6, 7] [0, 1, 2, 3, 4, 5, 8, 9] [0, 1, 2, 3, 4, 5, 8, 9, 6, 7] rfl rfl rfl rfl (by decide) rfl rfl rfl rfl (Nat.le_of_ble_eq_true rfl) dX2_makePartsOf_46 ⟨by decide, by decide⟩ ?_
        refine z_lstore (lv' := [(7, .long _), (0, .ref _), (1, .int _), (2, .long _), (4, .long _), (6, .int _)]) g dX2_makePartsOf_49 (by decide) rfl ?_
        refine z_lload g dX2_makePartsOf_51 4 rfl ?_
        refine z_lload_n g dX2_makePartsOf_53 3 rfl ?_
        refine z_lmul g dX2_makePartsOf_54 ?_
        refine z_lstore (lv' := [(4, .long _), (7, .long _), (0, .ref _), (1, .int _), (2, .long _), (6, .int _)]) g dX2_makePartsOf_55 (by decide) rfl ?_
        refine z_aload_n g dX2_makePartsOf_57 2 rfl ?_
        refine z_iload_n g dX2_makePartsOf_58 3 rfl ?_
        refine z_iload g dX2_makePartsOf_59 5 rfl ?_
        refine z_lload g dX2_makePartsOf_61 1 rfl ?_
        refine z_lload g dX2_makePartsOf_63 0 rfl ?_
        refine z_callVv (w' := [_, _, _, _, _, _, _, _, _, _]) (wr := [_, _, _, _, _, _, _]) g (k_X2_keepPart l G k _ _ _ _ _ _ _ _ _ _ _ _ _ _ _ _ _ _) 4 gX2_makePartsOf_X2_keepPart rfl rfl rfl nd_X2_keepPart ⟨by decide, by decide⟩ 0 rfl rfl [0, 4, 5] [1, 2, 3, 6, 7, 8, 9] [7, 0, 1, 2, 8, 9, 3, 4, 5, 6] rfl rfl rfl rfl (by decide) rfl rfl rfl rfl (Nat.le_of_ble_eq_true rfl) dX2_makePartsOf_65 ⟨by decide, by decide⟩ ?_
        refine z_aload_n g dX2_makePartsOf_68 2 rfl ?_
        refine z_get g hX2 0 rfl rfl 9 (by decide) (mi 1 rfl) rfl dX2_makePartsOf_69 ?_
        refine z_lload_n g dX2_makePartsOf_72 4 rfl ?_
        refine z_lload g dX2_makePartsOf_73 1 rfl ?_
        refine z_lneg g dX2_makePartsOf_75 ?_
        refine z_aload_n g dX2_makePartsOf_76 2 rfl ?_
        refine z_get g hX2 0 rfl rfl 10 (by decide) (mi 3 rfl) rfl dX2_makePartsOf_77 ?_
        refine z_callVv (w' := [_, _, _, _, _, _, _, _, _, _]) (wr := [_, _, _, _, _, _]) g (k_X1_mix l G k _ _ _ _ _ _ _ _) 3 gX2_makePartsOf_X1_mix rfl rfl rfl nd_X1_mix ⟨by decide, by decide⟩ 6 rfl rfl [6, 7, 8, 9] [0, 1, 2, 3, 4, 5] [0, 1, 2, 3, 4, 5, 6, 7, 8, 9] rfl rfl rfl rfl (by decide) rfl rfl rfl rfl (Nat.le_of_ble_eq_true rfl) dX2_makePartsOf_80 ⟨by decide, by decide⟩ ?_
        refine z_dec (lv' := [(6, .int _), (4, .long _), (7, .long _), (0, .ref _), (1, .int _), (2, .long _)]) g dX2_makePartsOf_83 5 rfl (by decide) rfl ?_
        refine z_goto g 35 dX2_makePartsOf_86 (by decide) ?_
        refine z_locs (lv' := [(0, .ref _), (1, .int _), (2, .long _), (4, .long _), (6, .int _)]) g [3, 4, 5, 1, 0] rfl ?_
        exact ih35 _ _ _ _ _ (by omega) (by omega) hI
  refine z_locs (lv' := [(0, .ref _), (1, .int _), (2, .long _), (4, .long _), (6, .int _)]) g [3, 4, 2, 1, 0] rfl ?_
  exact cut_35 _ _ _ _ _ _ (Nat.lt_succ_self _) (manyP_le hm p0) rfl
theorem nd_X2_makePartsOf : yX2_makePartsOf.cls = RX2 ∧ yX2_makePartsOf.cls ≠ "java/lang/invoke/MethodHandle" ∧ yX2_makePartsOf.cls ≠ "java/lang/invoke/VarHandle" ∧ (parseMethodDescriptor yX2_makePartsOf.desc).map (fun d => d.parameters.length) = some 1 := by decide +kernel
set_option maxHeartbeats 4000000 in
set_option maxRecDepth 100000 in
/-- takeApart() -/
theorem k_X2_takeApart (l : Launch) (G : va_G) (k : Nat → ClassId) (h0 a0 a1 a2 a3 a4 a5 a6 a7 a8 a9 a10 : Nat) (b1 b2 b3 b9 b10 : Nat) (m : Nat → Nat) (f Be Qu A B R O : Nat → Int64) (hm : ∀ j, j < 7 → m j ≤ 5) : ∀ sz, Met l yX2_takeApart wsX2_takeApart ({ frames := 5, cells := 0, slots := 0, locals := 126 }) (va_Pc [.ref h0] (KP G k [(h0, .inr (2, [.ref a0, .ref a1, .ref a2, .ref a3, .ref a4, .ref a5, .ref a6, .ref a7, .ref a8, .ref a9, .ref a10])), (a1, .inr (1, [.ref b1])), (b1, .inl (k 2, 7, .inr (.inl f))), (a2, .inr (1, [.ref b2])), (b2, .inl (k 2, 7, .inr (.inl Be))), (a3, .inr (1, [.ref b3])), (b3, .inl (k 2, 7, .inr (.inl Qu))), (a4, .inl (k 1, 7, .inl (fun j => nI (m j)))), (a5, .inl (k 2, 35, .inr (.inl A))), (a6, .inl (k 2, 35, .inr (.inl B))), (a9, .inr (1, [.ref b9])), (b9, .inl (k 2, 7, .inr (.inl R))), (a10, .inr (1, [.ref b10])), (b10, .inl (k 2, 7, .inr (.inl O)))] sz)) (va_Qv (fun (_ : Unit) => True) (KQ G [(h0, .inr (2, [.ref a0, .ref a1, .ref a2, .ref a3, .ref a4, .ref a5, .ref a6, .ref a7, .ref a8, .ref a9, .ref a10])), (a1, .inr (1, [.ref b1])), (b1, .inl (k 2, 7, .inr (.inl f))), (a2, .inr (1, [.ref b2])), (b2, .inl (k 2, 7, .inr (.inl (belF m 7)))), (a3, .inr (1, [.ref b3])), (b3, .inl (k 2, 7, .inr (.inl (quoF m f 7)))), (a4, .inl (k 1, 7, .inl (fun j => nI (m j)))), (a5, .inl (k 2, 35, .inr (.inl ((tkS m f R O 7).1)))), (a6, .inl (k 2, 35, .inr (.inl ((tkS m f R O 7).2.1)))), (a9, .inr (1, [.ref b9])), (b9, .inl (k 2, 7, .inr (.inl ((tkS m f R O 7).2.2.1)))), (a10, .inr (1, [.ref b10])), (b10, .inl (k 2, 7, .inr (.inl ((tkS m f R O 7).2.2.2))))] (va_A [(h0, .inr (2, [.ref a0, .ref a1, .ref a2, .ref a3, .ref a4, .ref a5, .ref a6, .ref a7, .ref a8, .ref a9, .ref a10])), (a1, .inr (1, [.ref b1])), (b1, .inl (k 2, 7, .inr (.inl f))), (a2, .inr (1, [.ref b2])), (b2, .inl (k 2, 7, .inr (.inl Be))), (a3, .inr (1, [.ref b3])), (b3, .inl (k 2, 7, .inr (.inl Qu))), (a4, .inl (k 1, 7, .inl (fun j => nI (m j)))), (a5, .inl (k 2, 35, .inr (.inl A))), (a6, .inl (k 2, 35, .inr (.inl B))), (a9, .inr (1, [.ref b9])), (b9, .inl (k 2, 7, .inr (.inl R))), (a10, .inr (1, [.ref b10])), (b10, .inl (k 2, 7, .inr (.inl O)))] sz)) (va_A [(h0, .inr (2, [.ref a0, .ref a1, .ref a2, .ref a3, .ref a4, .ref a5, .ref a6, .ref a7, .ref a8, .ref a9, .ref a10])), (a1, .inr (1, [.ref b1])), (b1, .inl (k 2, 7, .inr (.inl f))), (a2, .inr (1, [.ref b2])), (b2, .inl (k 2, 7, .inr (.inl Be))), (a3, .inr (1, [.ref b3])), (b3, .inl (k 2, 7, .inr (.inl Qu))), (a4, .inl (k 1, 7, .inl (fun j => nI (m j)))), (a5, .inl (k 2, 35, .inr (.inl A))), (a6, .inl (k 2, 35, .inr (.inl B))), (a9, .inr (1, [.ref b9])), (b9, .inl (k 2, 7, .inr (.inl R))), (a10, .inr (1, [.ref b10])), (b10, .inl (k 2, 7, .inr (.inl O)))] sz)) 0 0 (va_A [(h0, .inr (2, [.ref a0, .ref a1, .ref a2, .ref a3, .ref a4, .ref a5, .ref a6, .ref a7, .ref a8, .ref a9, .ref a10])), (a1, .inr (1, [.ref b1])), (b1, .inl (k 2, 7, .inr (.inl f))), (a2, .inr (1, [.ref b2])), (b2, .inl (k 2, 7, .inr (.inl Be))), (a3, .inr (1, [.ref b3])), (b3, .inl (k 2, 7, .inr (.inl Qu))), (a4, .inl (k 1, 7, .inl (fun j => nI (m j)))), (a5, .inl (k 2, 35, .inr (.inl A))), (a6, .inl (k 2, 35, .inr (.inl B))), (a9, .inr (1, [.ref b9])), (b9, .inl (k 2, 7, .inr (.inl R))), (a10, .inr (1, [.ref b10])), (b10, .inl (k 2, 7, .inr (.inl O)))] sz) := by
  refine met_v 0 0 (lv0 := [(0, .ref h0)]) (own := RX2) (by decide) rfl rfl (Nat.le_of_ble_eq_true rfl) rfl (fun Z g hret => ?_)
  have hX2 : ∀ w ∈ u_ws RX2 TX2 11, w ∈ wsX2_takeApart := fun w h => List.mem_cons_of_mem _ (List.mem_append_left _ (List.mem_append_right _ (h)))
  refine z_aload_n g dX2_takeApart_0 0 rfl ?_
  refine z_get g hX2 0 rfl rfl 2 (by decide) (mi 1 rfl) rfl dX2_takeApart_1 ?_
  refine z_callVv (w' := [_, _, _, _, _, _, _, _, _, _, _, _, _, _]) (wr := [_, _, _, _, _, _, _, _, _, _, _, _]) g (k_X1_becomeOne l G k _ _ _) 0 gX2_takeApart_X1_becomeOne rfl rfl rfl nd_X1_becomeOne ⟨by decide, by decide⟩ 3 rfl rfl [3, 4] [0, 1, 2, 5, 6, 7, 8, 9, 10, 11, 12, 13] [0, 1, 2, 12, 13, 3, 4, 5, 6, 7, 8, 9, 10, 11] rfl rfl rfl rfl (by decide) rfl rfl rfl rfl (Nat.le_of_ble_eq_true rfl) dX2_takeApart_4 ⟨by decide, by decide⟩ ?_
  refine z_aload_n g dX2_takeApart_7 0 rfl ?_
  refine z_get g hX2 0 rfl rfl 3 (by decide) (mi 2 rfl) rfl dX2_takeApart_8 ?_
  refine z_aload_n g dX2_takeApart_11 0 rfl ?_
  refine z_get g hX2 0 rfl rfl 1 (by decide) (mi 3 rfl) rfl dX2_takeApart_12 ?_
  refine z_callVv (w' := [_, _, _, _, _, _, _, _, _, _, _, _, _, _]) (wr := [_, _, _, _, _, _, _, _, _, _]) g (k_X1_become l G k _ _ _ _ _ _) 1 gX2_takeApart_X1_become rfl rfl rfl nd_X1_become ⟨by decide, by decide⟩ 5 rfl rfl [5, 6, 1, 2] [0, 3, 4, 7, 8, 9, 10, 11, 12, 13] [0, 12, 13, 1, 2, 10, 11, 3, 4, 5, 6, 7, 8, 9] rfl rfl rfl rfl (by decide) rfl rfl rfl rfl (Nat.le_of_ble_eq_true rfl) dX2_takeApart_15 ⟨by decide, by decide⟩ ?_
  refine z_aload_n g dX2_takeApart_18 0 rfl ?_
  refine z_get g hX2 0 rfl rfl 5 (by decide) (mi 4 rfl) rfl dX2_takeApart_19 ?_
  refine z_lc0 g dX2_takeApart_22 ?_
  refine z_callSv (w' := [_, _, _, _, _, _, _, _, _, _, _, _, _, _]) (wr := [_, _, _, _, _, _, _, _, _, _, _, _, _]) g (k_J7_fill_d0a16 l G k _ _ _ _ (by decide)) 2 gX2_takeApart_J7_fill_d0a16 rfl rfl rfl nd_J7_fill_d0a16 ⟨by decide, by decide⟩ [8] [0, 1, 2, 3, 4, 5, 6, 7, 9, 10, 11, 12, 13] [0, 1, 2, 3, 4, 5, 6, 7, 13, 8, 9, 10, 11, 12] rfl rfl rfl rfl (by decide) rfl rfl rfl rfl (Nat.le_of_ble_eq_true rfl) dX2_takeApart_23 ⟨by decide, by decide⟩ ?_
  refine z_aload_n g dX2_takeApart_26 0 rfl ?_
  refine z_get g hX2 0 rfl rfl 6 (by decide) (mi 5 rfl) rfl dX2_takeApart_27 ?_
  refine z_lc1 g dX2_takeApart_30 ?_
  refine z_callSv (w' := [_, _, _, _, _, _, _, _, _, _, _, _, _, _]) (wr := [_, _, _, _, _, _, _, _, _, _, _, _, _]) g (k_J7_fill_d0a16 l G k _ _ _ _ (by decide)) 2 gX2_takeApart_J7_fill_d0a16 rfl rfl rfl nd_J7_fill_d0a16 ⟨by decide, by decide⟩ [9] [0, 1, 2, 3, 4, 5, 6, 7, 8, 10, 11, 12, 13] [0, 1, 2, 3, 4, 5, 6, 7, 8, 13, 9, 10, 11, 12] rfl rfl rfl rfl (by decide) rfl rfl rfl rfl (Nat.le_of_ble_eq_true rfl) dX2_takeApart_31 ⟨by decide, by decide⟩ ?_
  refine z_bi g (-3) dX2_takeApart_34 (by decide) ?_
  refine z_istore_n (lv' := [(1, .int _), (0, .ref _)]) g dX2_takeApart_36 (by decide) rfl ?_
  have cut_37 : ∀ (N37 : Nat) (j : Nat), 7 - j < N37 → (j ≤ 7) → Z 0 0 [(h0, .inr (2, [.ref a0, .ref a1, .ref a2, .ref a3, .ref a4, .ref a5, .ref a6, .ref a7, .ref a8, .ref a9, .ref a10])), (a1, .inr (1, [.ref b1])), (b1, .inl (k 2, 7, .inr (.inl f))), (a2, .inr (1, [.ref b2])), (b2, .inl (k 2, 7, .inr (.inl (belF m j)))), (a3, .inr (1, [.ref b3])), (b3, .inl (k 2, 7, .inr (.inl (quoF m f j)))), (a4, .inl (k 1, 7, .inl (fun j => nI (m j)))), (a5, .inl (k 2, 35, .inr (.inl ((tkS m f R O j).1)))), (a6, .inl (k 2, 35, .inr (.inl ((tkS m f R O j).2.1)))), (a9, .inr (1, [.ref b9])), (b9, .inl (k 2, 7, .inr (.inl ((tkS m f R O j).2.2.1)))), (a10, .inr (1, [.ref b10])), (b10, .inl (k 2, 7, .inr (.inl ((tkS m f R O j).2.2.2))))] [(0, .ref h0), (1, .int (nI j - 3))] 37 [] := by
    intro N37
    induction N37 with
    | zero => intro j hms; exact absurd hms (Nat.not_lt_zero _)
    | succ N37 ih37 =>
      intro j hms37 hj
      refine z_iload_n g dX2_takeApart_37 1 rfl ?_
      refine z_ic3 g dX2_takeApart_38 ?_
      refine z_ic_gt g (tgt := 89) dX2_takeApart_39 (by decide) (fun b39 => ?_) (fun b39 => ?_)
      · obtain rfl := rt_gt hj b39
        exact hret _ _ _ dX2_takeApart_89 (rfl)
      · have hj7 := rt_le hj b39
        have hm5 := hm j hj7
        refine z_aload_n g dX2_takeApart_42 0 rfl ?_
        refine z_iload_n g dX2_takeApart_43 1 rfl ?_
        refine z_callVi (w' := [_, _, _, _, _, _, _, _, _, _, _, _, _, _]) (wr := [_, _, _, _, _, _, _, _, _, _, _, _]) g (k_X2_many l G k _ _ _ _ _ _ _ _ _ _ _ _ _ _) 1 gX2_takeApart_X2_many rfl rfl rfl nd_X2_many ⟨by decide, by decide⟩ 0 rfl rfl [0, 7] [1, 2, 3, 4, 5, 6, 8, 9, 10, 11, 12, 13] [12, 0, 1, 2, 3, 4, 5, 13, 6, 7, 8, 9, 10, 11] rfl rfl rfl rfl (by decide) rfl rfl rfl rfl (Nat.le_of_ble_eq_true rfl) dX2_takeApart_44 ⟨by decide, by decide⟩ ?_
        refine z_ti (y := nI (m j)) (by rw [manyP_rt hj7]) ?_
        refine z_istore_n (lv' := [(2, .int _), (0, .ref _), (1, .int _)]) g dX2_takeApart_47 (by decide) rfl ?_
        refine z_ic0 g dX2_takeApart_48 ?_
        refine z_istore_n (lv' := [(3, .int _), (2, .int _), (0, .ref _), (1, .int _)]) g dX2_takeApart_49 (by decide) rfl ?_
        have cut_50 : ∀ (N50 : Nat) (i : Nat), m j - i < N50 → (i ≤ m j) → Z 0 0 [(h0, .inr (2, [.ref a0, .ref a1, .ref a2, .ref a3, .ref a4, .ref a5, .ref a6, .ref a7, .ref a8, .ref a9, .ref a10])), (a1, .inr (1, [.ref b1])), (b1, .inl (k 2, 7, .inr (.inl f))), (a2, .inr (1, [.ref b2])), (b2, .inl (k 2, 7, .inr (.inl (mulN (belF m j) (nI j - 3) i)))), (a3, .inr (1, [.ref b3])), (b3, .inl (k 2, 7, .inr (.inl (dvN (quoF m f j) (nI j - 3) i)))), (a4, .inl (k 1, 7, .inl (fun j => nI (m j)))), (a5, .inl (k 2, 35, .inr (.inl ((tkS m f R O j).1)))), (a6, .inl (k 2, 35, .inr (.inl ((tkS m f R O j).2.1)))), (a9, .inr (1, [.ref b9])), (b9, .inl (k 2, 7, .inr (.inl ((tkS m f R O j).2.2.1)))), (a10, .inr (1, [.ref b10])), (b10, .inl (k 2, 7, .inr (.inl ((tkS m f R O j).2.2.2))))] [(0, .ref h0), (1, .int (nI j - 3)), (2, .int (nI (m j))), (3, .int (nI i))] 50 [] := by
          intro N50
          induction N50 with
          | zero => intro i hms; exact absurd hms (Nat.not_lt_zero _)
          | succ N50 ih50 =>
            intro i hms50 hi
            refine z_iload_n g dX2_takeApart_50 3 rfl ?_
            refine z_iload_n g dX2_takeApart_51 2 rfl ?_
            refine z_n_ge g (a := i) (b := (m j)) (tgt := 78) (by omega) (by omega) dX2_takeApart_52 (by decide) (fun b52 => ?_) (fun b52 => ?_)
            · obtain rfl : i = m j := by omega
              refine z_aload_n g dX2_takeApart_78 0 rfl ?_
              refine z_iload_n g dX2_takeApart_79 1 rfl ?_
              refine z_callVv (w' := [_, _, _, _, _, _, _, _, _, _, _, _, _, _]) (wr := [_, _, _, _]) g (k_X2_makePartsOf l G k _ _ _ _ _ _ _ _ _ _ _ _ _ _ _ _ _ _ _ _ _ _ (by assumption)) 1 gX2_takeApart_X2_makePartsOf rfl rfl rfl nd_X2_makePartsOf ⟨by decide, by decide⟩ 0 rfl rfl [0, 1, 2, 7, 8, 9, 10, 11, 12, 13] [3, 4, 5, 6] [4, 5, 6, 0, 1, 2, 3, 7, 8, 9, 10, 11, 12, 13] rfl rfl rfl rfl (by decide) rfl rfl rfl rfl (Nat.le_of_ble_eq_true rfl) dX2_takeApart_80 ⟨by decide, by decide⟩ ?_
              refine z_iinc (lv' := [(1, .int _), (0, .ref _), (2, .int _), (3, .int _)]) g (nI (j + 1) - 3) dX2_takeApart_83 1 rfl (rt_inc j) (by decide) rfl ?_
              refine z_goto g 37 dX2_takeApart_86 (by decide) ?_
              refine z_locs (lv' := [(0, .ref _), (1, .int _)]) g [1, 0] rfl ?_
              exact ih37 (j + 1) (by omega) (by omega)
            · refine z_aload_n g dX2_takeApart_55 0 rfl ?_
              refine z_get g hX2 0 rfl rfl 2 (by decide) (mi 1 rfl) rfl dX2_takeApart_56 ?_
              refine z_iload_n g dX2_takeApart_59 1 rfl ?_
              refine z_callVv (w' := [_, _, _, _, _, _, _, _, _, _, _, _, _, _]) (wr := [_, _, _, _, _, _, _, _, _, _, _, _]) g (k_X1_multiplyByFactorOf l G k _ _ _ _) 1 gX2_takeApart_X1_multiplyByFactorOf rfl rfl rfl nd_X1_multiplyByFactorOf ⟨by decide, by decide⟩ 3 rfl rfl [3, 4] [0, 1, 2, 5, 6, 7, 8, 9, 10, 11, 12, 13] [0, 1, 2, 12, 13, 3, 4, 5, 6, 7, 8, 9, 10, 11] rfl rfl rfl rfl (by decide) rfl rfl rfl rfl (Nat.le_of_ble_eq_true rfl) dX2_takeApart_60 ⟨by decide, by decide⟩ ?_
              refine z_aload_n g dX2_takeApart_63 0 rfl ?_
              refine z_get g hX2 0 rfl rfl 3 (by decide) (mi 2 rfl) rfl dX2_takeApart_64 ?_
              refine z_iload_n g dX2_takeApart_67 1 rfl ?_
              refine z_callVl (w' := [_, _, _, _, _, _, _, _, _, _, _, _, _, _]) (wr := [_, _, _, _, _, _, _, _, _, _, _, _]) g (k_X1_divideByFactorOf l G k _ _ _ _) 1 gX2_takeApart_X1_divideByFactorOf rfl rfl rfl nd_X1_divideByFactorOf ⟨by decide, by decide⟩ 5 rfl rfl [5, 6] [0, 1, 2, 3, 4, 7, 8, 9, 10, 11, 12, 13] [0, 1, 2, 3, 4, 12, 13, 5, 6, 7, 8, 9, 10, 11] rfl rfl rfl rfl (by decide) rfl rfl rfl rfl (Nat.le_of_ble_eq_true rfl) dX2_takeApart_68 ⟨by decide, by decide⟩ ?_
              refine z_pop2 g dX2_takeApart_71 rfl ?_
              refine z_inc (lv' := [(3, .int _), (0, .ref _), (1, .int _), (2, .int _)]) g dX2_takeApart_72 3 rfl (by decide) rfl ?_
              refine z_goto g 50 dX2_takeApart_75 (by decide) ?_
              refine z_locs (lv' := [(0, .ref _), (1, .int _), (2, .int _), (3, .int _)]) g [1, 2, 3, 0] rfl ?_
              exact ih50 (i + 1) (by omega) (by omega)
        refine z_locs (lv' := [(0, .ref _), (1, .int _), (2, .int _), (3, .int _)]) g [2, 3, 1, 0] rfl ?_
        exact cut_50 _ 0 (Nat.lt_succ_self _) (Nat.zero_le _)
  refine z_locs (lv' := [(0, .ref _), (1, .int _)]) g [1, 0] rfl ?_
  exact cut_37 _ 0 (Nat.lt_succ_self _) (by decide)
theorem nd_X2_takeApart : yX2_takeApart.cls = RX2 ∧ yX2_takeApart.cls ≠ "java/lang/invoke/MethodHandle" ∧ yX2_takeApart.cls ≠ "java/lang/invoke/VarHandle" ∧ (parseMethodDescriptor yX2_takeApart.desc).map (fun d => d.parameters.length) = some 0 := by decide +kernel
end
section
/-! reading: where the draft f (n characters) stands at i -/
theorem takesN_le {f : Nat → Int32} {n i : Nat} {c : Int32} (h : i ≤ n) : takesN f n i c ≤ n := by
  unfold takesN
  split
  · next e =>
    have h2 : ¬ n ≤ i := fun h2 => by unfold takesP at e; rw [if_pos h2] at e; cases e
    omega
  · exact h
theorem dgN_le {f : Nat → Int32} {n i : Nat} {lo hi : Int32} (hlo : (-1 : Int32) < lo) (h : i ≤ n) : dgN f n i lo hi ≤ n := by
  unfold dgN
  split
  · next e =>
    by_cases h2 : n ≤ i
    · unfold dgP dgD at e
      rw [if_pos h2, if_pos hlo] at e
      cases e
    · omega
  · exact h
def rnV (f : Nat → Int32) (n i : Nat) : Int32 :=
  if 0 ≤ dgV f n i 0 9 then (if 0 ≤ dgV f n (dgN f n i 0 9) 0 9 then 10 * dgV f n i 0 9 + dgV f n (dgN f n i 0 9) 0 9 else dgV f n i 0 9) else dgV f n i 0 9
def rnN (f : Nat → Int32) (n i : Nat) : Nat := if 0 ≤ dgV f n i 0 9 then dgN f n (dgN f n i 0 9) 0 9 else dgN f n i 0 9
theorem rnN_le {f : Nat → Int32} {n i : Nat} (h : i ≤ n) : rnN f n i ≤ n := by
  unfold rnN
  split
  · exact dgN_le (by decide) (dgN_le (by decide) h)
  · exact dgN_le (by decide) h
def rpV (f : Nat → Int32) (n i : Nat) : Int32 := if takesP f n i 94 then dgV f n (takesN f n i 94) 0 6 else 1
def rpN (f : Nat → Int32) (n i : Nat) : Nat := if takesP f n i 94 then dgN f n (takesN f n i 94) 0 6 else takesN f n i 94
theorem rpN_le {f : Nat → Int32} {n i : Nat} (h : i ≤ n) : rpN f n i ≤ n := by
  unfold rpN
  split
  · exact dgN_le (by decide) (takesN_le h)
  · exact takesN_le h
def sgOK (f : Nat → Int32) (n i : Nat) (p0 : Int32) : Bool := if takesP f n i 45 then true else if takesP f n (takesN f n i 45) 43 then true else if p0 = 0 then false else true
def sgN (f : Nat → Int32) (n i : Nat) : Nat := if takesP f n i 45 then takesN f n i 45 else takesN f n (takesN f n i 45) 43
theorem sgN_le {f : Nat → Int32} {n i : Nat} (h : i ≤ n) : sgN f n i ≤ n := by
  unfold sgN
  split
  · exact takesN_le h
  · exact takesN_le (takesN_le h)
def rtC (minus : Bool) (num : Int32) (hasX : Bool) (pw : Int32) (i : Nat) (T : Nat → Int64) : Bool × Nat × (Nat → Int64) :=
  if 0 ≤ num then (if 0 ≤ pw then (true, i, addP T (if minus then (-num).toInt64 else num.toInt64) pw) else (false, i, T))
  else if hasX then (if 0 ≤ pw then (true, i, addP T (if minus then (-(1 : Int32)).toInt64 else (1 : Int32).toInt64) pw) else (false, i, T)) else (false, i, T)
def rtB (f : Nat → Int32) (n : Nat) (minus : Bool) (num : Int32) (hasX : Bool) (i : Nat) (T : Nat → Int64) : Bool × Nat × (Nat → Int64) :=
  rtC minus num hasX (if hasX then rpV f n i else 0) (if hasX then rpN f n i else i) T
def rtA (f : Nat → Int32) (n : Nat) (minus : Bool) (i : Nat) (T : Nat → Int64) : Bool × Nat × (Nat → Int64) :=
  rtB f n minus (rnV f n i) (takesP f n (rnN f n i) 120) (takesN f n (rnN f n i) 120) T
def rtS (f : Nat → Int32) (n i : Nat) (p0 : Int32) (T : Nat → Int64) : Bool × Nat × (Nat → Int64) :=
  if sgOK f n i p0 then rtA f n (takesP f n i 45) (sgN f n i) T else (false, sgN f n i, T)
theorem rtC_n (minus : Bool) (num : Int32) (hasX : Bool) (pw : Int32) (i : Nat) (T : Nat → Int64) : (rtC minus num hasX pw i T).2.1 = i := by
  unfold rtC
  repeat' split
  all_goals rfl
theorem rtA_le {f : Nat → Int32} {n i : Nat} {minus : Bool} {T : Nat → Int64} (h : i ≤ n) : (rtA f n minus i T).2.1 ≤ n := by
  unfold rtA rtB
  rw [rtC_n]
  split
  · exact rpN_le (takesN_le (rnN_le h))
  · exact takesN_le (rnN_le h)
theorem rtS_le {f : Nat → Int32} {n i : Nat} {p0 : Int32} {T : Nat → Int64} (h : i ≤ n) : (rtS f n i p0 T).2.1 ≤ n := by
  unfold rtS
  split
  · exact rtA_le (sgN_le h)
  · exact sgN_le h
def rlS (f : Nat → Int32) (n : Nat) : Nat → Bool → Nat → (Nat → Int64) → Bool × Nat × (Nat → Int64)
  | 0, g, i, T => (g, i, T)
  | c + 1, g, i, T => if g then (if n ≤ i then (g, i, T) else rlS f n c (rtS f n i 0 T).1 (rtS f n i 0 T).2.1 (rtS f n i 0 T).2.2) else (g, i, T)
def rpS (f : Nat → Int32) (n i : Nat) : Bool × Nat × (Nat → Int64) := rlS f n 29 (rtS f n i 1 (fun _ => 0)).1 (rtS f n i 1 (fun _ => 0)).2.1 (rtS f n i 1 (fun _ => 0)).2.2
def rpB (n : Nat) (r : Bool × Nat × (Nat → Int64)) : Bool := if r.1 then (if n ≤ r.2.1 then true else false) else false
/-! products -/
def rrV (f : Nat → Int32) (n i : Nat) : Int32 :=
  if takesP f n i 45 then (if 0 ≤ dgV f n (takesN f n i 45) 1 3 then dgV f n (takesN f n i 45) 1 3 else 4)
  else if takesP f n (takesN f n i 45) 43 then (if 0 ≤ dgV f n (takesN f n (takesN f n i 45) 43) 1 3 then -dgV f n (takesN f n (takesN f n i 45) 43) 1 3 else 4) else 0
def rrN (f : Nat → Int32) (n i : Nat) : Nat :=
  if takesP f n i 45 then dgN f n (takesN f n i 45) 1 3
  else if takesP f n (takesN f n i 45) 43 then dgN f n (takesN f n (takesN f n i 45) 43) 1 3 else takesN f n (takesN f n i 45) 43
theorem rrN_le {f : Nat → Int32} {n i : Nat} (h : i ≤ n) : rrN f n i ≤ n := by
  unfold rrN
  repeat' split
  · exact dgN_le (by decide) (takesN_le h)
  · exact dgN_le (by decide) (takesN_le (takesN_le h))
  · exact takesN_le (takesN_le h)
/-- behind ')': perhaps ^ and a digit -/
def rfC (f : Nat → Int32) (n : Nat) (r : Int32) (i : Nat) (T : Nat → Int32) : Bool × Nat × (Nat → Int32) :=
  if takesP f n i 94 then (if 0 ≤ dgV f n (takesN f n i 94) 1 3 then (true, dgN f n (takesN f n i 94) 1 3, upd T (rix r) (T (rix r) + dgV f n (takesN f n i 94) 1 3)) else (false, dgN f n (takesN f n i 94) 1 3, T))
  else (true, takesN f n i 94, upd T (rix r) (T (rix r) + 1))
def rfB (f : Nat → Int32) (n i : Nat) (T : Nat → Int32) : Bool × Nat × (Nat → Int32) :=
  if poss (rrV f n i) then (if takesP f n (rrN f n i) 41 then rfC f n (rrV f n i) (takesN f n (rrN f n i) 41) T else (false, takesN f n (rrN f n i) 41, T)) else (false, rrN f n i, T)
def rfS (f : Nat → Int32) (n i : Nat) (T : Nat → Int32) : Bool × Nat × (Nat → Int32) :=
  if takesP f n i 40 then (if takesP f n (takesN f n i 40) 120 then rfB f n (takesN f n (takesN f n i 40) 120) T else (false, takesN f n (takesN f n i 40) 120, T)) else (false, takesN f n i 40, T)
theorem rfC_le {f : Nat → Int32} {n i : Nat} {r : Int32} {T : Nat → Int32} (h : i ≤ n) : (rfC f n r i T).2.1 ≤ n := by
  unfold rfC
  repeat' split
  · exact dgN_le (by decide) (takesN_le h)
  · exact dgN_le (by decide) (takesN_le h)
  · exact takesN_le h
theorem rfS_le {f : Nat → Int32} {n i : Nat} {T : Nat → Int32} (h : i ≤ n) : (rfS f n i T).2.1 ≤ n := by
  unfold rfS rfB
  repeat' split
  · exact rfC_le (takesN_le (rrN_le (takesN_le (takesN_le h))))
  · exact takesN_le (rrN_le (takesN_le (takesN_le h)))
  · exact rrN_le (takesN_le (takesN_le h))
  · exact takesN_le (takesN_le h)
  · exact takesN_le h
def flS (f : Nat → Int32) (n : Nat) : Nat → Bool → Nat → (Nat → Int32) → Bool × Nat × (Nat → Int32)
  | 0, g, i, T => (g, i, T)
  | c + 1, g, i, T => if g then (if n ≤ i then (g, i, T) else flS f n c (rfS f n i T).1 (rfS f n i T).2.1 (rfS f n i T).2.2) else (g, i, T)
def fpS (f : Nat → Int32) (n i : Nat) : Bool × Nat × (Nat → Int32) := flS f n 29 (rfS f n i (fun _ => 0)).1 (rfS f n i (fun _ => 0)).2.1 (rfS f n i (fun _ => 0)).2.2
def fpB (n : Nat) (r : Bool × Nat × (Nat → Int32)) : Bool := if r.1 then (if n ≤ r.2.1 then true else false) else false
def sumP (T : Nat → Int32) : Nat → Int32
  | 0 => 0
  | j + 1 => sumP T j + T j
set_option maxHeartbeats 4000000 in
set_option maxRecDepth 100000 in
/-- readNumber() -/
theorem k_X2_readNumber (l : Launch) (G : va_G) (k : Nat → ClassId) (h0 a0 a1 a2 a3 a4 a5 a6 a7 a8 a9 a10 : Nat) (c0 : Nat) (f : Nat → Int32) (n i : Nat) (hn : n ≤ 30) (hi : i ≤ n) : ∀ sz, Met l yX2_readNumber wsX2_readNumber ({ frames := 2, cells := 0, slots := 0, locals := 43 }) (va_Pc [.ref h0] (KP G k [(h0, .inr (2, [.ref a0, .ref a1, .ref a2, .ref a3, .ref a4, .ref a5, .ref a6, .ref a7, .ref a8, .ref a9, .ref a10])), (a0, .inr (0, [.ref c0, .int (nI n), .int (nI i)])), (c0, .inl (k 0, 30, .inl f))] sz)) (va_Qi (fun r (_ : Unit) => r = rnV f n i) (KQ G [(h0, .inr (2, [.ref a0, .ref a1, .ref a2, .ref a3, .ref a4, .ref a5, .ref a6, .ref a7, .ref a8, .ref a9, .ref a10])), (a0, .inr (0, [.ref c0, .int (nI n), .int (nI (rnN f n i))])), (c0, .inl (k 0, 30, .inl f))] (va_A [(h0, .inr (2, [.ref a0, .ref a1, .ref a2, .ref a3, .ref a4, .ref a5, .ref a6, .ref a7, .ref a8, .ref a9, .ref a10])), (a0, .inr (0, [.ref c0, .int (nI n), .int (nI i)])), (c0, .inl (k 0, 30, .inl f))] sz)) (va_A [(h0, .inr (2, [.ref a0, .ref a1, .ref a2, .ref a3, .ref a4, .ref a5, .ref a6, .ref a7, .ref a8, .ref a9, .ref a10])), (a0, .inr (0, [.ref c0, .int (nI n), .int (nI i)])), (c0, .inl (k 0, 30, .inl f))] sz)) 0 0 (va_A [(h0, .inr (2, [.ref a0, .ref a1, .ref a2, .ref a3, .ref a4, .ref a5, .ref a6, .ref a7, .ref a8, .ref a9, .ref a10])), (a0, .inr (0, [.ref c0, .int (nI n), .int (nI i)])), (c0, .inl (k 0, 30, .inl f))] sz) := by
  refine met_i 0 0 (lv0 := [(0, .ref h0)]) (own := RX2) (by decide) rfl rfl (Nat.le_of_ble_eq_true rfl) rfl (fun Z g hret => ?_)
  have hX2 : ∀ w ∈ u_ws RX2 TX2 11, w ∈ wsX2_readNumber := fun w h => List.mem_cons_of_mem _ (List.mem_append_left _ (List.mem_append_right _ (h)))
  refine z_aload_n g dX2_readNumber_0 0 rfl ?_
  refine z_get g hX2 0 rfl rfl 0 (by decide) (mi 1 rfl) rfl dX2_readNumber_1 ?_
  refine z_ic0 g dX2_readNumber_4 ?_
  refine z_bi g 9 dX2_readNumber_5 (by decide) ?_
  refine z_callVi (w' := [_, _, _]) (wr := [_]) g (k_X0_takeDigit l G k _ _ _ _ _ _ _ (by assumption) (by repeat (first | assumption | apply takesN_le | apply rnN_le | apply rpN_le | apply sgN_le | apply rrN_le | (apply dgN_le (by decide)) | apply rtS_le | apply rfS_le))) 2 gX2_readNumber_X0_takeDigit rfl rfl rfl nd_X0_takeDigit ⟨by decide, by decide⟩ 1 rfl rfl [1, 2] [0] [0, 1, 2] rfl rfl rfl rfl (by decide) rfl rfl rfl rfl (Nat.le_of_ble_eq_true rfl) dX2_readNumber_7 ⟨by decide, by decide⟩ ?_
  refine z_istore_n (lv' := [(1, .int _), (0, .ref _)]) g dX2_readNumber_10 (by decide) rfl ?_
  refine z_iload_n g dX2_readNumber_11 0 rfl ?_
  refine z_if_ge g (tgt := 19) dX2_readNumber_12 (by decide) (fun b12 => ?_) (fun b12 => ?_)
  · refine z_aload_n g dX2_readNumber_19 1 rfl ?_
    refine z_get g hX2 0 rfl rfl 0 (by decide) (mi 1 rfl) rfl dX2_readNumber_20 ?_
    refine z_ic0 g dX2_readNumber_23 ?_
    refine z_bi g 9 dX2_readNumber_24 (by decide) ?_
    refine z_callVi (w' := [_, _, _]) (wr := [_]) g (k_X0_takeDigit l G k _ _ _ _ _ _ _ (by assumption) (by repeat (first | assumption | apply takesN_le | apply rnN_le | apply rpN_le | apply sgN_le | apply rrN_le | (apply dgN_le (by decide)) | apply rtS_le | apply rfS_le))) 2 gX2_readNumber_X0_takeDigit rfl rfl rfl nd_X0_takeDigit ⟨by decide, by decide⟩ 1 rfl rfl [1, 2] [0] [0, 1, 2] rfl rfl rfl rfl (by decide) rfl rfl rfl rfl (Nat.le_of_ble_eq_true rfl) dX2_readNumber_26 ⟨by decide, by decide⟩ ?_
    refine z_istore_n (lv' := [(2, .int _), (1, .int _), (0, .ref _)]) g dX2_readNumber_29 (by decide) rfl ?_
    refine z_iload_n g dX2_readNumber_30 0 rfl ?_
    refine z_if_ge g (tgt := 38) dX2_readNumber_31 (by decide) (fun b31 => ?_) (fun b31 => ?_)
    · refine z_bi g 10 dX2_readNumber_38 (by decide) ?_
      refine z_iload_n g dX2_readNumber_40 1 rfl ?_
      refine z_imul g dX2_readNumber_41 ?_
      refine z_iload_n g dX2_readNumber_42 0 rfl ?_
      refine z_iadd g dX2_readNumber_43 ?_
      exact hret _ _ _ _ dX2_readNumber_44 ((by simp only [rnV, if_pos b12, if_pos b31, reduceIte, Bool.false_eq_true] <;> rfl)) ((by simp only [rnN, if_pos b12, if_pos b31, reduceIte, Bool.false_eq_true] <;> rfl))
    · refine z_iload_n g dX2_readNumber_34 1 rfl ?_
      refine z_goto g 44 dX2_readNumber_35 (by decide) ?_
      exact hret _ _ _ _ dX2_readNumber_44 ((by simp only [rnV, if_pos b12, if_neg b31, reduceIte, Bool.false_eq_true] <;> rfl)) ((by simp only [rnN, if_pos b12, if_neg b31, reduceIte, Bool.false_eq_true] <;> rfl))
  · refine z_icm1 g dX2_readNumber_15 ?_
    refine z_goto g 29 dX2_readNumber_16 (by decide) ?_
    refine z_istore_n (lv' := [(2, .int _), (1, .int _), (0, .ref _)]) g dX2_readNumber_29 (by decide) rfl ?_
    refine z_iload_n g dX2_readNumber_30 0 rfl ?_
    refine z_if_ge g (tgt := 38) dX2_readNumber_31 (by decide) (fun b31 => ?_) (fun b31 => ?_)
    · exact absurd b31 (by decide)
    · refine z_iload_n g dX2_readNumber_34 1 rfl ?_
      refine z_goto g 44 dX2_readNumber_35 (by decide) ?_
      exact hret _ _ _ _ dX2_readNumber_44 ((by simp only [rnV, if_neg b12, if_neg b31, reduceIte, Bool.false_eq_true] <;> rfl)) ((by simp only [rnN, if_neg b12, if_neg b31, reduceIte, Bool.false_eq_true] <;> rfl))
theorem nd_X2_readNumber : yX2_readNumber.cls = RX2 ∧ yX2_readNumber.cls ≠ "java/lang/invoke/MethodHandle" ∧ yX2_readNumber.cls ≠ "java/lang/invoke/VarHandle" ∧ (parseMethodDescriptor yX2_readNumber.desc).map (fun d => d.parameters.length) = some 0 := by decide +kernel
set_option maxHeartbeats 4000000 in
set_option maxRecDepth 100000 in
/-- readPowerOfX() -/
theorem k_X2_readPowerOfX (l : Launch) (G : va_G) (k : Nat → ClassId) (h0 a0 a1 a2 a3 a4 a5 a6 a7 a8 a9 a10 : Nat) (c0 : Nat) (f : Nat → Int32) (n i : Nat) (hn : n ≤ 30) (hi : i ≤ n) : ∀ sz, Met l yX2_readPowerOfX wsX2_readPowerOfX ({ frames := 2, cells := 0, slots := 0, locals := 43 }) (va_Pc [.ref h0] (KP G k [(h0, .inr (2, [.ref a0, .ref a1, .ref a2, .ref a3, .ref a4, .ref a5, .ref a6, .ref a7, .ref a8, .ref a9, .ref a10])), (a0, .inr (0, [.ref c0, .int (nI n), .int (nI i)])), (c0, .inl (k 0, 30, .inl f))] sz)) (va_Qi (fun r (_ : Unit) => r = rpV f n i) (KQ G [(h0, .inr (2, [.ref a0, .ref a1, .ref a2, .ref a3, .ref a4, .ref a5, .ref a6, .ref a7, .ref a8, .ref a9, .ref a10])), (a0, .inr (0, [.ref c0, .int (nI n), .int (nI (rpN f n i))])), (c0, .inl (k 0, 30, .inl f))] (va_A [(h0, .inr (2, [.ref a0, .ref a1, .ref a2, .ref a3, .ref a4, .ref a5, .ref a6, .ref a7, .ref a8, .ref a9, .ref a10])), (a0, .inr (0, [.ref c0, .int (nI n), .int (nI i)])), (c0, .inl (k 0, 30, .inl f))] sz)) (va_A [(h0, .inr (2, [.ref a0, .ref a1, .ref a2, .ref a3, .ref a4, .ref a5, .ref a6, .ref a7, .ref a8, .ref a9, .ref a10])), (a0, .inr (0, [.ref c0, .int (nI n), .int (nI i)])), (c0, .inl (k 0, 30, .inl f))] sz)) 0 0 (va_A [(h0, .inr (2, [.ref a0, .ref a1, .ref a2, .ref a3, .ref a4, .ref a5, .ref a6, .ref a7, .ref a8, .ref a9, .ref a10])), (a0, .inr (0, [.ref c0, .int (nI n), .int (nI i)])), (c0, .inl (k 0, 30, .inl f))] sz) := by
  refine met_i 0 0 (lv0 := [(0, .ref h0)]) (own := RX2) (by decide) rfl rfl (Nat.le_of_ble_eq_true rfl) rfl (fun Z g hret => ?_)
  have hX2 : ∀ w ∈ u_ws RX2 TX2 11, w ∈ wsX2_readPowerOfX := fun w h => List.mem_cons_of_mem _ (List.mem_append_left _ (List.mem_append_right _ (h)))
  refine z_aload_n g dX2_readPowerOfX_0 0 rfl ?_
  refine z_get g hX2 0 rfl rfl 0 (by decide) (mi 1 rfl) rfl dX2_readPowerOfX_1 ?_
  refine z_bi g 94 dX2_readPowerOfX_4 (by decide) ?_
  refine z_callVi (w' := [_, _, _]) (wr := [_]) g (k_X0_takes l G k _ _ _ _ _ _ (by assumption) (by repeat (first | assumption | apply takesN_le | apply rnN_le | apply rpN_le | apply sgN_le | apply rrN_le | (apply dgN_le (by decide)) | apply rtS_le | apply rfS_le))) 1 gX2_readPowerOfX_X0_takes rfl rfl rfl nd_X0_takes ⟨by decide, by decide⟩ 1 rfl rfl [1, 2] [0] [0, 1, 2] rfl rfl rfl rfl (by decide) rfl rfl rfl rfl (Nat.le_of_ble_eq_true rfl) dX2_readPowerOfX_6 ⟨by decide, by decide⟩ ?_
  refine z_bf_eq g (tgt := 25) dX2_readPowerOfX_9 (by decide) (fun b9 => ?_) (fun b9 => ?_)
  · refine z_ic1 g dX2_readPowerOfX_25 ?_
    exact hret _ _ _ _ dX2_readPowerOfX_26 ((by simp only [rpV, if_neg (Bool.eq_false_iff.mp b9), reduceIte, Bool.false_eq_true] <;> rfl)) ((by simp only [rpN, if_neg (Bool.eq_false_iff.mp b9), reduceIte, Bool.false_eq_true] <;> rfl))
  · refine z_aload_n g dX2_readPowerOfX_12 0 rfl ?_
    refine z_get g hX2 0 rfl rfl 0 (by decide) (mi 1 rfl) rfl dX2_readPowerOfX_13 ?_
    refine z_ic0 g dX2_readPowerOfX_16 ?_
    refine z_bi g 6 dX2_readPowerOfX_17 (by decide) ?_
    refine z_callVi (w' := [_, _, _]) (wr := [_]) g (k_X0_takeDigit l G k _ _ _ _ _ _ _ (by assumption) (by repeat (first | assumption | apply takesN_le | apply rnN_le | apply rpN_le | apply sgN_le | apply rrN_le | (apply dgN_le (by decide)) | apply rtS_le | apply rfS_le))) 2 gX2_readPowerOfX_X0_takeDigit rfl rfl rfl nd_X0_takeDigit ⟨by decide, by decide⟩ 1 rfl rfl [1, 2] [0] [0, 1, 2] rfl rfl rfl rfl (by decide) rfl rfl rfl rfl (Nat.le_of_ble_eq_true rfl) dX2_readPowerOfX_19 ⟨by decide, by decide⟩ ?_
    refine z_goto g 26 dX2_readPowerOfX_22 (by decide) ?_
    exact hret _ _ _ _ dX2_readPowerOfX_26 ((by simp only [rpV, if_pos b9, reduceIte, Bool.false_eq_true] <;> rfl)) ((by simp only [rpN, if_pos b9, reduceIte, Bool.false_eq_true] <;> rfl))
theorem nd_X2_readPowerOfX : yX2_readPowerOfX.cls = RX2 ∧ yX2_readPowerOfX.cls ≠ "java/lang/invoke/MethodHandle" ∧ yX2_readPowerOfX.cls ≠ "java/lang/invoke/VarHandle" ∧ (parseMethodDescriptor yX2_readPowerOfX.desc).map (fun d => d.parameters.length) = some 0 := by decide +kernel
set_option maxHeartbeats 4000000 in
set_option maxRecDepth 100000 in
/-- readTerm(isFirst) -/
theorem k_X2_readTerm (l : Launch) (G : va_G) (k : Nat → ClassId) (h0 a0 a1 a2 a3 a4 a5 a6 a7 a8 a9 a10 : Nat) (c0 : Nat) (f : Nat → Int32) (n i : Nat) (b7 : Nat) (T : Nat → Int64) (p0 : Int32) (hn : n ≤ 30) (hi : i ≤ n) : ∀ sz, Met l yX2_readTerm wsX2_readTerm ({ frames := 3, cells := 0, slots := 0, locals := 65 }) (va_Pc [.ref h0, .int p0] (KP G k [(h0, .inr (2, [.ref a0, .ref a1, .ref a2, .ref a3, .ref a4, .ref a5, .ref a6, .ref a7, .ref a8, .ref a9, .ref a10])), (a0, .inr (0, [.ref c0, .int (nI n), .int (nI i)])), (c0, .inl (k 0, 30, .inl f)), (a7, .inr (1, [.ref b7])), (b7, .inl (k 2, 7, .inr (.inl T)))] sz)) (va_Qi (fun r (_ : Unit) => r = bI (rtS f n i p0 T).1) (KQ G [(h0, .inr (2, [.ref a0, .ref a1, .ref a2, .ref a3, .ref a4, .ref a5, .ref a6, .ref a7, .ref a8, .ref a9, .ref a10])), (a0, .inr (0, [.ref c0, .int (nI n), .int (nI ((rtS f n i p0 T).2.1))])), (c0, .inl (k 0, 30, .inl f)), (a7, .inr (1, [.ref b7])), (b7, .inl (k 2, 7, .inr (.inl ((rtS f n i p0 T).2.2))))] (va_A [(h0, .inr (2, [.ref a0, .ref a1, .ref a2, .ref a3, .ref a4, .ref a5, .ref a6, .ref a7, .ref a8, .ref a9, .ref a10])), (a0, .inr (0, [.ref c0, .int (nI n), .int (nI i)])), (c0, .inl (k 0, 30, .inl f)), (a7, .inr (1, [.ref b7])), (b7, .inl (k 2, 7, .inr (.inl T)))] sz)) (va_A [(h0, .inr (2, [.ref a0, .ref a1, .ref a2, .ref a3, .ref a4, .ref a5, .ref a6, .ref a7, .ref a8, .ref a9, .ref a10])), (a0, .inr (0, [.ref c0, .int (nI n), .int (nI i)])), (c0, .inl (k 0, 30, .inl f)), (a7, .inr (1, [.ref b7])), (b7, .inl (k 2, 7, .inr (.inl T)))] sz)) 0 0 (va_A [(h0, .inr (2, [.ref a0, .ref a1, .ref a2, .ref a3, .ref a4, .ref a5, .ref a6, .ref a7, .ref a8, .ref a9, .ref a10])), (a0, .inr (0, [.ref c0, .int (nI n), .int (nI i)])), (c0, .inl (k 0, 30, .inl f)), (a7, .inr (1, [.ref b7])), (b7, .inl (k 2, 7, .inr (.inl T)))] sz) := by
  refine met_z 0 0 (lv0 := [(0, .ref h0), (1, .int p0)]) (own := RX2) (by decide) rfl rfl (Nat.le_of_ble_eq_true rfl) rfl bI_n (fun Z g hret => ?_)
  have hX2 : ∀ w ∈ u_ws RX2 TX2 11, w ∈ wsX2_readTerm := fun w h => List.mem_cons_of_mem _ (List.mem_append_left _ (List.mem_append_left _ (List.mem_append_right _ (h))))
  refine z_aload_n g dX2_readTerm_0 0 rfl ?_
  refine z_get g hX2 0 rfl rfl 0 (by decide) (mi 1 rfl) rfl dX2_readTerm_1 ?_
  refine z_bi g 45 dX2_readTerm_4 (by decide) ?_
  refine z_callVi (w' := [_, _, _, _, _]) (wr := [_, _, _]) g (k_X0_takes l G k _ _ _ _ _ _ (by assumption) (by repeat (first | assumption | apply takesN_le | apply rnN_le | apply rpN_le | apply sgN_le | apply rrN_le | (apply dgN_le (by decide)) | apply rtS_le | apply rfS_le))) 1 gX2_readTerm_X0_takes rfl rfl rfl nd_X0_takes ⟨by decide, by decide⟩ 1 rfl rfl [1, 2] [0, 3, 4] [0, 3, 4, 1, 2] rfl rfl rfl rfl (by decide) rfl rfl rfl rfl (Nat.le_of_ble_eq_true rfl) dX2_readTerm_6 ⟨by decide, by decide⟩ ?_
  refine z_istore_n (lv' := [(2, .int _), (0, .ref _), (1, .int _)]) g dX2_readTerm_9 (by decide) rfl ?_
  have cut_32 : ∀ (i' : Nat), (i' ≤ n) → (rtA f n (takesP f n i 45) i' T = rtS f n i p0 T) → Z 0 0 [(h0, .inr (2, [.ref a0, .ref a1, .ref a2, .ref a3, .ref a4, .ref a5, .ref a6, .ref a7, .ref a8, .ref a9, .ref a10])), (a0, .inr (0, [.ref c0, .int (nI n), .int (nI i')])), (c0, .inl (k 0, 30, .inl f)), (a7, .inr (1, [.ref b7])), (b7, .inl (k 2, 7, .inr (.inl T)))] [(0, .ref h0), (1, .int p0), (2, .int (bI (takesP f n i 45)))] 32 [] := by
    intro i' hi1 hI1
    refine z_aload_n g dX2_readTerm_32 0 rfl ?_
    refine z_callVi (w' := [_, _, _, _, _]) (wr := [_, _]) g (k_X2_readNumber l G k _ _ _ _ _ _ _ _ _ _ _ _ _ _ _ _ (by assumption) (by repeat (first | assumption | apply takesN_le | apply rnN_le | apply rpN_le | apply sgN_le | apply rrN_le | (apply dgN_le (by decide)) | apply rtS_le | apply rfS_le))) 0 gX2_readTerm_X2_readNumber rfl rfl rfl nd_X2_readNumber ⟨by decide, by decide⟩ 0 rfl rfl [0, 1, 2] [3, 4] [2, 3, 4, 0, 1] rfl rfl rfl rfl (by decide) rfl rfl rfl rfl (Nat.le_of_ble_eq_true rfl) dX2_readTerm_33 ⟨by decide, by decide⟩ ?_
    refine z_istore_n (lv' := [(3, .int _), (0, .ref _), (1, .int _), (2, .int _)]) g dX2_readTerm_36 (by decide) rfl ?_
    refine z_aload_n g dX2_readTerm_37 1 rfl ?_
    refine z_get g hX2 0 rfl rfl 0 (by decide) (mi 1 rfl) rfl dX2_readTerm_38 ?_
    refine z_bi g 120 dX2_readTerm_41 (by decide) ?_
    refine z_callVi (w' := [_, _, _, _, _]) (wr := [_, _, _]) g (k_X0_takes l G k _ _ _ _ _ _ (by assumption) (by repeat (first | assumption | apply takesN_le | apply rnN_le | apply rpN_le | apply sgN_le | apply rrN_le | (apply dgN_le (by decide)) | apply rtS_le | apply rfS_le))) 1 gX2_readTerm_X0_takes rfl rfl rfl nd_X0_takes ⟨by decide, by decide⟩ 1 rfl rfl [1, 2] [0, 3, 4] [0, 3, 4, 1, 2] rfl rfl rfl rfl (by decide) rfl rfl rfl rfl (Nat.le_of_ble_eq_true rfl) dX2_readTerm_43 ⟨by decide, by decide⟩ ?_
    refine z_istore (lv' := [(4, .int _), (3, .int _), (0, .ref _), (1, .int _), (2, .int _)]) g dX2_readTerm_46 (by decide) rfl ?_
    refine z_iload g dX2_readTerm_48 0 rfl ?_
    have cut_61 : ∀ (pw : Int32) (i2 : Nat), (i2 ≤ n) → (rtC (takesP f n i 45) (rnV f n i') (takesP f n (rnN f n i') 120) pw i2 T = rtS f n i p0 T) → Z 0 0 [(h0, .inr (2, [.ref a0, .ref a1, .ref a2, .ref a3, .ref a4, .ref a5, .ref a6, .ref a7, .ref a8, .ref a9, .ref a10])), (a0, .inr (0, [.ref c0, .int (nI n), .int (nI i2)])), (c0, .inl (k 0, 30, .inl f)), (a7, .inr (1, [.ref b7])), (b7, .inl (k 2, 7, .inr (.inl T)))] [(0, .ref h0), (1, .int p0), (2, .int (bI (takesP f n i 45))), (3, .int (rnV f n i')), (4, .int (bI (takesP f n (rnN f n i') 120)))] 61 [.int pw] := by
      intro pw i2 hi2 hI2
      refine z_istore (lv' := [(5, .int _), (0, .ref _), (1, .int _), (2, .int _), (3, .int _), (4, .int _)]) g dX2_readTerm_61 (by decide) rfl ?_
      have cut_72 : (0 ≤ rnV f n i' ∨ takesP f n (rnN f n i') 120 = true) → Z 0 0 [(h0, .inr (2, [.ref a0, .ref a1, .ref a2, .ref a3, .ref a4, .ref a5, .ref a6, .ref a7, .ref a8, .ref a9, .ref a10])), (a0, .inr (0, [.ref c0, .int (nI n), .int (nI i2)])), (c0, .inl (k 0, 30, .inl f)), (a7, .inr (1, [.ref b7])), (b7, .inl (k 2, 7, .inr (.inl T)))] [(0, .ref h0), (1, .int p0), (2, .int (bI (takesP f n i 45))), (3, .int (rnV f n i')), (4, .int (bI (takesP f n (rnN f n i') 120))), (5, .int pw)] 72 [] := by
        intro  hq
        refine z_iload g dX2_readTerm_72 5 rfl ?_
        refine z_if_ge g (tgt := 79) dX2_readTerm_74 (by decide) (fun b74 => ?_) (fun b74 => ?_)
        · have cut_108 : ∀ (x : Int64), (rtC (takesP f n i 45) (rnV f n i') (takesP f n (rnN f n i') 120) pw i2 T = (true, i2, addP T x pw)) → Z 0 0 [(h0, .inr (2, [.ref a0, .ref a1, .ref a2, .ref a3, .ref a4, .ref a5, .ref a6, .ref a7, .ref a8, .ref a9, .ref a10])), (a0, .inr (0, [.ref c0, .int (nI n), .int (nI i2)])), (c0, .inl (k 0, 30, .inl f)), (a7, .inr (1, [.ref b7])), (b7, .inl (k 2, 7, .inr (.inl T)))] [(5, .int pw)] 108 [.long x, .ref a7] := by
            intro x hx9
            refine z_iload g dX2_readTerm_108 0 rfl ?_
            refine z_callVv (w' := [_, _, _, _, _]) (wr := [_, _, _]) g (k_X1_add l G k _ _ _ _ _) 2 gX2_readTerm_X1_add rfl rfl rfl nd_X1_add ⟨by decide, by decide⟩ 3 rfl rfl [3, 4] [0, 1, 2] [0, 1, 2, 3, 4] rfl rfl rfl rfl (by decide) rfl rfl rfl rfl (Nat.le_of_ble_eq_true rfl) dX2_readTerm_110 ⟨by decide, by decide⟩ ?_
            refine z_ic1 g dX2_readTerm_113 ?_
            exact hret _ _ _ _ dX2_readTerm_114 ((by rw [← hI2, hx9]; rfl)) ((by rw [← hI2, hx9]))
          refine z_iload_n g dX2_readTerm_79 3 rfl ?_
          refine z_if_ge g (tgt := 87) dX2_readTerm_80 (by decide) (fun b80 => ?_) (fun b80 => ?_)
          · refine z_iload_n g dX2_readTerm_87 3 rfl ?_
            refine z_istore (lv' := [(6, .int _), (0, .ref _), (1, .int _), (2, .int _), (3, .int _), (4, .int _), (5, .int _)]) g dX2_readTerm_88 (by decide) rfl ?_
            refine z_aload_n g dX2_readTerm_90 1 rfl ?_
            refine z_get g hX2 0 rfl rfl 7 (by decide) (mi 2 rfl) rfl dX2_readTerm_91 ?_
            refine z_iload_n g dX2_readTerm_94 3 rfl ?_
            refine z_bf_eq g (tgt := 105) dX2_readTerm_95 (by decide) (fun b95 => ?_) (fun b95 => ?_)
            · refine z_iload g dX2_readTerm_105 0 rfl ?_
              refine z_i2l g dX2_readTerm_107 ?_
              refine z_locs (lv' := [(5, .int _)]) g [6] rfl ?_
              exact cut_108 _ (by unfold rtC; first | (simp only [reduceIte, if_pos b74, if_pos b80, if_neg (Bool.eq_false_iff.mp b95)]; done) | (rw [if_neg b80, if_pos (hq.resolve_left b80)]; simp only [reduceIte, if_pos b74, if_pos b80, if_neg (Bool.eq_false_iff.mp b95)]; done))
            · refine z_iload g dX2_readTerm_98 0 rfl ?_
              refine z_ineg g dX2_readTerm_100 ?_
              refine z_i2l g dX2_readTerm_101 ?_
              refine z_goto g 108 dX2_readTerm_102 (by decide) ?_
              refine z_locs (lv' := [(5, .int _)]) g [6] rfl ?_
              exact cut_108 _ (by unfold rtC; first | (simp only [reduceIte, if_pos b74, if_pos b80, if_pos b95]; done) | (rw [if_neg b80, if_pos (hq.resolve_left b80)]; simp only [reduceIte, if_pos b74, if_pos b80, if_pos b95]; done))
          · refine z_ic1 g dX2_readTerm_83 ?_
            refine z_goto g 88 dX2_readTerm_84 (by decide) ?_
            refine z_istore (lv' := [(6, .int _), (0, .ref _), (1, .int _), (2, .int _), (3, .int _), (4, .int _), (5, .int _)]) g dX2_readTerm_88 (by decide) rfl ?_
            refine z_aload_n g dX2_readTerm_90 1 rfl ?_
            refine z_get g hX2 0 rfl rfl 7 (by decide) (mi 2 rfl) rfl dX2_readTerm_91 ?_
            refine z_iload_n g dX2_readTerm_94 3 rfl ?_
            refine z_bf_eq g (tgt := 105) dX2_readTerm_95 (by decide) (fun b95 => ?_) (fun b95 => ?_)
            · refine z_iload g dX2_readTerm_105 0 rfl ?_
              refine z_i2l g dX2_readTerm_107 ?_
              refine z_locs (lv' := [(5, .int _)]) g [6] rfl ?_
              exact cut_108 _ (by unfold rtC; first | (simp only [reduceIte, if_pos b74, if_neg b80, if_neg (Bool.eq_false_iff.mp b95)]; done) | (rw [if_neg b80, if_pos (hq.resolve_left b80)]; simp only [reduceIte, if_pos b74, if_neg b80, if_neg (Bool.eq_false_iff.mp b95)]; done))
            · refine z_iload g dX2_readTerm_98 0 rfl ?_
              refine z_ineg g dX2_readTerm_100 ?_
              refine z_i2l g dX2_readTerm_101 ?_
              refine z_goto g 108 dX2_readTerm_102 (by decide) ?_
              refine z_locs (lv' := [(5, .int _)]) g [6] rfl ?_
              exact cut_108 _ (by unfold rtC; first | (simp only [reduceIte, if_pos b74, if_neg b80, if_pos b95]; done) | (rw [if_neg b80, if_pos (hq.resolve_left b80)]; simp only [reduceIte, if_pos b74, if_neg b80, if_pos b95]; done))
        · refine z_ic0 g dX2_readTerm_77 ?_
          exact hret _ _ _ _ dX2_readTerm_78 ((by rw [← hI2]; unfold rtC; first | (simp only [reduceIte, if_neg b74, Bool.false_eq_true]; rfl) | (by_cases h9 : 0 ≤ rnV f n i' <;> simp only [reduceIte, h9, b74, ite_self] <;> rfl))) ((by rw [← hI2]; unfold rtC; first | (simp only [reduceIte, if_neg b74, Bool.false_eq_true]; done) | (by_cases h9 : 0 ≤ rnV f n i' <;> simp only [reduceIte, h9, b74, ite_self])))
      refine z_iload_n g dX2_readTerm_63 4 rfl ?_
      refine z_if_ge g (tgt := 72) dX2_readTerm_64 (by decide) (fun b64 => ?_) (fun b64 => ?_)
      · refine z_locs (lv' := [(0, .ref _), (1, .int _), (2, .int _), (3, .int _), (4, .int _), (5, .int _)]) g [1, 2, 3, 4, 5, 0] rfl ?_
        exact cut_72 (by first | exact Or.inl b64 | exact Or.inr b69)
      · refine z_iload g dX2_readTerm_67 5 rfl ?_
        refine z_bf_eq g (tgt := 77) dX2_readTerm_69 (by decide) (fun b69 => ?_) (fun b69 => ?_)
        · refine z_ic0 g dX2_readTerm_77 ?_
          exact hret _ _ _ _ dX2_readTerm_78 ((by rw [← hI2]; unfold rtC; first | (simp only [reduceIte, if_neg b64, if_neg (Bool.eq_false_iff.mp b69), Bool.false_eq_true]; rfl) | (by_cases h9 : 0 ≤ rnV f n i' <;> simp only [reduceIte, h9, b74, ite_self] <;> rfl))) ((by rw [← hI2]; unfold rtC; first | (simp only [reduceIte, if_neg b64, if_neg (Bool.eq_false_iff.mp b69), Bool.false_eq_true]; done) | (by_cases h9 : 0 ≤ rnV f n i' <;> simp only [reduceIte, h9, b74, ite_self])))
        · refine z_locs (lv' := [(0, .ref _), (1, .int _), (2, .int _), (3, .int _), (4, .int _), (5, .int _)]) g [1, 2, 3, 4, 5, 0] rfl ?_
          exact cut_72 (by first | exact Or.inl b64 | exact Or.inr b69)
    refine z_bf_eq g (tgt := 60) dX2_readTerm_50 (by decide) (fun b50 => ?_) (fun b50 => ?_)
    · refine z_ic0 g dX2_readTerm_60 ?_
      refine z_locs (lv' := [(0, .ref _), (1, .int _), (2, .int _), (3, .int _), (4, .int _)]) g [2, 3, 4, 1, 0] rfl ?_
      exact cut_61 _ _ (by repeat (first | assumption | apply takesN_le | apply rnN_le | apply rpN_le | apply sgN_le | apply rrN_le | (apply dgN_le (by decide)) | apply rtS_le | apply rfS_le)) (by rw [← hI1]; unfold rtA rtB; simp only [reduceIte, if_neg (Bool.eq_false_iff.mp b50)])
    · refine z_aload_n g dX2_readTerm_53 2 rfl ?_
      refine z_callVi (w' := [_, _, _, _, _]) (wr := [_, _]) g (k_X2_readPowerOfX l G k _ _ _ _ _ _ _ _ _ _ _ _ _ _ _ _ (by assumption) (by repeat (first | assumption | apply takesN_le | apply rnN_le | apply rpN_le | apply sgN_le | apply rrN_le | (apply dgN_le (by decide)) | apply rtS_le | apply rfS_le))) 0 gX2_readTerm_X2_readPowerOfX rfl rfl rfl nd_X2_readPowerOfX ⟨by decide, by decide⟩ 0 rfl rfl [0, 1, 2] [3, 4] [2, 3, 4, 0, 1] rfl rfl rfl rfl (by decide) rfl rfl rfl rfl (Nat.le_of_ble_eq_true rfl) dX2_readTerm_54 ⟨by decide, by decide⟩ ?_
      refine z_goto g 61 dX2_readTerm_57 (by decide) ?_
      refine z_locs (lv' := [(0, .ref _), (1, .int _), (2, .int _), (3, .int _), (4, .int _)]) g [2, 3, 4, 1, 0] rfl ?_
      exact cut_61 _ _ (by repeat (first | assumption | apply takesN_le | apply rnN_le | apply rpN_le | apply sgN_le | apply rrN_le | (apply dgN_le (by decide)) | apply rtS_le | apply rfS_le)) (by rw [← hI1]; unfold rtA rtB; simp only [reduceIte, if_pos b50])
  refine z_iload_n g dX2_readTerm_10 0 rfl ?_
  refine z_bf_ne g (tgt := 32) dX2_readTerm_11 (by decide) (fun b11 => ?_) (fun b11 => ?_)
  · refine z_locs (lv' := [(0, .ref _), (1, .int _), (2, .int _)]) g [1, 2, 0] rfl ?_
    exact cut_32 _ (by repeat (first | assumption | apply takesN_le | apply rnN_le | apply rpN_le | apply sgN_le | apply rrN_le | (apply dgN_le (by decide)) | apply rtS_le | apply rfS_le)) (by unfold rtS sgOK sgN; simp only [reduceIte, if_pos b11])
  · refine z_aload_n g dX2_readTerm_14 1 rfl ?_
    refine z_get g hX2 0 rfl rfl 0 (by decide) (mi 1 rfl) rfl dX2_readTerm_15 ?_
    refine z_bi g 43 dX2_readTerm_18 (by decide) ?_
    refine z_callVi (w' := [_, _, _, _, _]) (wr := [_, _, _]) g (k_X0_takes l G k _ _ _ _ _ _ (by assumption) (by repeat (first | assumption | apply takesN_le | apply rnN_le | apply rpN_le | apply sgN_le | apply rrN_le | (apply dgN_le (by decide)) | apply rtS_le | apply rfS_le))) 1 gX2_readTerm_X0_takes rfl rfl rfl nd_X0_takes ⟨by decide, by decide⟩ 1 rfl rfl [1, 2] [0, 3, 4] [0, 3, 4, 1, 2] rfl rfl rfl rfl (by decide) rfl rfl rfl rfl (Nat.le_of_ble_eq_true rfl) dX2_readTerm_20 ⟨by decide, by decide⟩ ?_
    refine z_bf_ne g (tgt := 32) dX2_readTerm_23 (by decide) (fun b23 => ?_) (fun b23 => ?_)
    · refine z_locs (lv' := [(0, .ref _), (1, .int _), (2, .int _)]) g [1, 2, 0] rfl ?_
      exact cut_32 _ (by repeat (first | assumption | apply takesN_le | apply rnN_le | apply rpN_le | apply sgN_le | apply rrN_le | (apply dgN_le (by decide)) | apply rtS_le | apply rfS_le)) (by unfold rtS sgOK sgN; simp only [reduceIte, if_neg (Bool.eq_false_iff.mp b11), if_pos b23])
    · refine z_iload_n g dX2_readTerm_26 2 rfl ?_
      refine z_if_ne g (tgt := 32) dX2_readTerm_27 (by decide) (fun b27 => ?_) (fun b27 => ?_)
      · refine z_locs (lv' := [(0, .ref _), (1, .int _), (2, .int _)]) g [1, 2, 0] rfl ?_
        exact cut_32 _ (by repeat (first | assumption | apply takesN_le | apply rnN_le | apply rpN_le | apply sgN_le | apply rrN_le | (apply dgN_le (by decide)) | apply rtS_le | apply rfS_le)) (by unfold rtS sgOK sgN; simp only [reduceIte, if_neg (Bool.eq_false_iff.mp b11), if_neg (Bool.eq_false_iff.mp b23), if_neg b27])
      · refine z_ic0 g dX2_readTerm_30 ?_
        exact hret _ _ _ _ dX2_readTerm_31 ((by unfold rtS sgOK sgN; simp only [reduceIte, if_neg (Bool.eq_false_iff.mp b11), if_neg (Bool.eq_false_iff.mp b23), if_pos b27, Bool.false_eq_true]; rfl)) ((by unfold rtS sgOK sgN; simp only [reduceIte, if_neg (Bool.eq_false_iff.mp b11), if_neg (Bool.eq_false_iff.mp b23), if_pos b27, Bool.false_eq_true]))
theorem nd_X2_readTerm : yX2_readTerm.cls = RX2 ∧ yX2_readTerm.cls ≠ "java/lang/invoke/MethodHandle" ∧ yX2_readTerm.cls ≠ "java/lang/invoke/VarHandle" ∧ (parseMethodDescriptor yX2_readTerm.desc).map (fun d => d.parameters.length) = some 1 := by decide +kernel
set_option maxHeartbeats 4000000 in
set_option maxRecDepth 100000 in
/-- readPolynomial() -/
theorem k_X2_readPolynomial (l : Launch) (G : va_G) (k : Nat → ClassId) (h0 a0 a1 a2 a3 a4 a5 a6 a7 a8 a9 a10 : Nat) (c0 : Nat) (f : Nat → Int32) (n i : Nat) (b7 : Nat) (T : Nat → Int64) (hn : n ≤ 30) (hi : i ≤ n) : ∀ sz, Met l yX2_readPolynomial wsX2_readPolynomial ({ frames := 4, cells := 0, slots := 0, locals := 91 }) (va_Pc [.ref h0] (KP G k [(h0, .inr (2, [.ref a0, .ref a1, .ref a2, .ref a3, .ref a4, .ref a5, .ref a6, .ref a7, .ref a8, .ref a9, .ref a10])), (a0, .inr (0, [.ref c0, .int (nI n), .int (nI i)])), (c0, .inl (k 0, 30, .inl f)), (a7, .inr (1, [.ref b7])), (b7, .inl (k 2, 7, .inr (.inl T)))] sz)) (va_Qi (fun r (_ : Unit) => r = bI (rpB n (rpS f n i))) (KQ G [(h0, .inr (2, [.ref a0, .ref a1, .ref a2, .ref a3, .ref a4, .ref a5, .ref a6, .ref a7, .ref a8, .ref a9, .ref a10])), (a0, .inr (0, [.ref c0, .int (nI n), .int (nI ((rpS f n i).2.1))])), (c0, .inl (k 0, 30, .inl f)), (a7, .inr (1, [.ref b7])), (b7, .inl (k 2, 7, .inr (.inl ((rpS f n i).2.2))))] (va_A [(h0, .inr (2, [.ref a0, .ref a1, .ref a2, .ref a3, .ref a4, .ref a5, .ref a6, .ref a7, .ref a8, .ref a9, .ref a10])), (a0, .inr (0, [.ref c0, .int (nI n), .int (nI i)])), (c0, .inl (k 0, 30, .inl f)), (a7, .inr (1, [.ref b7])), (b7, .inl (k 2, 7, .inr (.inl T)))] sz)) (va_A [(h0, .inr (2, [.ref a0, .ref a1, .ref a2, .ref a3, .ref a4, .ref a5, .ref a6, .ref a7, .ref a8, .ref a9, .ref a10])), (a0, .inr (0, [.ref c0, .int (nI n), .int (nI i)])), (c0, .inl (k 0, 30, .inl f)), (a7, .inr (1, [.ref b7])), (b7, .inl (k 2, 7, .inr (.inl T)))] sz)) 0 0 (va_A [(h0, .inr (2, [.ref a0, .ref a1, .ref a2, .ref a3, .ref a4, .ref a5, .ref a6, .ref a7, .ref a8, .ref a9, .ref a10])), (a0, .inr (0, [.ref c0, .int (nI n), .int (nI i)])), (c0, .inl (k 0, 30, .inl f)), (a7, .inr (1, [.ref b7])), (b7, .inl (k 2, 7, .inr (.inl T)))] sz) := by
  refine met_z 0 0 (lv0 := [(0, .ref h0)]) (own := RX2) (by decide) rfl rfl (Nat.le_of_ble_eq_true rfl) rfl bI_n (fun Z g hret => ?_)
  have hX2 : ∀ w ∈ u_ws RX2 TX2 11, w ∈ wsX2_readPolynomial := fun w h => List.mem_cons_of_mem _ (List.mem_append_left _ (List.mem_append_left _ (List.mem_append_right _ (h))))
  refine z_aload_n g dX2_readPolynomial_0 0 rfl ?_
  refine z_get g hX2 0 rfl rfl 7 (by decide) (mi 1 rfl) rfl dX2_readPolynomial_1 ?_
  refine z_callVv (w' := [_, _, _, _, _]) (wr := [_, _, _]) g (k_X1_becomeZero l G k _ _ _) 0 gX2_readPolynomial_X1_becomeZero rfl rfl rfl nd_X1_becomeZero ⟨by decide, by decide⟩ 3 rfl rfl [3, 4] [0, 1, 2] [0, 1, 2, 3, 4] rfl rfl rfl rfl (by decide) rfl rfl rfl rfl (Nat.le_of_ble_eq_true rfl) dX2_readPolynomial_4 ⟨by decide, by decide⟩ ?_
  refine z_aload_n g dX2_readPolynomial_7 0 rfl ?_
  refine z_ic1 g dX2_readPolynomial_8 ?_
  refine z_callVi (w' := [_, _, _, _, _]) (wr := []) g (k_X2_readTerm l G k _ _ _ _ _ _ _ _ _ _ _ _ _ _ _ _ _ _ _ (by assumption) (by repeat (first | assumption | apply takesN_le | apply rnN_le | apply rpN_le | apply sgN_le | apply rrN_le | (apply dgN_le (by decide)) | apply rtS_le | apply rfS_le))) 1 gX2_readPolynomial_X2_readTerm rfl rfl rfl nd_X2_readTerm ⟨by decide, by decide⟩ 0 rfl rfl [0, 1, 2, 3, 4] [] [0, 1, 2, 3, 4] rfl rfl rfl rfl (by decide) rfl rfl rfl rfl (Nat.le_of_ble_eq_true rfl) dX2_readPolynomial_9 ⟨by decide, by decide⟩ ?_
  refine z_istore_n (lv' := [(1, .int _), (0, .ref _)]) g dX2_readPolynomial_12 (by decide) rfl ?_
  refine z_ic1 g dX2_readPolynomial_13 ?_
  refine z_istore_n (lv' := [(2, .int _), (1, .int _), (0, .ref _)]) g dX2_readPolynomial_14 (by decide) rfl ?_
  have cut_15 : ∀ (N15 : Nat) (s : Nat) (gd : Bool) (i' : Nat) (T' : Nat → Int64), 30 - s < N15 → (s ≤ 30) → (i' ≤ n) → (rlS f n (30 - s) gd i' T' = rpS f n i) → Z 0 0 [(h0, .inr (2, [.ref a0, .ref a1, .ref a2, .ref a3, .ref a4, .ref a5, .ref a6, .ref a7, .ref a8, .ref a9, .ref a10])), (a0, .inr (0, [.ref c0, .int (nI n), .int (nI i')])), (c0, .inl (k 0, 30, .inl f)), (a7, .inr (1, [.ref b7])), (b7, .inl (k 2, 7, .inr (.inl T')))] [(0, .ref h0), (1, .int (bI gd)), (2, .int (nI s))] 15 [] := by
    intro N15
    induction N15 with
    | zero => intro s gd i' T' hms; exact absurd hms (Nat.not_lt_zero _)
    | succ N15 ih15 =>
      intro s gd i' T' hms15 hs hi1 hI
      have cut_47 : (rpS f n i = (gd, i', T')) → Z 0 0 [(h0, .inr (2, [.ref a0, .ref a1, .ref a2, .ref a3, .ref a4, .ref a5, .ref a6, .ref a7, .ref a8, .ref a9, .ref a10])), (a0, .inr (0, [.ref c0, .int (nI n), .int (nI i')])), (c0, .inl (k 0, 30, .inl f)), (a7, .inr (1, [.ref b7])), (b7, .inl (k 2, 7, .inr (.inl T')))] [(0, .ref h0), (1, .int (bI gd))] 47 [] := by
        intro  hI5
        refine z_iload_n g dX2_readPolynomial_47 1 rfl ?_
        refine z_bf_eq g (tgt := 65) dX2_readPolynomial_48 (by decide) (fun b48 => ?_) (fun b48 => ?_)
        · refine z_ic0 g dX2_readPolynomial_65 ?_
          exact hret _ _ _ _ dX2_readPolynomial_66 ((by rw [hI5]; unfold rpB; simp only [reduceIte, if_neg (Bool.eq_false_iff.mp b48), Bool.false_eq_true] <;> rfl)) ((by rw [hI5]))
        · refine z_aload_n g dX2_readPolynomial_51 0 rfl ?_
          refine z_get g hX2 0 rfl rfl 0 (by decide) (mi 2 rfl) rfl dX2_readPolynomial_52 ?_
          refine z_callVi (w' := [_, _, _, _, _]) (wr := [_, _, _, _]) g (k_X0_isAtEnd l G k _ _ _ _ (by assumption) (by repeat (first | assumption | apply takesN_le | apply rnN_le | apply rpN_le | apply sgN_le | apply rrN_le | (apply dgN_le (by decide)) | apply rtS_le | apply rfS_le))) 0 gX2_readPolynomial_X0_isAtEnd rfl rfl rfl nd_X0_isAtEnd ⟨by decide, by decide⟩ 1 rfl rfl [1] [0, 2, 3, 4] [0, 4, 1, 2, 3] rfl rfl rfl rfl (by decide) rfl rfl rfl rfl (Nat.le_of_ble_eq_true rfl) dX2_readPolynomial_55 ⟨by decide, by decide⟩ ?_
          refine z_bd_eq g (tgt := 65) dX2_readPolynomial_58 (by decide) (fun b58 => ?_) (fun b58 => ?_)
          · refine z_ic0 g dX2_readPolynomial_65 ?_
            exact hret _ _ _ _ dX2_readPolynomial_66 ((by rw [hI5]; unfold rpB; simp only [reduceIte, if_pos b48, if_neg b58, Bool.false_eq_true] <;> rfl)) ((by rw [hI5]))
          · refine z_ic1 g dX2_readPolynomial_61 ?_
            refine z_goto g 66 dX2_readPolynomial_62 (by decide) ?_
            exact hret _ _ _ _ dX2_readPolynomial_66 ((by rw [hI5]; unfold rpB; simp only [reduceIte, if_pos b48, if_pos b58, Bool.false_eq_true] <;> rfl)) ((by rw [hI5]))
      refine z_iload_n g dX2_readPolynomial_15 2 rfl ?_
      refine z_bi g 30 dX2_readPolynomial_16 (by decide) ?_
      refine z_n_ge g (a := s) (b := 30) (tgt := 47) (by omega) (by omega) dX2_readPolynomial_18 (by decide) (fun b18 => ?_) (fun b18 => ?_)
      · refine z_locs (lv' := [(0, .ref _), (1, .int _)]) g [0, 1] rfl ?_
        exact cut_47 (by rw [← hI]; first | (rw [show 30 - s = 0 by omega]; rfl) | (rw [show 30 - s = (30 - (s + 1)) + 1 by omega]; show (if gd then _ else _) = _; simp only [reduceIte, if_pos b18, Bool.false_eq_true]))
      · refine z_iload_n g dX2_readPolynomial_21 1 rfl ?_
        refine z_bf_eq g (tgt := 47) dX2_readPolynomial_22 (by decide) (fun b22 => ?_) (fun b22 => ?_)
        · refine z_locs (lv' := [(0, .ref _), (1, .int _)]) g [0, 1] rfl ?_
          exact cut_47 (by rw [← hI]; first | (rw [show 30 - s = 0 by omega]; rfl) | (rw [show 30 - s = (30 - (s + 1)) + 1 by omega]; show (if gd then _ else _) = _; simp only [reduceIte, if_neg b18, if_neg (Bool.eq_false_iff.mp b22), Bool.false_eq_true]))
        · refine z_aload_n g dX2_readPolynomial_25 0 rfl ?_
          refine z_get g hX2 0 rfl rfl 0 (by decide) (mi 2 rfl) rfl dX2_readPolynomial_26 ?_
          refine z_callVi (w' := [_, _, _, _, _]) (wr := [_, _, _, _]) g (k_X0_isAtEnd l G k _ _ _ _ (by assumption) (by repeat (first | assumption | apply takesN_le | apply rnN_le | apply rpN_le | apply sgN_le | apply rrN_le | (apply dgN_le (by decide)) | apply rtS_le | apply rfS_le))) 0 gX2_readPolynomial_X0_isAtEnd rfl rfl rfl nd_X0_isAtEnd ⟨by decide, by decide⟩ 1 rfl rfl [1] [0, 2, 3, 4] [0, 4, 1, 2, 3] rfl rfl rfl rfl (by decide) rfl rfl rfl rfl (Nat.le_of_ble_eq_true rfl) dX2_readPolynomial_29 ⟨by decide, by decide⟩ ?_
          refine z_bd_ne g (tgt := 47) dX2_readPolynomial_32 (by decide) (fun b32 => ?_) (fun b32 => ?_)
          · refine z_locs (lv' := [(0, .ref _), (1, .int _)]) g [0, 1] rfl ?_
            exact cut_47 (by rw [← hI]; first | (rw [show 30 - s = 0 by omega]; rfl) | (rw [show 30 - s = (30 - (s + 1)) + 1 by omega]; show (if gd then _ else _) = _; simp only [reduceIte, if_neg b18, if_pos b22, if_pos b32, Bool.false_eq_true]))
          · refine z_aload_n g dX2_readPolynomial_35 0 rfl ?_
            refine z_ic0 g dX2_readPolynomial_36 ?_
            refine z_callVi (w' := [_, _, _, _, _]) (wr := []) g (k_X2_readTerm l G k _ _ _ _ _ _ _ _ _ _ _ _ _ _ _ _ _ _ _ (by assumption) (by repeat (first | assumption | apply takesN_le | apply rnN_le | apply rpN_le | apply sgN_le | apply rrN_le | (apply dgN_le (by decide)) | apply rtS_le | apply rfS_le))) 1 gX2_readPolynomial_X2_readTerm rfl rfl rfl nd_X2_readTerm ⟨by decide, by decide⟩ 0 rfl rfl [0, 1, 2, 3, 4] [] [0, 1, 2, 3, 4] rfl rfl rfl rfl (by decide) rfl rfl rfl rfl (Nat.le_of_ble_eq_true rfl) dX2_readPolynomial_37 ⟨by decide, by decide⟩ ?_
            refine z_istore_n (lv' := [(1, .int _), (0, .ref _), (2, .int _)]) g dX2_readPolynomial_40 (by decide) rfl ?_
            refine z_inc (lv' := [(2, .int _), (1, .int _), (0, .ref _)]) g dX2_readPolynomial_41 2 rfl (by decide) rfl ?_
            refine z_goto g 15 dX2_readPolynomial_44 (by decide) ?_
            refine z_locs (lv' := [(0, .ref _), (1, .int _), (2, .int _)]) g [2, 1, 0] rfl ?_
            exact ih15 (s + 1) _ _ _ (by omega) (by omega) (by repeat (first | assumption | apply takesN_le | apply rnN_le | apply rpN_le | apply sgN_le | apply rrN_le | (apply dgN_le (by decide)) | apply rtS_le | apply rfS_le)) (by rw [← hI, show 30 - s = (30 - (s + 1)) + 1 by omega]; show _ = if gd then _ else _; simp only [reduceIte, if_neg b18, if_pos b22, if_neg b32])
  refine z_locs (lv' := [(0, .ref _), (1, .int _), (2, .int _)]) g [2, 1, 0] rfl ?_
  exact cut_15 _ 1 _ _ _ (Nat.lt_succ_self _) (by decide) (by repeat (first | assumption | apply takesN_le | apply rnN_le | apply rpN_le | apply sgN_le | apply rrN_le | (apply dgN_le (by decide)) | apply rtS_le | apply rfS_le)) rfl
theorem nd_X2_readPolynomial : yX2_readPolynomial.cls = RX2 ∧ yX2_readPolynomial.cls ≠ "java/lang/invoke/MethodHandle" ∧ yX2_readPolynomial.cls ≠ "java/lang/invoke/VarHandle" ∧ (parseMethodDescriptor yX2_readPolynomial.desc).map (fun d => d.parameters.length) = some 0 := by decide +kernel
set_option maxHeartbeats 4000000 in
set_option maxRecDepth 100000 in
/-- readRoot() -/
theorem k_X2_readRoot (l : Launch) (G : va_G) (k : Nat → ClassId) (h0 a0 a1 a2 a3 a4 a5 a6 a7 a8 a9 a10 : Nat) (c0 : Nat) (f : Nat → Int32) (n i : Nat) (hn : n ≤ 30) (hi : i ≤ n) : ∀ sz, Met l yX2_readRoot wsX2_readRoot ({ frames := 2, cells := 0, slots := 0, locals := 43 }) (va_Pc [.ref h0] (KP G k [(h0, .inr (2, [.ref a0, .ref a1, .ref a2, .ref a3, .ref a4, .ref a5, .ref a6, .ref a7, .ref a8, .ref a9, .ref a10])), (a0, .inr (0, [.ref c0, .int (nI n), .int (nI i)])), (c0, .inl (k 0, 30, .inl f))] sz)) (va_Qi (fun r (_ : Unit) => r = rrV f n i) (KQ G [(h0, .inr (2, [.ref a0, .ref a1, .ref a2, .ref a3, .ref a4, .ref a5, .ref a6, .ref a7, .ref a8, .ref a9, .ref a10])), (a0, .inr (0, [.ref c0, .int (nI n), .int (nI (rrN f n i))])), (c0, .inl (k 0, 30, .inl f))] (va_A [(h0, .inr (2, [.ref a0, .ref a1, .ref a2, .ref a3, .ref a4, .ref a5, .ref a6, .ref a7, .ref a8, .ref a9, .ref a10])), (a0, .inr (0, [.ref c0, .int (nI n), .int (nI i)])), (c0, .inl (k 0, 30, .inl f))] sz)) (va_A [(h0, .inr (2, [.ref a0, .ref a1, .ref a2, .ref a3, .ref a4, .ref a5, .ref a6, .ref a7, .ref a8, .ref a9, .ref a10])), (a0, .inr (0, [.ref c0, .int (nI n), .int (nI i)])), (c0, .inl (k 0, 30, .inl f))] sz)) 0 0 (va_A [(h0, .inr (2, [.ref a0, .ref a1, .ref a2, .ref a3, .ref a4, .ref a5, .ref a6, .ref a7, .ref a8, .ref a9, .ref a10])), (a0, .inr (0, [.ref c0, .int (nI n), .int (nI i)])), (c0, .inl (k 0, 30, .inl f))] sz) := by
  refine met_i 0 0 (lv0 := [(0, .ref h0)]) (own := RX2) (by decide) rfl rfl (Nat.le_of_ble_eq_true rfl) rfl (fun Z g hret => ?_)
  have hX2 : ∀ w ∈ u_ws RX2 TX2 11, w ∈ wsX2_readRoot := fun w h => List.mem_cons_of_mem _ (List.mem_append_left _ (List.mem_append_right _ (h)))
  refine z_aload_n g dX2_readRoot_0 0 rfl ?_
  refine z_get g hX2 0 rfl rfl 0 (by decide) (mi 1 rfl) rfl dX2_readRoot_1 ?_
  refine z_bi g 45 dX2_readRoot_4 (by decide) ?_
  refine z_callVi (w' := [_, _, _]) (wr := [_]) g (k_X0_takes l G k _ _ _ _ _ _ (by assumption) (by repeat (first | assumption | apply takesN_le | apply rnN_le | apply rpN_le | apply sgN_le | apply rrN_le | (apply dgN_le (by decide)) | apply rtS_le | apply rfS_le))) 1 gX2_readRoot_X0_takes rfl rfl rfl nd_X0_takes ⟨by decide, by decide⟩ 1 rfl rfl [1, 2] [0] [0, 1, 2] rfl rfl rfl rfl (by decide) rfl rfl rfl rfl (Nat.le_of_ble_eq_true rfl) dX2_readRoot_6 ⟨by decide, by decide⟩ ?_
  refine z_istore_n (lv' := [(1, .int _), (0, .ref _)]) g dX2_readRoot_9 (by decide) rfl ?_
  refine z_iload_n g dX2_readRoot_10 0 rfl ?_
  refine z_bf_ne g (tgt := 28) dX2_readRoot_11 (by decide) (fun b11 => ?_) (fun b11 => ?_)
  · refine z_aload_n g dX2_readRoot_28 1 rfl ?_
    refine z_get g hX2 0 rfl rfl 0 (by decide) (mi 1 rfl) rfl dX2_readRoot_29 ?_
    refine z_ic1 g dX2_readRoot_32 ?_
    refine z_ic3 g dX2_readRoot_33 ?_
    refine z_callVi (w' := [_, _, _]) (wr := [_]) g (k_X0_takeDigit l G k _ _ _ _ _ _ _ (by assumption) (by repeat (first | assumption | apply takesN_le | apply rnN_le | apply rpN_le | apply sgN_le | apply rrN_le | (apply dgN_le (by decide)) | apply rtS_le | apply rfS_le))) 2 gX2_readRoot_X0_takeDigit rfl rfl rfl nd_X0_takeDigit ⟨by decide, by decide⟩ 1 rfl rfl [1, 2] [0] [0, 1, 2] rfl rfl rfl rfl (by decide) rfl rfl rfl rfl (Nat.le_of_ble_eq_true rfl) dX2_readRoot_34 ⟨by decide, by decide⟩ ?_
    refine z_istore_n (lv' := [(2, .int _), (1, .int _), (0, .ref _)]) g dX2_readRoot_37 (by decide) rfl ?_
    refine z_iload_n g dX2_readRoot_38 0 rfl ?_
    refine z_if_ge g (tgt := 44) dX2_readRoot_39 (by decide) (fun b39 => ?_) (fun b39 => ?_)
    · refine z_iload_n g dX2_readRoot_44 1 rfl ?_
      refine z_bf_eq g (tgt := 52) dX2_readRoot_45 (by decide) (fun b45 => ?_) (fun b45 => ?_)
      · refine z_iload_n g dX2_readRoot_52 0 rfl ?_
        refine z_ineg g dX2_readRoot_53 ?_
        exact hret _ _ _ _ dX2_readRoot_54 ((by first | (rw [b11] at b45; cases b45; done) | (simp only [rrV, if_pos b11, if_pos b39, if_neg (Bool.eq_false_iff.mp b45), reduceIte, Bool.false_eq_true] <;> rfl))) ((by simp only [rrN, if_pos b11, if_pos b39, if_neg (Bool.eq_false_iff.mp b45), reduceIte, Bool.false_eq_true] <;> rfl))
      · refine z_iload_n g dX2_readRoot_48 0 rfl ?_
        refine z_goto g 54 dX2_readRoot_49 (by decide) ?_
        exact hret _ _ _ _ dX2_readRoot_54 ((by first | (rw [b11] at b45; cases b45; done) | (simp only [rrV, if_pos b11, if_pos b39, if_pos b45, reduceIte, Bool.false_eq_true] <;> rfl))) ((by simp only [rrN, if_pos b11, if_pos b39, if_pos b45, reduceIte, Bool.false_eq_true] <;> rfl))
    · refine z_ic4 g dX2_readRoot_42 ?_
      exact hret _ _ _ _ dX2_readRoot_43 ((by first | (rw [b11] at b45; cases b45; done) | (simp only [rrV, if_pos b11, if_neg b39, reduceIte, Bool.false_eq_true] <;> rfl))) ((by simp only [rrN, if_pos b11, if_neg b39, reduceIte, Bool.false_eq_true] <;> rfl))
  · refine z_aload_n g dX2_readRoot_14 1 rfl ?_
    refine z_get g hX2 0 rfl rfl 0 (by decide) (mi 1 rfl) rfl dX2_readRoot_15 ?_
    refine z_bi g 43 dX2_readRoot_18 (by decide) ?_
    refine z_callVi (w' := [_, _, _]) (wr := [_]) g (k_X0_takes l G k _ _ _ _ _ _ (by assumption) (by repeat (first | assumption | apply takesN_le | apply rnN_le | apply rpN_le | apply sgN_le | apply rrN_le | (apply dgN_le (by decide)) | apply rtS_le | apply rfS_le))) 1 gX2_readRoot_X0_takes rfl rfl rfl nd_X0_takes ⟨by decide, by decide⟩ 1 rfl rfl [1, 2] [0] [0, 1, 2] rfl rfl rfl rfl (by decide) rfl rfl rfl rfl (Nat.le_of_ble_eq_true rfl) dX2_readRoot_20 ⟨by decide, by decide⟩ ?_
    refine z_bf_ne g (tgt := 28) dX2_readRoot_23 (by decide) (fun b23 => ?_) (fun b23 => ?_)
    · refine z_aload_n g dX2_readRoot_28 1 rfl ?_
      refine z_get g hX2 0 rfl rfl 0 (by decide) (mi 1 rfl) rfl dX2_readRoot_29 ?_
      refine z_ic1 g dX2_readRoot_32 ?_
      refine z_ic3 g dX2_readRoot_33 ?_
      refine z_callVi (w' := [_, _, _]) (wr := [_]) g (k_X0_takeDigit l G k _ _ _ _ _ _ _ (by assumption) (by repeat (first | assumption | apply takesN_le | apply rnN_le | apply rpN_le | apply sgN_le | apply rrN_le | (apply dgN_le (by decide)) | apply rtS_le | apply rfS_le))) 2 gX2_readRoot_X0_takeDigit rfl rfl rfl nd_X0_takeDigit ⟨by decide, by decide⟩ 1 rfl rfl [1, 2] [0] [0, 1, 2] rfl rfl rfl rfl (by decide) rfl rfl rfl rfl (Nat.le_of_ble_eq_true rfl) dX2_readRoot_34 ⟨by decide, by decide⟩ ?_
      refine z_istore_n (lv' := [(2, .int _), (1, .int _), (0, .ref _)]) g dX2_readRoot_37 (by decide) rfl ?_
      refine z_iload_n g dX2_readRoot_38 0 rfl ?_
      refine z_if_ge g (tgt := 44) dX2_readRoot_39 (by decide) (fun b39 => ?_) (fun b39 => ?_)
      · refine z_iload_n g dX2_readRoot_44 1 rfl ?_
        refine z_bf_eq g (tgt := 52) dX2_readRoot_45 (by decide) (fun b45 => ?_) (fun b45 => ?_)
        · refine z_iload_n g dX2_readRoot_52 0 rfl ?_
          refine z_ineg g dX2_readRoot_53 ?_
          exact hret _ _ _ _ dX2_readRoot_54 ((by first | (rw [b11] at b45; cases b45; done) | (simp only [rrV, if_neg (Bool.eq_false_iff.mp b11), if_pos b23, if_pos b39, if_neg (Bool.eq_false_iff.mp b45), reduceIte, Bool.false_eq_true] <;> rfl))) ((by simp only [rrN, if_neg (Bool.eq_false_iff.mp b11), if_pos b23, if_pos b39, if_neg (Bool.eq_false_iff.mp b45), reduceIte, Bool.false_eq_true] <;> rfl))
        · refine z_iload_n g dX2_readRoot_48 0 rfl ?_
          refine z_goto g 54 dX2_readRoot_49 (by decide) ?_
          exact hret _ _ _ _ dX2_readRoot_54 ((by first | (rw [b11] at b45; cases b45; done) | (simp only [rrV, if_neg (Bool.eq_false_iff.mp b11), if_pos b23, if_pos b39, if_pos b45, reduceIte, Bool.false_eq_true] <;> rfl))) ((by simp only [rrN, if_neg (Bool.eq_false_iff.mp b11), if_pos b23, if_pos b39, if_pos b45, reduceIte, Bool.false_eq_true] <;> rfl))
      · refine z_ic4 g dX2_readRoot_42 ?_
        exact hret _ _ _ _ dX2_readRoot_43 ((by first | (rw [b11] at b45; cases b45; done) | (simp only [rrV, if_neg (Bool.eq_false_iff.mp b11), if_pos b23, if_neg b39, reduceIte, Bool.false_eq_true] <;> rfl))) ((by simp only [rrN, if_neg (Bool.eq_false_iff.mp b11), if_pos b23, if_neg b39, reduceIte, Bool.false_eq_true] <;> rfl))
    · refine z_ic0 g dX2_readRoot_26 ?_
      exact hret _ _ _ _ dX2_readRoot_27 ((by first | (rw [b11] at b45; cases b45; done) | (simp only [rrV, if_neg (Bool.eq_false_iff.mp b11), if_neg (Bool.eq_false_iff.mp b23), reduceIte, Bool.false_eq_true] <;> rfl))) ((by simp only [rrN, if_neg (Bool.eq_false_iff.mp b11), if_neg (Bool.eq_false_iff.mp b23), reduceIte, Bool.false_eq_true] <;> rfl))
theorem nd_X2_readRoot : yX2_readRoot.cls = RX2 ∧ yX2_readRoot.cls ≠ "java/lang/invoke/MethodHandle" ∧ yX2_readRoot.cls ≠ "java/lang/invoke/VarHandle" ∧ (parseMethodDescriptor yX2_readRoot.desc).map (fun d => d.parameters.length) = some 0 := by decide +kernel
set_option maxHeartbeats 4000000 in
set_option maxRecDepth 100000 in
/-- readFactor() -/
theorem k_X2_readFactor (l : Launch) (G : va_G) (k : Nat → ClassId) (h0 a0 a1 a2 a3 a4 a5 a6 a7 a8 a9 a10 : Nat) (c0 : Nat) (f : Nat → Int32) (n i : Nat) (T : Nat → Int32) (hn : n ≤ 30) (hi : i ≤ n) : ∀ sz, Met l yX2_readFactor wsX2_readFactor ({ frames := 3, cells := 0, slots := 0, locals := 65 }) (va_Pc [.ref h0] (KP G k [(h0, .inr (2, [.ref a0, .ref a1, .ref a2, .ref a3, .ref a4, .ref a5, .ref a6, .ref a7, .ref a8, .ref a9, .ref a10])), (a0, .inr (0, [.ref c0, .int (nI n), .int (nI i)])), (c0, .inl (k 0, 30, .inl f)), (a8, .inl (k 1, 7, .inl T))] sz)) (va_Qi (fun r (_ : Unit) => r = bI (rfS f n i T).1) (KQ G [(h0, .inr (2, [.ref a0, .ref a1, .ref a2, .ref a3, .ref a4, .ref a5, .ref a6, .ref a7, .ref a8, .ref a9, .ref a10])), (a0, .inr (0, [.ref c0, .int (nI n), .int (nI ((rfS f n i T).2.1))])), (c0, .inl (k 0, 30, .inl f)), (a8, .inl (k 1, 7, .inl ((rfS f n i T).2.2)))] (va_A [(h0, .inr (2, [.ref a0, .ref a1, .ref a2, .ref a3, .ref a4, .ref a5, .ref a6, .ref a7, .ref a8, .ref a9, .ref a10])), (a0, .inr (0, [.ref c0, .int (nI n), .int (nI i)])), (c0, .inl (k 0, 30, .inl f)), (a8, .inl (k 1, 7, .inl T))] sz)) (va_A [(h0, .inr (2, [.ref a0, .ref a1, .ref a2, .ref a3, .ref a4, .ref a5, .ref a6, .ref a7, .ref a8, .ref a9, .ref a10])), (a0, .inr (0, [.ref c0, .int (nI n), .int (nI i)])), (c0, .inl (k 0, 30, .inl f)), (a8, .inl (k 1, 7, .inl T))] sz)) 0 0 (va_A [(h0, .inr (2, [.ref a0, .ref a1, .ref a2, .ref a3, .ref a4, .ref a5, .ref a6, .ref a7, .ref a8, .ref a9, .ref a10])), (a0, .inr (0, [.ref c0, .int (nI n), .int (nI i)])), (c0, .inl (k 0, 30, .inl f)), (a8, .inl (k 1, 7, .inl T))] sz) := by
  refine met_z 0 0 (lv0 := [(0, .ref h0)]) (own := RX2) (by decide) rfl rfl (Nat.le_of_ble_eq_true rfl) rfl bI_n (fun Z g hret => ?_)
  have hX2 : ∀ w ∈ u_ws RX2 TX2 11, w ∈ wsX2_readFactor := fun w h => List.mem_cons_of_mem _ (List.mem_append_left _ (List.mem_append_right _ (h)))
  refine z_aload_n g dX2_readFactor_0 0 rfl ?_
  refine z_get g hX2 0 rfl rfl 0 (by decide) (mi 1 rfl) rfl dX2_readFactor_1 ?_
  refine z_bi g 40 dX2_readFactor_4 (by decide) ?_
  refine z_callVi (w' := [_, _, _, _]) (wr := [_, _]) g (k_X0_takes l G k _ _ _ _ _ _ (by assumption) (by repeat (first | assumption | apply takesN_le | apply rnN_le | apply rpN_le | apply sgN_le | apply rrN_le | (apply dgN_le (by decide)) | apply rtS_le | apply rfS_le))) 1 gX2_readFactor_X0_takes rfl rfl rfl nd_X0_takes ⟨by decide, by decide⟩ 1 rfl rfl [1, 2] [0, 3] [0, 2, 3, 1] rfl rfl rfl rfl (by decide) rfl rfl rfl rfl (Nat.le_of_ble_eq_true rfl) dX2_readFactor_6 ⟨by decide, by decide⟩ ?_
  refine z_bf_eq g (tgt := 24) dX2_readFactor_9 (by decide) (fun b9 => ?_) (fun b9 => ?_)
  · refine z_ic0 g dX2_readFactor_24 ?_
    exact hret _ _ _ _ dX2_readFactor_25 ((by simp only [rfS, rfB, rfC, if_neg (Bool.eq_false_iff.mp b9), reduceIte, Bool.false_eq_true] <;> rfl)) ((by simp only [rfS, rfB, rfC, if_neg (Bool.eq_false_iff.mp b9), reduceIte, Bool.false_eq_true]))
  · refine z_aload_n g dX2_readFactor_12 0 rfl ?_
    refine z_get g hX2 0 rfl rfl 0 (by decide) (mi 1 rfl) rfl dX2_readFactor_13 ?_
    refine z_bi g 120 dX2_readFactor_16 (by decide) ?_
    refine z_callVi (w' := [_, _, _, _]) (wr := [_, _]) g (k_X0_takes l G k _ _ _ _ _ _ (by assumption) (by repeat (first | assumption | apply takesN_le | apply rnN_le | apply rpN_le | apply sgN_le | apply rrN_le | (apply dgN_le (by decide)) | apply rtS_le | apply rfS_le))) 1 gX2_readFactor_X0_takes rfl rfl rfl nd_X0_takes ⟨by decide, by decide⟩ 1 rfl rfl [1, 2] [0, 3] [0, 2, 3, 1] rfl rfl rfl rfl (by decide) rfl rfl rfl rfl (Nat.le_of_ble_eq_true rfl) dX2_readFactor_18 ⟨by decide, by decide⟩ ?_
    refine z_bf_ne g (tgt := 26) dX2_readFactor_21 (by decide) (fun b21 => ?_) (fun b21 => ?_)
    · refine z_aload_n g dX2_readFactor_26 0 rfl ?_
      refine z_callVi (w' := [_, _, _, _]) (wr := [_]) g (k_X2_readRoot l G k _ _ _ _ _ _ _ _ _ _ _ _ _ _ _ _ (by assumption) (by repeat (first | assumption | apply takesN_le | apply rnN_le | apply rpN_le | apply sgN_le | apply rrN_le | (apply dgN_le (by decide)) | apply rtS_le | apply rfS_le))) 0 gX2_readFactor_X2_readRoot rfl rfl rfl nd_X2_readRoot ⟨by decide, by decide⟩ 0 rfl rfl [0, 1, 2] [3] [1, 2, 3, 0] rfl rfl rfl rfl (by decide) rfl rfl rfl rfl (Nat.le_of_ble_eq_true rfl) dX2_readFactor_27 ⟨by decide, by decide⟩ ?_
      refine z_istore_n (lv' := [(1, .int _), (0, .ref _)]) g dX2_readFactor_30 (by decide) rfl ?_
      refine z_iload_n g dX2_readFactor_31 0 rfl ?_
      refine z_callSi (w' := [_, _, _, _]) (wr := [_, _, _, _]) g (k_X2_isPossibleRoot l G k _) 1 gX2_readFactor_X2_isPossibleRoot rfl rfl rfl nd_X2_isPossibleRoot ⟨by decide, by decide⟩ [] [0, 1, 2, 3] [0, 1, 2, 3] rfl rfl rfl rfl (by decide) rfl rfl rfl rfl (Nat.le_of_ble_eq_true rfl) dX2_readFactor_32 ⟨by decide, by decide⟩ ?_
      refine z_bf_eq g (tgt := 50) dX2_readFactor_35 (by decide) (fun b35 => ?_) (fun b35 => ?_)
      · refine z_ic0 g dX2_readFactor_50 ?_
        exact hret _ _ _ _ dX2_readFactor_51 ((by simp only [rfS, rfB, rfC, if_pos b9, if_pos b21, if_neg (Bool.eq_false_iff.mp b35), reduceIte, Bool.false_eq_true] <;> rfl)) ((by simp only [rfS, rfB, rfC, if_pos b9, if_pos b21, if_neg (Bool.eq_false_iff.mp b35), reduceIte, Bool.false_eq_true]))
      · refine z_aload_n g dX2_readFactor_38 1 rfl ?_
        refine z_get g hX2 0 rfl rfl 0 (by decide) (mi 1 rfl) rfl dX2_readFactor_39 ?_
        refine z_bi g 41 dX2_readFactor_42 (by decide) ?_
        refine z_callVi (w' := [_, _, _, _]) (wr := [_, _]) g (k_X0_takes l G k _ _ _ _ _ _ (by assumption) (by repeat (first | assumption | apply takesN_le | apply rnN_le | apply rpN_le | apply sgN_le | apply rrN_le | (apply dgN_le (by decide)) | apply rtS_le | apply rfS_le))) 1 gX2_readFactor_X0_takes rfl rfl rfl nd_X0_takes ⟨by decide, by decide⟩ 1 rfl rfl [1, 2] [0, 3] [0, 2, 3, 1] rfl rfl rfl rfl (by decide) rfl rfl rfl rfl (Nat.le_of_ble_eq_true rfl) dX2_readFactor_44 ⟨by decide, by decide⟩ ?_
        refine z_bf_ne g (tgt := 52) dX2_readFactor_47 (by decide) (fun b47 => ?_) (fun b47 => ?_)
        · refine z_aload_n g dX2_readFactor_52 1 rfl ?_
          refine z_get g hX2 0 rfl rfl 0 (by decide) (mi 1 rfl) rfl dX2_readFactor_53 ?_
          refine z_bi g 94 dX2_readFactor_56 (by decide) ?_
          refine z_callVi (w' := [_, _, _, _]) (wr := [_, _]) g (k_X0_takes l G k _ _ _ _ _ _ (by assumption) (by repeat (first | assumption | apply takesN_le | apply rnN_le | apply rpN_le | apply sgN_le | apply rrN_le | (apply dgN_le (by decide)) | apply rtS_le | apply rfS_le))) 1 gX2_readFactor_X0_takes rfl rfl rfl nd_X0_takes ⟨by decide, by decide⟩ 1 rfl rfl [1, 2] [0, 3] [0, 2, 3, 1] rfl rfl rfl rfl (by decide) rfl rfl rfl rfl (Nat.le_of_ble_eq_true rfl) dX2_readFactor_58 ⟨by decide, by decide⟩ ?_
          refine z_bf_eq g (tgt := 76) dX2_readFactor_61 (by decide) (fun b61 => ?_) (fun b61 => ?_)
          · refine z_ic1 g dX2_readFactor_76 ?_
            refine z_istore_n (lv' := [(2, .int _), (1, .int _), (0, .ref _)]) g dX2_readFactor_77 (by decide) rfl ?_
            refine z_iload_n g dX2_readFactor_78 0 rfl ?_
            refine z_if_ge g (tgt := 84) dX2_readFactor_79 (by decide) (fun b79 => ?_) (fun b79 => ?_)
            · refine z_aload_n g dX2_readFactor_84 2 rfl ?_
              refine z_get g hX2 0 rfl rfl 8 (by decide) (mi 2 rfl) rfl dX2_readFactor_85 ?_
              refine z_iload_n g dX2_readFactor_88 1 rfl ?_
              refine z_bi g (-3) dX2_readFactor_89 (by decide) ?_
              refine z_isub g dX2_readFactor_91 ?_
              refine z_dup2 g dX2_readFactor_92 rfl rfl ?_
              refine z_iald g 3 rfl (rix (rrV f n (takesN f n (takesN f n i 40) 120))) (rix_ok b35).1 (rix_ok b35).2 (by decide) dX2_readFactor_93 ?_
              refine z_iload_n g dX2_readFactor_94 0 rfl ?_
              refine z_iadd g dX2_readFactor_95 ?_
              refine z_iast (w' := [_, _, _, _]) g 3 rfl (rix (rrV f n (takesN f n (takesN f n i 40) 120))) (rix_ok b35).1 (rix_ok b35).2 (by decide) dX2_readFactor_96 rfl ?_
              refine z_ic1 g dX2_readFactor_97 ?_
              exact hret _ _ _ _ dX2_readFactor_98 ((by simp only [rfS, rfB, rfC, if_pos b9, if_pos b21, if_pos b35, if_pos b47, if_neg (Bool.eq_false_iff.mp b61), if_pos b79, reduceIte, Bool.false_eq_true] <;> rfl)) ((by simp only [rfS, rfB, rfC, if_pos b9, if_pos b21, if_pos b35, if_pos b47, if_neg (Bool.eq_false_iff.mp b61), if_pos b79, reduceIte, Bool.false_eq_true]))
            · exact absurd (by decide) b79
          · refine z_aload_n g dX2_readFactor_64 1 rfl ?_
            refine z_get g hX2 0 rfl rfl 0 (by decide) (mi 1 rfl) rfl dX2_readFactor_65 ?_
            refine z_ic1 g dX2_readFactor_68 ?_
            refine z_ic3 g dX2_readFactor_69 ?_
            refine z_callVi (w' := [_, _, _, _]) (wr := [_, _]) g (k_X0_takeDigit l G k _ _ _ _ _ _ _ (by assumption) (by repeat (first | assumption | apply takesN_le | apply rnN_le | apply rpN_le | apply sgN_le | apply rrN_le | (apply dgN_le (by decide)) | apply rtS_le | apply rfS_le))) 2 gX2_readFactor_X0_takeDigit rfl rfl rfl nd_X0_takeDigit ⟨by decide, by decide⟩ 1 rfl rfl [1, 2] [0, 3] [0, 2, 3, 1] rfl rfl rfl rfl (by decide) rfl rfl rfl rfl (Nat.le_of_ble_eq_true rfl) dX2_readFactor_70 ⟨by decide, by decide⟩ ?_
            refine z_goto g 77 dX2_readFactor_73 (by decide) ?_
            refine z_istore_n (lv' := [(2, .int _), (1, .int _), (0, .ref _)]) g dX2_readFactor_77 (by decide) rfl ?_
            refine z_iload_n g dX2_readFactor_78 0 rfl ?_
            refine z_if_ge g (tgt := 84) dX2_readFactor_79 (by decide) (fun b79 => ?_) (fun b79 => ?_)
            · refine z_aload_n g dX2_readFactor_84 2 rfl ?_
              refine z_get g hX2 0 rfl rfl 8 (by decide) (mi 2 rfl) rfl dX2_readFactor_85 ?_
              refine z_iload_n g dX2_readFactor_88 1 rfl ?_
              refine z_bi g (-3) dX2_readFactor_89 (by decide) ?_
              refine z_isub g dX2_readFactor_91 ?_
              refine z_dup2 g dX2_readFactor_92 rfl rfl ?_
              refine z_iald g 3 rfl (rix (rrV f n (takesN f n (takesN f n i 40) 120))) (rix_ok b35).1 (rix_ok b35).2 (by decide) dX2_readFactor_93 ?_
              refine z_iload_n g dX2_readFactor_94 0 rfl ?_
              refine z_iadd g dX2_readFactor_95 ?_
              refine z_iast (w' := [_, _, _, _]) g 3 rfl (rix (rrV f n (takesN f n (takesN f n i 40) 120))) (rix_ok b35).1 (rix_ok b35).2 (by decide) dX2_readFactor_96 rfl ?_
              refine z_ic1 g dX2_readFactor_97 ?_
              exact hret _ _ _ _ dX2_readFactor_98 ((by simp only [rfS, rfB, rfC, if_pos b9, if_pos b21, if_pos b35, if_pos b47, if_pos b61, if_pos b79, reduceIte, Bool.false_eq_true] <;> rfl)) ((by simp only [rfS, rfB, rfC, if_pos b9, if_pos b21, if_pos b35, if_pos b47, if_pos b61, if_pos b79, reduceIte, Bool.false_eq_true]))
            · refine z_ic0 g dX2_readFactor_82 ?_
              exact hret _ _ _ _ dX2_readFactor_83 ((by simp only [rfS, rfB, rfC, if_pos b9, if_pos b21, if_pos b35, if_pos b47, if_pos b61, if_neg b79, reduceIte, Bool.false_eq_true] <;> rfl)) ((by simp only [rfS, rfB, rfC, if_pos b9, if_pos b21, if_pos b35, if_pos b47, if_pos b61, if_neg b79, reduceIte, Bool.false_eq_true]))
        · refine z_ic0 g dX2_readFactor_50 ?_
          exact hret _ _ _ _ dX2_readFactor_51 ((by simp only [rfS, rfB, rfC, if_pos b9, if_pos b21, if_pos b35, if_neg (Bool.eq_false_iff.mp b47), reduceIte, Bool.false_eq_true] <;> rfl)) ((by simp only [rfS, rfB, rfC, if_pos b9, if_pos b21, if_pos b35, if_neg (Bool.eq_false_iff.mp b47), reduceIte, Bool.false_eq_true]))
    · refine z_ic0 g dX2_readFactor_24 ?_
      exact hret _ _ _ _ dX2_readFactor_25 ((by simp only [rfS, rfB, rfC, if_pos b9, if_neg (Bool.eq_false_iff.mp b21), reduceIte, Bool.false_eq_true] <;> rfl)) ((by simp only [rfS, rfB, rfC, if_pos b9, if_neg (Bool.eq_false_iff.mp b21), reduceIte, Bool.false_eq_true]))
theorem nd_X2_readFactor : yX2_readFactor.cls = RX2 ∧ yX2_readFactor.cls ≠ "java/lang/invoke/MethodHandle" ∧ yX2_readFactor.cls ≠ "java/lang/invoke/VarHandle" ∧ (parseMethodDescriptor yX2_readFactor.desc).map (fun d => d.parameters.length) = some 0 := by decide +kernel
set_option maxHeartbeats 4000000 in
set_option maxRecDepth 100000 in
/-- Arrays.fill(int[], int) -/
theorem k_J7_fill_53178 (l : Launch) (G : va_G) (k : Nat → ClassId) (h0 n : Nat) (f : Nat → Int32) (p0 : Int32) (hn : n < 2 ^ 31) : ∀ sz, Met l yJ7_fill_53178 wsJ7_fill_53178 ({ frames := 0, cells := 0, slots := 0, locals := 0 }) (va_Pc [.ref h0, .int p0] (KP G k [(h0, .inl (k 1, n, .inl f))] sz)) (va_Qv (fun (_ : Unit) => True) (KQ G [(h0, .inl (k 1, n, .inl (fun _ => p0)))] (va_A [(h0, .inl (k 1, n, .inl f))] sz)) (va_A [(h0, .inl (k 1, n, .inl f))] sz)) 0 0 (va_A [(h0, .inl (k 1, n, .inl f))] sz) := by
  refine met_v 0 0 (lv0 := [(0, .ref h0), (1, .int p0)]) (own := RJ7) (by decide) rfl rfl (Nat.le_of_ble_eq_true rfl) rfl (fun Z g hret => ?_)
  refine z_ic0 g dJ7_fill_53178_0 ?_
  refine z_istore_n (lv' := [(2, .int _), (0, .ref _), (1, .int _)]) g dJ7_fill_53178_1 (by decide) rfl ?_
  refine z_aload_n g dJ7_fill_53178_2 1 rfl ?_
  refine z_alen g 0 1 rfl rfl (nI n) rfl dJ7_fill_53178_3 ?_
  refine z_istore_n (lv' := [(3, .int _), (2, .int _), (0, .ref _), (1, .int _)]) g dJ7_fill_53178_4 (by decide) rfl ?_
  have cut_5 : ∀ (N5 : Nat) (j : Nat) (f' : Nat → Int32), n - j < N5 → (j ≤ n) → (∀ i, i < j → f' i = p0) → Z 0 0 [(h0, .inl (k 1, n, .inl f'))] [(0, .ref h0), (1, .int p0), (2, .int (nI j)), (3, .int (nI n))] 5 [] := by
    intro N5
    induction N5 with
    | zero => intro j f' hms; exact absurd hms (Nat.not_lt_zero _)
    | succ N5 ih5 =>
      intro j f' hms5 hj hI
      refine z_iload_n g dJ7_fill_53178_5 2 rfl ?_
      refine z_iload_n g dJ7_fill_53178_6 3 rfl ?_
      refine z_n_ge g (a := j) (b := n) (tgt := 20) (by omega) (by omega) dJ7_fill_53178_7 (by decide) (fun b7 => ?_) (fun b7 => ?_)
      · refine z_eqI (w' := [_]) g (fun _ => p0) 0 rfl (fun i h => hI i (by omega)) rfl ?_
        exact hret _ _ _ dJ7_fill_53178_20 (rfl)
      · refine z_aload_n g dJ7_fill_53178_10 0 rfl ?_
        refine z_iload_n g dJ7_fill_53178_11 2 rfl ?_
        refine z_iload_n g dJ7_fill_53178_12 1 rfl ?_
        refine z_iast (w' := [_]) g 0 rfl j rfl (by omega) (by assumption) dJ7_fill_53178_13 rfl ?_
        refine z_inc (lv' := [(2, .int _), (0, .ref _), (1, .int _), (3, .int _)]) g dJ7_fill_53178_14 2 rfl (by decide) rfl ?_
        refine z_goto g 5 dJ7_fill_53178_17 (by decide) ?_
        refine z_locs (lv' := [(0, .ref _), (1, .int _), (2, .int _), (3, .int _)]) g [1, 2, 0, 3] rfl ?_
        exact ih5 _ _ (by omega) (by omega) (fun i h => by unfold upd; split; rfl; exact hI i (by omega))
  refine z_locs (lv' := [(0, .ref _), (1, .int _), (2, .int _), (3, .int _)]) g [2, 3, 1, 0] rfl ?_
  exact cut_5 _ _ _ (Nat.lt_succ_self _) (Nat.zero_le _) (fun i h => absurd h (Nat.not_lt_zero _))
theorem nd_J7_fill_53178 : yJ7_fill_53178.cls ≠ "java/lang/invoke/MethodHandle" ∧ yJ7_fill_53178.cls ≠ "java/lang/invoke/VarHandle" ∧ (parseMethodDescriptor yJ7_fill_53178.desc).map (fun d => d.parameters.length) = some 2 := by decide +kernel
set_option maxHeartbeats 4000000 in
set_option maxRecDepth 100000 in
/-- readProduct() -/
theorem k_X2_readProduct (l : Launch) (G : va_G) (k : Nat → ClassId) (h0 a0 a1 a2 a3 a4 a5 a6 a7 a8 a9 a10 : Nat) (c0 : Nat) (f : Nat → Int32) (n i : Nat) (T : Nat → Int32) (hn : n ≤ 30) (hi : i ≤ n) : ∀ sz, Met l yX2_readProduct wsX2_readProduct ({ frames := 4, cells := 0, slots := 0, locals := 87 }) (va_Pc [.ref h0] (KP G k [(h0, .inr (2, [.ref a0, .ref a1, .ref a2, .ref a3, .ref a4, .ref a5, .ref a6, .ref a7, .ref a8, .ref a9, .ref a10])), (a0, .inr (0, [.ref c0, .int (nI n), .int (nI i)])), (c0, .inl (k 0, 30, .inl f)), (a8, .inl (k 1, 7, .inl T))] sz)) (va_Qi (fun r (_ : Unit) => r = bI (fpB n (fpS f n i))) (KQ G [(h0, .inr (2, [.ref a0, .ref a1, .ref a2, .ref a3, .ref a4, .ref a5, .ref a6, .ref a7, .ref a8, .ref a9, .ref a10])), (a0, .inr (0, [.ref c0, .int (nI n), .int (nI ((fpS f n i).2.1))])), (c0, .inl (k 0, 30, .inl f)), (a8, .inl (k 1, 7, .inl ((fpS f n i).2.2)))] (va_A [(h0, .inr (2, [.ref a0, .ref a1, .ref a2, .ref a3, .ref a4, .ref a5, .ref a6, .ref a7, .ref a8, .ref a9, .ref a10])), (a0, .inr (0, [.ref c0, .int (nI n), .int (nI i)])), (c0, .inl (k 0, 30, .inl f)), (a8, .inl (k 1, 7, .inl T))] sz)) (va_A [(h0, .inr (2, [.ref a0, .ref a1, .ref a2, .ref a3, .ref a4, .ref a5, .ref a6, .ref a7, .ref a8, .ref a9, .ref a10])), (a0, .inr (0, [.ref c0, .int (nI n), .int (nI i)])), (c0, .inl (k 0, 30, .inl f)), (a8, .inl (k 1, 7, .inl T))] sz)) 0 0 (va_A [(h0, .inr (2, [.ref a0, .ref a1, .ref a2, .ref a3, .ref a4, .ref a5, .ref a6, .ref a7, .ref a8, .ref a9, .ref a10])), (a0, .inr (0, [.ref c0, .int (nI n), .int (nI i)])), (c0, .inl (k 0, 30, .inl f)), (a8, .inl (k 1, 7, .inl T))] sz) := by
  refine met_z 0 0 (lv0 := [(0, .ref h0)]) (own := RX2) (by decide) rfl rfl (Nat.le_of_ble_eq_true rfl) rfl bI_n (fun Z g hret => ?_)
  have hX2 : ∀ w ∈ u_ws RX2 TX2 11, w ∈ wsX2_readProduct := fun w h => List.mem_cons_of_mem _ (List.mem_append_left _ (List.mem_append_right _ (h)))
  refine z_aload_n g dX2_readProduct_0 0 rfl ?_
  refine z_get g hX2 0 rfl rfl 8 (by decide) (mi 1 rfl) rfl dX2_readProduct_1 ?_
  refine z_ic0 g dX2_readProduct_4 ?_
  refine z_callSv (w' := [_, _, _, _]) (wr := [_, _, _]) g (k_J7_fill_53178 l G k _ _ _ _ (by decide)) 2 gX2_readProduct_J7_fill_53178 rfl rfl rfl nd_J7_fill_53178 ⟨by decide, by decide⟩ [3] [0, 1, 2] [0, 1, 2, 3] rfl rfl rfl rfl (by decide) rfl rfl rfl rfl (Nat.le_of_ble_eq_true rfl) dX2_readProduct_5 ⟨by decide, by decide⟩ ?_
  refine z_aload_n g dX2_readProduct_8 0 rfl ?_
  refine z_callVi (w' := [_, _, _, _]) (wr := []) g (k_X2_readFactor l G k _ _ _ _ _ _ _ _ _ _ _ _ _ _ _ _ _ (by assumption) (by repeat (first | assumption | apply takesN_le | apply rnN_le | apply rpN_le | apply sgN_le | apply rrN_le | (apply dgN_le (by decide)) | apply rtS_le | apply rfS_le))) 0 gX2_readProduct_X2_readFactor rfl rfl rfl nd_X2_readFactor ⟨by decide, by decide⟩ 0 rfl rfl [0, 1, 2, 3] [] [0, 1, 2, 3] rfl rfl rfl rfl (by decide) rfl rfl rfl rfl (Nat.le_of_ble_eq_true rfl) dX2_readProduct_9 ⟨by decide, by decide⟩ ?_
  refine z_istore_n (lv' := [(1, .int _), (0, .ref _)]) g dX2_readProduct_12 (by decide) rfl ?_
  refine z_ic1 g dX2_readProduct_13 ?_
  refine z_istore_n (lv' := [(2, .int _), (1, .int _), (0, .ref _)]) g dX2_readProduct_14 (by decide) rfl ?_
  have cut_15 : ∀ (N15 : Nat) (s : Nat) (gd : Bool) (i' : Nat) (T' : Nat → Int32), 30 - s < N15 → (s ≤ 30) → (i' ≤ n) → (flS f n (30 - s) gd i' T' = fpS f n i) → Z 0 0 [(h0, .inr (2, [.ref a0, .ref a1, .ref a2, .ref a3, .ref a4, .ref a5, .ref a6, .ref a7, .ref a8, .ref a9, .ref a10])), (a0, .inr (0, [.ref c0, .int (nI n), .int (nI i')])), (c0, .inl (k 0, 30, .inl f)), (a8, .inl (k 1, 7, .inl T'))] [(0, .ref h0), (1, .int (bI gd)), (2, .int (nI s))] 15 [] := by
    intro N15
    induction N15 with
    | zero => intro s gd i' T' hms; exact absurd hms (Nat.not_lt_zero _)
    | succ N15 ih15 =>
      intro s gd i' T' hms15 hs hi1 hI
      have cut_46 : (fpS f n i = (gd, i', T')) → Z 0 0 [(h0, .inr (2, [.ref a0, .ref a1, .ref a2, .ref a3, .ref a4, .ref a5, .ref a6, .ref a7, .ref a8, .ref a9, .ref a10])), (a0, .inr (0, [.ref c0, .int (nI n), .int (nI i')])), (c0, .inl (k 0, 30, .inl f)), (a8, .inl (k 1, 7, .inl T'))] [(0, .ref h0), (1, .int (bI gd))] 46 [] := by
        intro  hI5
        refine z_iload_n g dX2_readProduct_46 1 rfl ?_
        refine z_bf_eq g (tgt := 64) dX2_readProduct_47 (by decide) (fun b47 => ?_) (fun b47 => ?_)
        · refine z_ic0 g dX2_readProduct_64 ?_
          exact hret _ _ _ _ dX2_readProduct_65 ((by rw [hI5]; unfold fpB; simp only [reduceIte, if_neg (Bool.eq_false_iff.mp b47), Bool.false_eq_true] <;> rfl)) ((by rw [hI5]))
        · refine z_aload_n g dX2_readProduct_50 0 rfl ?_
          refine z_get g hX2 0 rfl rfl 0 (by decide) (mi 2 rfl) rfl dX2_readProduct_51 ?_
          refine z_callVi (w' := [_, _, _, _]) (wr := [_, _, _]) g (k_X0_isAtEnd l G k _ _ _ _ (by assumption) (by repeat (first | assumption | apply takesN_le | apply rnN_le | apply rpN_le | apply sgN_le | apply rrN_le | (apply dgN_le (by decide)) | apply rtS_le | apply rfS_le))) 0 gX2_readProduct_X0_isAtEnd rfl rfl rfl nd_X0_isAtEnd ⟨by decide, by decide⟩ 1 rfl rfl [1] [0, 2, 3] [0, 3, 1, 2] rfl rfl rfl rfl (by decide) rfl rfl rfl rfl (Nat.le_of_ble_eq_true rfl) dX2_readProduct_54 ⟨by decide, by decide⟩ ?_
          refine z_bd_eq g (tgt := 64) dX2_readProduct_57 (by decide) (fun b57 => ?_) (fun b57 => ?_)
          · refine z_ic0 g dX2_readProduct_64 ?_
            exact hret _ _ _ _ dX2_readProduct_65 ((by rw [hI5]; unfold fpB; simp only [reduceIte, if_pos b47, if_neg b57, Bool.false_eq_true] <;> rfl)) ((by rw [hI5]))
          · refine z_ic1 g dX2_readProduct_60 ?_
            refine z_goto g 65 dX2_readProduct_61 (by decide) ?_
            exact hret _ _ _ _ dX2_readProduct_65 ((by rw [hI5]; unfold fpB; simp only [reduceIte, if_pos b47, if_pos b57, Bool.false_eq_true] <;> rfl)) ((by rw [hI5]))
      refine z_iload_n g dX2_readProduct_15 2 rfl ?_
      refine z_bi g 30 dX2_readProduct_16 (by decide) ?_
      refine z_n_ge g (a := s) (b := 30) (tgt := 46) (by omega) (by omega) dX2_readProduct_18 (by decide) (fun b18 => ?_) (fun b18 => ?_)
      · refine z_locs (lv' := [(0, .ref _), (1, .int _)]) g [0, 1] rfl ?_
        exact cut_46 (by rw [← hI]; first | (rw [show 30 - s = 0 by omega]; rfl) | (rw [show 30 - s = (30 - (s + 1)) + 1 by omega]; show (if gd then _ else _) = _; simp only [reduceIte, if_pos b18, Bool.false_eq_true]))
      · refine z_iload_n g dX2_readProduct_21 1 rfl ?_
        refine z_bf_eq g (tgt := 46) dX2_readProduct_22 (by decide) (fun b22 => ?_) (fun b22 => ?_)
        · refine z_locs (lv' := [(0, .ref _), (1, .int _)]) g [0, 1] rfl ?_
          exact cut_46 (by rw [← hI]; first | (rw [show 30 - s = 0 by omega]; rfl) | (rw [show 30 - s = (30 - (s + 1)) + 1 by omega]; show (if gd then _ else _) = _; simp only [reduceIte, if_neg b18, if_neg (Bool.eq_false_iff.mp b22), Bool.false_eq_true]))
        · refine z_aload_n g dX2_readProduct_25 0 rfl ?_
          refine z_get g hX2 0 rfl rfl 0 (by decide) (mi 2 rfl) rfl dX2_readProduct_26 ?_
          refine z_callVi (w' := [_, _, _, _]) (wr := [_, _, _]) g (k_X0_isAtEnd l G k _ _ _ _ (by assumption) (by repeat (first | assumption | apply takesN_le | apply rnN_le | apply rpN_le | apply sgN_le | apply rrN_le | (apply dgN_le (by decide)) | apply rtS_le | apply rfS_le))) 0 gX2_readProduct_X0_isAtEnd rfl rfl rfl nd_X0_isAtEnd ⟨by decide, by decide⟩ 1 rfl rfl [1] [0, 2, 3] [0, 3, 1, 2] rfl rfl rfl rfl (by decide) rfl rfl rfl rfl (Nat.le_of_ble_eq_true rfl) dX2_readProduct_29 ⟨by decide, by decide⟩ ?_
          refine z_bd_ne g (tgt := 46) dX2_readProduct_32 (by decide) (fun b32 => ?_) (fun b32 => ?_)
          · refine z_locs (lv' := [(0, .ref _), (1, .int _)]) g [0, 1] rfl ?_
            exact cut_46 (by rw [← hI]; first | (rw [show 30 - s = 0 by omega]; rfl) | (rw [show 30 - s = (30 - (s + 1)) + 1 by omega]; show (if gd then _ else _) = _; simp only [reduceIte, if_neg b18, if_pos b22, if_pos b32, Bool.false_eq_true]))
          · refine z_aload_n g dX2_readProduct_35 0 rfl ?_
            refine z_callVi (w' := [_, _, _, _]) (wr := []) g (k_X2_readFactor l G k _ _ _ _ _ _ _ _ _ _ _ _ _ _ _ _ _ (by assumption) (by repeat (first | assumption | apply takesN_le | apply rnN_le | apply rpN_le | apply sgN_le | apply rrN_le | (apply dgN_le (by decide)) | apply rtS_le | apply rfS_le))) 0 gX2_readProduct_X2_readFactor rfl rfl rfl nd_X2_readFactor ⟨by decide, by decide⟩ 0 rfl rfl [0, 1, 2, 3] [] [0, 1, 2, 3] rfl rfl rfl rfl (by decide) rfl rfl rfl rfl (Nat.le_of_ble_eq_true rfl) dX2_readProduct_36 ⟨by decide, by decide⟩ ?_
            refine z_istore_n (lv' := [(1, .int _), (0, .ref _), (2, .int _)]) g dX2_readProduct_39 (by decide) rfl ?_
            refine z_inc (lv' := [(2, .int _), (1, .int _), (0, .ref _)]) g dX2_readProduct_40 2 rfl (by decide) rfl ?_
            refine z_goto g 15 dX2_readProduct_43 (by decide) ?_
            refine z_locs (lv' := [(0, .ref _), (1, .int _), (2, .int _)]) g [2, 1, 0] rfl ?_
            exact ih15 (s + 1) _ _ _ (by omega) (by omega) (by repeat (first | assumption | apply takesN_le | apply rnN_le | apply rpN_le | apply sgN_le | apply rrN_le | (apply dgN_le (by decide)) | apply rtS_le | apply rfS_le)) (by rw [← hI, show 30 - s = (30 - (s + 1)) + 1 by omega]; show _ = if gd then _ else _; simp only [reduceIte, if_neg b18, if_pos b22, if_neg b32])
  refine z_locs (lv' := [(0, .ref _), (1, .int _), (2, .int _)]) g [2, 1, 0] rfl ?_
  exact cut_15 _ 1 _ _ _ (Nat.lt_succ_self _) (by decide) (by repeat (first | assumption | apply takesN_le | apply rnN_le | apply rpN_le | apply sgN_le | apply rrN_le | (apply dgN_le (by decide)) | apply rtS_le | apply rfS_le)) rfl
theorem nd_X2_readProduct : yX2_readProduct.cls = RX2 ∧ yX2_readProduct.cls ≠ "java/lang/invoke/MethodHandle" ∧ yX2_readProduct.cls ≠ "java/lang/invoke/VarHandle" ∧ (parseMethodDescriptor yX2_readProduct.desc).map (fun d => d.parameters.length) = some 0 := by decide +kernel
set_option maxHeartbeats 4000000 in
set_option maxRecDepth 100000 in
/-- sum(numbers) -/
theorem k_X2_sum (l : Launch) (G : va_G) (k : Nat → ClassId) (h0 : Nat) (T : Nat → Int32) : ∀ sz, Met l yX2_sum wsX2_sum ({ frames := 0, cells := 0, slots := 0, locals := 0 }) (va_Pc [.ref h0] (KP G k [(h0, .inl (k 1, 7, .inl T))] sz)) (va_Qi (fun r (_ : Unit) => r = sumP T 7) (KQ G [(h0, .inl (k 1, 7, .inl T))] (va_A [(h0, .inl (k 1, 7, .inl T))] sz)) (va_A [(h0, .inl (k 1, 7, .inl T))] sz)) 0 0 (va_A [(h0, .inl (k 1, 7, .inl T))] sz) := by
  refine met_i 0 0 (lv0 := [(0, .ref h0)]) (own := RX2) (by decide) rfl rfl (Nat.le_of_ble_eq_true rfl) rfl (fun Z g hret => ?_)
  refine z_ic0 g dX2_sum_0 ?_
  refine z_istore_n (lv' := [(1, .int _), (0, .ref _)]) g dX2_sum_1 (by decide) rfl ?_
  refine z_aload_n g dX2_sum_2 1 rfl ?_
  refine z_astore_n (lv' := [(2, .ref _), (1, .int _), (0, .ref _)]) g dX2_sum_3 (by decide) rfl ?_
  refine z_aload_n g dX2_sum_4 0 rfl ?_
  refine z_alen g 0 1 rfl rfl (nI 7) rfl dX2_sum_5 ?_
  refine z_istore_n (lv' := [(3, .int _), (2, .ref _), (1, .int _), (0, .ref _)]) g dX2_sum_6 (by decide) rfl ?_
  refine z_ic0 g dX2_sum_7 ?_
  refine z_istore (lv' := [(4, .int _), (3, .int _), (2, .ref _), (1, .int _), (0, .ref _)]) g dX2_sum_8 (by decide) rfl ?_
  have cut_10 : ∀ (N10 : Nat) (j : Nat), 7 - j < N10 → (j ≤ 7) → Z 0 0 [(h0, .inl (k 1, 7, .inl T))] [(1, .int (sumP T j)), (2, .ref h0), (3, .int (nI 7)), (4, .int (nI j))] 10 [] := by
    intro N10
    induction N10 with
    | zero => intro j hms; exact absurd hms (Nat.not_lt_zero _)
    | succ N10 ih10 =>
      intro j hms10 hj
      refine z_iload g dX2_sum_10 3 rfl ?_
      refine z_iload_n g dX2_sum_12 2 rfl ?_
      refine z_n_ge g (a := j) (b := 7) (tgt := 33) (by omega) (by omega) dX2_sum_13 (by decide) (fun b13 => ?_) (fun b13 => ?_)
      · obtain rfl : j = 7 := by omega
        refine z_iload_n g dX2_sum_33 0 rfl ?_
        exact hret _ _ _ _ dX2_sum_34 (rfl) (rfl)
      · refine z_aload_n g dX2_sum_16 1 rfl ?_
        refine z_iload g dX2_sum_17 3 rfl ?_
        refine z_iald g 0 rfl j rfl (by omega) (by decide) dX2_sum_19 ?_
        refine z_istore (lv' := [(5, .int _), (1, .int _), (2, .ref _), (3, .int _), (4, .int _)]) g dX2_sum_20 (by decide) rfl ?_
        refine z_iload_n g dX2_sum_22 1 rfl ?_
        refine z_iload g dX2_sum_23 0 rfl ?_
        refine z_iadd g dX2_sum_25 ?_
        refine z_istore_n (lv' := [(1, .int _), (5, .int _), (2, .ref _), (3, .int _), (4, .int _)]) g dX2_sum_26 (by decide) rfl ?_
        refine z_inc (lv' := [(4, .int _), (1, .int _), (5, .int _), (2, .ref _), (3, .int _)]) g dX2_sum_27 4 rfl (by decide) rfl ?_
        refine z_goto g 10 dX2_sum_30 (by decide) ?_
        refine z_locs (lv' := [(1, .int _), (2, .ref _), (3, .int _), (4, .int _)]) g [1, 3, 4, 0] rfl ?_
        exact ih10 (j + 1) (by omega) (by omega)
  refine z_locs (lv' := [(1, .int _), (2, .ref _), (3, .int _), (4, .int _)]) g [3, 2, 1, 0] rfl ?_
  exact cut_10 _ 0 (Nat.lt_succ_self _) (by decide)
theorem nd_X2_sum : yX2_sum.cls ≠ "java/lang/invoke/MethodHandle" ∧ yX2_sum.cls ≠ "java/lang/invoke/VarHandle" ∧ (parseMethodDescriptor yX2_sum.desc).map (fun d => d.parameters.length) = some 1 := by decide +kernel
end
section
def cfP (F Be Qu : Nat → Int64) (o i : Int32) : Int64 := if o = 0 then getP F i else if o = 1 then getP Be i else if o = 2 then getP Qu i else 0
theorem sw2 (x : Int32) : x = 0 ∨ x = 1 ∨ x = 2 ∨ ((¬ x = 0 ∧ ¬ x = 1 ∧ ¬ x = 2) ∧ (x.toInt < 0 ∨ 2 < x.toInt)) := by
  by_cases h0 : x = 0
  · exact Or.inl h0
  · by_cases h1 : x = 1
    · exact Or.inr (Or.inl h1)
    · by_cases h2 : x = 2
      · exact Or.inr (Or.inr (Or.inl h2))
      · refine Or.inr (Or.inr (Or.inr ⟨⟨h0, h1, h2⟩, ?_⟩))
        have e : x = Int32.ofInt x.toInt := (Int32.ofInt_toInt x).symm
        rcases (show x.toInt < 0 ∨ 2 < x.toInt ∨ x.toInt = 0 ∨ x.toInt = 1 ∨ x.toInt = 2 by omega) with h | h | h | h | h
        · exact Or.inl h
        · exact Or.inr h
        · rw [h] at e; exact absurd e h0
        · rw [h] at e; exact absurd e h1
        · rw [h] at e; exact absurd e h2
def iiP (m : Nat → Nat) (r k : Int32) : Bool := if r = 9 then (if k < 1 then false else true) else if k < 0 then false else if nI (manyP m r) ≤ k then false else true
def nearP (x : UInt64) : Bool := if Op.cmpValue (FP.dcmp x 13860109328209412096) .l < 0 then false else if 0 < Op.cmpValue (FP.dcmp x 4636737291354636288) .g then false else true
def dz (p : UInt64) : Bool := decide (Op.cmpValue (FP.dcmp p FP.dconst0) .l = 0)
/-- one part more, by its fraction n / d and its p -/
def wpT (n d : Int64) (sum p : UInt64) : UInt64 := if dz p then sum else FP.dadd sum (FP.ddiv (FP.ddiv (FP.l2d n) (FP.l2d d)) p)
def wpK (n d : Int64) (sum p : UInt64) : Prop := dz p = false → vf_n64 (FP.ddiv (FP.l2d n) (FP.l2d d)) ∧ vf_n64 (FP.ddiv (FP.ddiv (FP.l2d n) (FP.l2d d)) p) ∧ vf_n64 (FP.dadd sum (FP.ddiv (FP.ddiv (FP.l2d n) (FP.l2d d)) p))
def wpL (n d : Nat → Int64) (e : UInt64) : Nat → Nat → UInt64 → UInt64 → UInt64
  | 0, _, sum, _ => sum
  | t + 1, i, sum, p => wpL n d e t (i + 1) (wpT (n i) (d i) sum p) (FP.dmul p e)
def wpOK (n d : Nat → Int64) (e : UInt64) : Nat → Nat → UInt64 → UInt64 → Prop
  | 0, _, _, _ => True
  | t + 1, i, sum, p => wpK (n i) (d i) sum p ∧ vf_n64 (FP.dmul p e) ∧ wpOK n d e t (i + 1) (wpT (n i) (d i) sum p) (FP.dmul p e)
def wpP (m : Nat → Nat) (A B : Nat → Int64) (r : Int32) (x sum : UInt64) : UInt64 := wpL (fun i => paP A 0 r (nI i)) (fun i => paP B 1 r (nI i)) (FP.dsub x (FP.i2d r)) (manyP m r) 1 sum (FP.dsub x (FP.i2d r))
def wpH (m : Nat → Nat) (A B : Nat → Int64) (r : Int32) (x sum : UInt64) : Prop := vf_n64 (FP.dsub x (FP.i2d r)) ∧ wpOK (fun i => paP A 0 r (nI i)) (fun i => paP B 1 r (nI i)) (FP.dsub x (FP.i2d r)) (manyP m r) 1 sum (FP.dsub x (FP.i2d r))
set_option maxHeartbeats 4000000 in
set_option maxRecDepth 100000 in
/-- write(c) -/
theorem k_X2_write (l : Launch) (G : va_G) (k : Nat → ClassId) (h0 a0 a1 a2 a3 a4 a5 a6 a7 a8 a9 a10 : Nat) (c0 : Nat) (f : Nat → Int32) (n i : Nat) (p0 : Int32) (hn : n ≤ 30) (hi : i ≤ n) : ∀ sz, Met l yX2_write wsX2_write ({ frames := 1, cells := 0, slots := 0, locals := 21 }) (va_Pc [.ref h0, .int p0] (KP G k [(h0, .inr (2, [.ref a0, .ref a1, .ref a2, .ref a3, .ref a4, .ref a5, .ref a6, .ref a7, .ref a8, .ref a9, .ref a10])), (a0, .inr (0, [.ref c0, .int (nI n), .int (nI i)])), (c0, .inl (k 0, 30, .inl f))] sz)) (va_Qi (fun r (_ : Unit) => r = bI (appP n p0)) (KQ G [(h0, .inr (2, [.ref a0, .ref a1, .ref a2, .ref a3, .ref a4, .ref a5, .ref a6, .ref a7, .ref a8, .ref a9, .ref a10])), (a0, .inr (0, [.ref c0, .int (nI (appN n p0)), .int (nI i)])), (c0, .inl (k 0, 30, .inl (appF f n p0)))] (va_A [(h0, .inr (2, [.ref a0, .ref a1, .ref a2, .ref a3, .ref a4, .ref a5, .ref a6, .ref a7, .ref a8, .ref a9, .ref a10])), (a0, .inr (0, [.ref c0, .int (nI n), .int (nI i)])), (c0, .inl (k 0, 30, .inl f))] sz)) (va_A [(h0, .inr (2, [.ref a0, .ref a1, .ref a2, .ref a3, .ref a4, .ref a5, .ref a6, .ref a7, .ref a8, .ref a9, .ref a10])), (a0, .inr (0, [.ref c0, .int (nI n), .int (nI i)])), (c0, .inl (k 0, 30, .inl f))] sz)) 0 0 (va_A [(h0, .inr (2, [.ref a0, .ref a1, .ref a2, .ref a3, .ref a4, .ref a5, .ref a6, .ref a7, .ref a8, .ref a9, .ref a10])), (a0, .inr (0, [.ref c0, .int (nI n), .int (nI i)])), (c0, .inl (k 0, 30, .inl f))] sz) := by
  refine met_z 0 0 (lv0 := [(0, .ref h0), (1, .int p0)]) (own := RX2) (by decide) rfl rfl (Nat.le_of_ble_eq_true rfl) rfl bI_n (fun Z g hret => ?_)
  have hX2 : ∀ w ∈ u_ws RX2 TX2 11, w ∈ wsX2_write := fun w h => List.mem_cons_of_mem _ (List.mem_append_left _ (List.mem_append_right _ (h)))
  refine z_aload_n g dX2_write_0 0 rfl ?_
  refine z_get g hX2 0 rfl rfl 0 (by decide) (mi 1 rfl) rfl dX2_write_1 ?_
  refine z_iload_n g dX2_write_4 1 rfl ?_
  refine z_callVi (w' := [_, _, _]) (wr := [_]) g (k_X0_append l G k _ _ _ _ _ _ (by assumption) (by repeat (first | assumption | apply takesN_le | apply rnN_le | apply rpN_le | apply sgN_le | apply rrN_le | (apply dgN_le (by decide)) | apply rtS_le | apply rfS_le))) 1 gX2_write_X0_append rfl rfl rfl nd_X0_append ⟨by decide, by decide⟩ 1 rfl rfl [1, 2] [0] [0, 1, 2] rfl rfl rfl rfl (by decide) rfl rfl rfl rfl (Nat.le_of_ble_eq_true rfl) dX2_write_5 ⟨by decide, by decide⟩ ?_
  exact hret _ _ _ _ dX2_write_8 (rfl) (rfl)
theorem nd_X2_write : yX2_write.cls = RX2 ∧ yX2_write.cls ≠ "java/lang/invoke/MethodHandle" ∧ yX2_write.cls ≠ "java/lang/invoke/VarHandle" ∧ (parseMethodDescriptor yX2_write.desc).map (fun d => d.parameters.length) = some 1 := by decide +kernel
set_option maxHeartbeats 4000000 in
set_option maxRecDepth 100000 in
/-- coefficient(of, i) -/
theorem k_X2_coefficient (l : Launch) (G : va_G) (k : Nat → ClassId) (h0 a0 a1 a2 a3 a4 a5 a6 a7 a8 a9 a10 : Nat) (b1 b2 b3 : Nat) (F Be Qu : Nat → Int64) (p0 p1 : Int32) : ∀ sz, Met l yX2_coefficient wsX2_coefficient ({ frames := 1, cells := 0, slots := 0, locals := 21 }) (va_Pc [.ref h0, .int p0, .int p1] (KP G k [(h0, .inr (2, [.ref a0, .ref a1, .ref a2, .ref a3, .ref a4, .ref a5, .ref a6, .ref a7, .ref a8, .ref a9, .ref a10])), (a1, .inr (1, [.ref b1])), (b1, .inl (k 2, 7, .inr (.inl F))), (a2, .inr (1, [.ref b2])), (b2, .inl (k 2, 7, .inr (.inl Be))), (a3, .inr (1, [.ref b3])), (b3, .inl (k 2, 7, .inr (.inl Qu)))] sz)) (va_Ql (fun r (_ : Unit) => r = cfP F Be Qu p0 p1) (KQ G [(h0, .inr (2, [.ref a0, .ref a1, .ref a2, .ref a3, .ref a4, .ref a5, .ref a6, .ref a7, .ref a8, .ref a9, .ref a10])), (a1, .inr (1, [.ref b1])), (b1, .inl (k 2, 7, .inr (.inl F))), (a2, .inr (1, [.ref b2])), (b2, .inl (k 2, 7, .inr (.inl Be))), (a3, .inr (1, [.ref b3])), (b3, .inl (k 2, 7, .inr (.inl Qu)))] (va_A [(h0, .inr (2, [.ref a0, .ref a1, .ref a2, .ref a3, .ref a4, .ref a5, .ref a6, .ref a7, .ref a8, .ref a9, .ref a10])), (a1, .inr (1, [.ref b1])), (b1, .inl (k 2, 7, .inr (.inl F))), (a2, .inr (1, [.ref b2])), (b2, .inl (k 2, 7, .inr (.inl Be))), (a3, .inr (1, [.ref b3])), (b3, .inl (k 2, 7, .inr (.inl Qu)))] sz)) (va_A [(h0, .inr (2, [.ref a0, .ref a1, .ref a2, .ref a3, .ref a4, .ref a5, .ref a6, .ref a7, .ref a8, .ref a9, .ref a10])), (a1, .inr (1, [.ref b1])), (b1, .inl (k 2, 7, .inr (.inl F))), (a2, .inr (1, [.ref b2])), (b2, .inl (k 2, 7, .inr (.inl Be))), (a3, .inr (1, [.ref b3])), (b3, .inl (k 2, 7, .inr (.inl Qu)))] sz)) 0 0 (va_A [(h0, .inr (2, [.ref a0, .ref a1, .ref a2, .ref a3, .ref a4, .ref a5, .ref a6, .ref a7, .ref a8, .ref a9, .ref a10])), (a1, .inr (1, [.ref b1])), (b1, .inl (k 2, 7, .inr (.inl F))), (a2, .inr (1, [.ref b2])), (b2, .inl (k 2, 7, .inr (.inl Be))), (a3, .inr (1, [.ref b3])), (b3, .inl (k 2, 7, .inr (.inl Qu)))] sz) := by
  refine met_l 0 0 (lv0 := [(0, .ref h0), (1, .int p0), (2, .int p1)]) (own := RX2) (by decide) rfl rfl (Nat.le_of_ble_eq_true rfl) rfl (fun Z g hret => ?_)
  have hX2 : ∀ w ∈ u_ws RX2 TX2 11, w ∈ wsX2_coefficient := fun w h => List.mem_cons_of_mem _ (List.mem_append_left _ (List.mem_append_right _ (h)))
  refine z_iload_n g dX2_coefficient_0 1 rfl ?_
  rcases sw2 p0 with b1 | b1 | b1 | b1
  · refine z_ti (y := 0) b1 ?_
    refine z_tin g 28 dX2_coefficient_1 (by decide) (by decide) rfl (by decide) ?_
    refine z_aload_n g dX2_coefficient_28 0 rfl ?_
    refine z_get g hX2 0 rfl rfl 1 (by decide) (mi 1 rfl) rfl dX2_coefficient_29 ?_
    refine z_iload_n g dX2_coefficient_32 2 rfl ?_
    refine z_callVl (w' := [_, _, _, _, _, _, _]) (wr := [_, _, _, _, _]) g (k_X1_get l G k _ _ _ _) 1 gX2_coefficient_X1_get rfl rfl rfl nd_X1_get ⟨by decide, by decide⟩ 1 rfl rfl [1, 2] [0, 3, 4, 5, 6] [0, 5, 6, 1, 2, 3, 4] rfl rfl rfl rfl (by decide) rfl rfl rfl rfl (Nat.le_of_ble_eq_true rfl) dX2_coefficient_33 ⟨by decide, by decide⟩ ?_
    exact hret _ _ _ _ dX2_coefficient_36 ((by first | (rw [b1]; rfl) | (unfold cfP; rw [if_neg b1.1.1, if_neg b1.1.2.1, if_neg b1.1.2.2]))) (rfl)
  · refine z_ti (y := 1) b1 ?_
    refine z_tin g 37 dX2_coefficient_1 (by decide) (by decide) rfl (by decide) ?_
    refine z_aload_n g dX2_coefficient_37 0 rfl ?_
    refine z_get g hX2 0 rfl rfl 2 (by decide) (mi 2 rfl) rfl dX2_coefficient_38 ?_
    refine z_iload_n g dX2_coefficient_41 2 rfl ?_
    refine z_callVl (w' := [_, _, _, _, _, _, _]) (wr := [_, _, _, _, _]) g (k_X1_get l G k _ _ _ _) 1 gX2_coefficient_X1_get rfl rfl rfl nd_X1_get ⟨by decide, by decide⟩ 3 rfl rfl [3, 4] [0, 1, 2, 5, 6] [0, 1, 2, 5, 6, 3, 4] rfl rfl rfl rfl (by decide) rfl rfl rfl rfl (Nat.le_of_ble_eq_true rfl) dX2_coefficient_42 ⟨by decide, by decide⟩ ?_
    exact hret _ _ _ _ dX2_coefficient_45 ((by first | (rw [b1]; rfl) | (unfold cfP; rw [if_neg b1.1.1, if_neg b1.1.2.1, if_neg b1.1.2.2]))) (rfl)
  · refine z_ti (y := 2) b1 ?_
    refine z_tin g 46 dX2_coefficient_1 (by decide) (by decide) rfl (by decide) ?_
    refine z_aload_n g dX2_coefficient_46 0 rfl ?_
    refine z_get g hX2 0 rfl rfl 3 (by decide) (mi 3 rfl) rfl dX2_coefficient_47 ?_
    refine z_iload_n g dX2_coefficient_50 2 rfl ?_
    refine z_callVl (w' := [_, _, _, _, _, _, _]) (wr := [_, _, _, _, _]) g (k_X1_get l G k _ _ _ _) 1 gX2_coefficient_X1_get rfl rfl rfl nd_X1_get ⟨by decide, by decide⟩ 5 rfl rfl [5, 6] [0, 1, 2, 3, 4] [0, 1, 2, 3, 4, 5, 6] rfl rfl rfl rfl (by decide) rfl rfl rfl rfl (Nat.le_of_ble_eq_true rfl) dX2_coefficient_51 ⟨by decide, by decide⟩ ?_
    exact hret _ _ _ _ dX2_coefficient_54 ((by first | (rw [b1]; rfl) | (unfold cfP; rw [if_neg b1.1.1, if_neg b1.1.2.1, if_neg b1.1.2.2]))) (rfl)
  · refine z_tout g 55 dX2_coefficient_1 (b1.2) (by decide) ?_
    refine z_lc0 g dX2_coefficient_55 ?_
    exact hret _ _ _ _ dX2_coefficient_56 ((by first | (rw [b1]; rfl) | (unfold cfP; rw [if_neg b1.1.1, if_neg b1.1.2.1, if_neg b1.1.2.2]))) (rfl)
theorem nd_X2_coefficient : yX2_coefficient.cls = RX2 ∧ yX2_coefficient.cls ≠ "java/lang/invoke/MethodHandle" ∧ yX2_coefficient.cls ≠ "java/lang/invoke/VarHandle" ∧ (parseMethodDescriptor yX2_coefficient.desc).map (fun d => d.parameters.length) = some 2 := by decide +kernel
set_option maxHeartbeats 4000000 in
set_option maxRecDepth 100000 in
/-- isInIntegral(root, k) -/
theorem k_X2_isInIntegral (l : Launch) (G : va_G) (k : Nat → ClassId) (h0 a0 a1 a2 a3 a4 a5 a6 a7 a8 a9 a10 : Nat) (m : Nat → Nat) (p0 p1 : Int32) : ∀ sz, Met l yX2_isInIntegral wsX2_isInIntegral ({ frames := 2, cells := 0, slots := 0, locals := 41 }) (va_Pc [.ref h0, .int p0, .int p1] (KP G k [(h0, .inr (2, [.ref a0, .ref a1, .ref a2, .ref a3, .ref a4, .ref a5, .ref a6, .ref a7, .ref a8, .ref a9, .ref a10])), (a4, .inl (k 1, 7, .inl (fun j => nI (m j))))] sz)) (va_Qi (fun r (_ : Unit) => r = bI (iiP m p0 p1)) (KQ G [(h0, .inr (2, [.ref a0, .ref a1, .ref a2, .ref a3, .ref a4, .ref a5, .ref a6, .ref a7, .ref a8, .ref a9, .ref a10])), (a4, .inl (k 1, 7, .inl (fun j => nI (m j))))] (va_A [(h0, .inr (2, [.ref a0, .ref a1, .ref a2, .ref a3, .ref a4, .ref a5, .ref a6, .ref a7, .ref a8, .ref a9, .ref a10])), (a4, .inl (k 1, 7, .inl (fun j => nI (m j))))] sz)) (va_A [(h0, .inr (2, [.ref a0, .ref a1, .ref a2, .ref a3, .ref a4, .ref a5, .ref a6, .ref a7, .ref a8, .ref a9, .ref a10])), (a4, .inl (k 1, 7, .inl (fun j => nI (m j))))] sz)) 0 0 (va_A [(h0, .inr (2, [.ref a0, .ref a1, .ref a2, .ref a3, .ref a4, .ref a5, .ref a6, .ref a7, .ref a8, .ref a9, .ref a10])), (a4, .inl (k 1, 7, .inl (fun j => nI (m j))))] sz) := by
  refine met_z 0 0 (lv0 := [(0, .ref h0), (1, .int p0), (2, .int p1)]) (own := RX2) (by decide) rfl rfl (Nat.le_of_ble_eq_true rfl) rfl bI_n (fun Z g hret => ?_)
  refine z_iload_n g dX2_isInIntegral_0 1 rfl ?_
  refine z_bi g 9 dX2_isInIntegral_1 (by decide) ?_
  refine z_ic_ne g (tgt := 19) dX2_isInIntegral_3 (by decide) (fun b3 => ?_) (fun b3 => ?_)
  · refine z_iload_n g dX2_isInIntegral_19 2 rfl ?_
    refine z_if_lt g (tgt := 36) dX2_isInIntegral_20 (by decide) (fun b20 => ?_) (fun b20 => ?_)
    · refine z_ic0 g dX2_isInIntegral_36 ?_
      exact hret _ _ _ _ dX2_isInIntegral_37 ((by simp only [iiP, if_neg b3, if_pos b20, reduceIte, Bool.false_eq_true] <;> rfl)) (rfl)
    · refine z_iload_n g dX2_isInIntegral_23 2 rfl ?_
      refine z_aload_n g dX2_isInIntegral_24 0 rfl ?_
      refine z_iload_n g dX2_isInIntegral_25 1 rfl ?_
      refine z_callVi (w' := [_, _]) (wr := []) g (k_X2_many l G k _ _ _ _ _ _ _ _ _ _ _ _ _ _) 1 gX2_isInIntegral_X2_many rfl rfl rfl nd_X2_many ⟨by decide, by decide⟩ 0 rfl rfl [0, 1] [] [0, 1] rfl rfl rfl rfl (by decide) rfl rfl rfl rfl (Nat.le_of_ble_eq_true rfl) dX2_isInIntegral_26 ⟨by decide, by decide⟩ ?_
      refine z_ic_ge g (tgt := 36) dX2_isInIntegral_29 (by decide) (fun b29 => ?_) (fun b29 => ?_)
      · refine z_ic0 g dX2_isInIntegral_36 ?_
        exact hret _ _ _ _ dX2_isInIntegral_37 ((by simp only [iiP, if_neg b3, if_neg b20, if_pos b29, reduceIte, Bool.false_eq_true] <;> rfl)) (rfl)
      · refine z_ic1 g dX2_isInIntegral_32 ?_
        refine z_goto g 37 dX2_isInIntegral_33 (by decide) ?_
        exact hret _ _ _ _ dX2_isInIntegral_37 ((by simp only [iiP, if_neg b3, if_neg b20, if_neg b29, reduceIte, Bool.false_eq_true] <;> rfl)) (rfl)
  · refine z_iload_n g dX2_isInIntegral_6 2 rfl ?_
    refine z_ic1 g dX2_isInIntegral_7 ?_
    refine z_ic_lt g (tgt := 15) dX2_isInIntegral_8 (by decide) (fun b8 => ?_) (fun b8 => ?_)
    · refine z_ic0 g dX2_isInIntegral_15 ?_
      refine z_goto g 37 dX2_isInIntegral_16 (by decide) ?_
      exact hret _ _ _ _ dX2_isInIntegral_37 ((by simp only [iiP, if_pos b3, if_pos b8, reduceIte, Bool.false_eq_true] <;> rfl)) (rfl)
    · refine z_ic1 g dX2_isInIntegral_11 ?_
      refine z_goto g 37 dX2_isInIntegral_12 (by decide) ?_
      exact hret _ _ _ _ dX2_isInIntegral_37 ((by simp only [iiP, if_pos b3, if_neg b8, reduceIte, Bool.false_eq_true] <;> rfl)) (rfl)
theorem nd_X2_isInIntegral : yX2_isInIntegral.cls = RX2 ∧ yX2_isInIntegral.cls ≠ "java/lang/invoke/MethodHandle" ∧ yX2_isInIntegral.cls ≠ "java/lang/invoke/VarHandle" ∧ (parseMethodDescriptor yX2_isInIntegral.desc).map (fun d => d.parameters.length) = some 2 := by decide +kernel
set_option maxHeartbeats 4000000 in
set_option maxRecDepth 100000 in
/-- isNear(x) -/
theorem k_X2_isNear (l : Launch) (G : va_G) (k : Nat → ClassId) (p0 : UInt64) : ∀ sz, Met l yX2_isNear wsX2_isNear ({ frames := 0, cells := 0, slots := 0, locals := 0 }) (va_Pc [.double p0] (KP G k [] sz)) (va_Qi (fun r (_ : Unit) => r = bI (nearP p0)) (KQ G [] (va_A [] sz)) (va_A [] sz)) 0 0 (va_A [] sz) := by
  refine met_z 0 0 (lv0 := [(0, .double p0)]) (own := RX2) (by decide) rfl rfl (Nat.le_of_ble_eq_true rfl) rfl bI_n (fun Z g hret => ?_)
  refine z_dload_n g dX2_isNear_0 0 rfl ?_
  refine z_ldc2d g (v := (13860109328209412096)) dX2_isNear_1 (mi 1 rfl) ?_
  refine z_dcmp g dX2_isNear_4 ?_
  refine z_if_lt g (tgt := 20) dX2_isNear_5 (by decide) (fun b5 => ?_) (fun b5 => ?_)
  · refine z_ic0 g dX2_isNear_20 ?_
    exact hret _ _ _ _ dX2_isNear_21 ((by simp only [nearP, if_pos b5, reduceIte, Bool.false_eq_true] <;> rfl)) (rfl)
  · refine z_dload_n g dX2_isNear_8 0 rfl ?_
    refine z_ldc2d g (v := (4636737291354636288)) dX2_isNear_9 (mi 2 rfl) ?_
    refine z_dcmp g dX2_isNear_12 ?_
    refine z_if_gt g (tgt := 20) dX2_isNear_13 (by decide) (fun b13 => ?_) (fun b13 => ?_)
    · refine z_ic0 g dX2_isNear_20 ?_
      exact hret _ _ _ _ dX2_isNear_21 ((by simp only [nearP, if_neg b5, if_pos b13, reduceIte, Bool.false_eq_true] <;> rfl)) (rfl)
    · refine z_ic1 g dX2_isNear_16 ?_
      refine z_goto g 21 dX2_isNear_17 (by decide) ?_
      exact hret _ _ _ _ dX2_isNear_21 ((by simp only [nearP, if_neg b5, if_neg b13, reduceIte, Bool.false_eq_true] <;> rfl)) (rfl)
theorem nd_X2_isNear : yX2_isNear.cls ≠ "java/lang/invoke/MethodHandle" ∧ yX2_isNear.cls ≠ "java/lang/invoke/VarHandle" ∧ (parseMethodDescriptor yX2_isNear.desc).map (fun d => d.parameters.length) = some 1 := by decide +kernel
set_option maxHeartbeats 4000000 in
set_option maxRecDepth 100000 in
/-- withPartsOf(root, x, sum) -/
theorem k_X2_withPartsOf (l : Launch) (G : va_G) (k : Nat → ClassId) (h0 a0 a1 a2 a3 a4 a5 a6 a7 a8 a9 a10 : Nat) (m : Nat → Nat) (A B : Nat → Int64) (p0 : Int32) (p1 p2 : UInt64) (hm : ∀ j, j < 7 → m j ≤ 5) (hw : wpH m A B p0 p1 p2) : ∀ sz, Met l yX2_withPartsOf wsX2_withPartsOf ({ frames := 3, cells := 0, slots := 0, locals := 65 }) (va_Pc [.ref h0, .int p0, .double p1, .double p2] (KP G k [(h0, .inr (2, [.ref a0, .ref a1, .ref a2, .ref a3, .ref a4, .ref a5, .ref a6, .ref a7, .ref a8, .ref a9, .ref a10])), (a4, .inl (k 1, 7, .inl (fun j => nI (m j)))), (a5, .inl (k 2, 35, .inr (.inl A))), (a6, .inl (k 2, 35, .inr (.inl B)))] sz)) (va_Qd (fun r (_ : Unit) => r = wpP m A B p0 p1 p2) (KQ G [(h0, .inr (2, [.ref a0, .ref a1, .ref a2, .ref a3, .ref a4, .ref a5, .ref a6, .ref a7, .ref a8, .ref a9, .ref a10])), (a4, .inl (k 1, 7, .inl (fun j => nI (m j)))), (a5, .inl (k 2, 35, .inr (.inl A))), (a6, .inl (k 2, 35, .inr (.inl B)))] (va_A [(h0, .inr (2, [.ref a0, .ref a1, .ref a2, .ref a3, .ref a4, .ref a5, .ref a6, .ref a7, .ref a8, .ref a9, .ref a10])), (a4, .inl (k 1, 7, .inl (fun j => nI (m j)))), (a5, .inl (k 2, 35, .inr (.inl A))), (a6, .inl (k 2, 35, .inr (.inl B)))] sz)) (va_A [(h0, .inr (2, [.ref a0, .ref a1, .ref a2, .ref a3, .ref a4, .ref a5, .ref a6, .ref a7, .ref a8, .ref a9, .ref a10])), (a4, .inl (k 1, 7, .inl (fun j => nI (m j)))), (a5, .inl (k 2, 35, .inr (.inl A))), (a6, .inl (k 2, 35, .inr (.inl B)))] sz)) 0 0 (va_A [(h0, .inr (2, [.ref a0, .ref a1, .ref a2, .ref a3, .ref a4, .ref a5, .ref a6, .ref a7, .ref a8, .ref a9, .ref a10])), (a4, .inl (k 1, 7, .inl (fun j => nI (m j)))), (a5, .inl (k 2, 35, .inr (.inl A))), (a6, .inl (k 2, 35, .inr (.inl B)))] sz) := by
  refine met_d 0 0 (lv0 := [(0, .ref h0), (1, .int p0), (2, .double p1), (4, .double p2)]) (own := RX2) (by decide) rfl rfl (Nat.le_of_ble_eq_true rfl) rfl (fun Z g hret => ?_)
  have hm5 := manyP_le hm p0
  refine z_dload g dX2_withPartsOf_0 3 rfl ?_
  refine z_dstore (lv' := [(6, .double _), (0, .ref _), (1, .int _), (2, .double _), (4, .double _)]) g dX2_withPartsOf_2 (by decide) rfl ?_
  refine z_dload_n g dX2_withPartsOf_4 3 rfl ?_
  refine z_iload_n g dX2_withPartsOf_5 2 rfl ?_
  refine z_i2d g dX2_withPartsOf_6 ?_
  refine z_dsub g dX2_withPartsOf_7 hw.1 ?_
  refine z_dstore (lv' := [(8, .double _), (6, .double _), (0, .ref _), (1, .int _), (2, .double _), (4, .double _)]) g dX2_withPartsOf_8 (by decide) rfl ?_
  refine z_dload g dX2_withPartsOf_10 0 rfl ?_
  refine z_dstore (lv' := [(10, .double _), (8, .double _), (6, .double _), (0, .ref _), (1, .int _), (2, .double _), (4, .double _)]) g dX2_withPartsOf_12 (by decide) rfl ?_
  refine z_aload_n g dX2_withPartsOf_14 3 rfl ?_
  refine z_iload_n g dX2_withPartsOf_15 4 rfl ?_
  refine z_callVi (w' := [_, _, _, _]) (wr := [_, _]) g (k_X2_many l G k _ _ _ _ _ _ _ _ _ _ _ _ _ _) 1 gX2_withPartsOf_X2_many rfl rfl rfl nd_X2_many ⟨by decide, by decide⟩ 0 rfl rfl [0, 1] [2, 3] [2, 3, 0, 1] rfl rfl rfl rfl (by decide) rfl rfl rfl rfl (Nat.le_of_ble_eq_true rfl) dX2_withPartsOf_16 ⟨by decide, by decide⟩ ?_
  refine z_istore (lv' := [(12, .int _), (10, .double _), (8, .double _), (6, .double _), (0, .ref _), (1, .int _), (2, .double _), (4, .double _)]) g dX2_withPartsOf_19 (by decide) rfl ?_
  refine z_ic1 g dX2_withPartsOf_21 ?_
  refine z_istore (lv' := [(13, .int _), (12, .int _), (10, .double _), (8, .double _), (6, .double _), (0, .ref _), (1, .int _), (2, .double _), (4, .double _)]) g dX2_withPartsOf_22 (by decide) rfl ?_
  have cut_24 : ∀ (N24 : Nat) (t i : Nat) (sum p : UInt64), t < N24 → (i + t = manyP m p0 + 1) → (wpOK (fun i => paP A 0 p0 (nI i)) (fun i => paP B 1 p0 (nI i)) (FP.dsub p1 (FP.i2d p0)) t i sum p) → (wpL (fun i => paP A 0 p0 (nI i)) (fun i => paP B 1 p0 (nI i)) (FP.dsub p1 (FP.i2d p0)) t i sum p = wpP m A B p0 p1 p2) → Z 0 0 [(h0, .inr (2, [.ref a0, .ref a1, .ref a2, .ref a3, .ref a4, .ref a5, .ref a6, .ref a7, .ref a8, .ref a9, .ref a10])), (a4, .inl (k 1, 7, .inl (fun j => nI (m j)))), (a5, .inl (k 2, 35, .inr (.inl A))), (a6, .inl (k 2, 35, .inr (.inl B)))] [(0, .ref h0), (1, .int p0), (6, .double sum), (8, .double (FP.dsub p1 (FP.i2d p0))), (10, .double p), (12, .int (nI (manyP m p0))), (13, .int (nI i))] 24 [] := by
    intro N24
    induction N24 with
    | zero => intro t i sum p hms; exact absurd hms (Nat.not_lt_zero _)
    | succ N24 ih24 =>
      intro t i sum p hms24 ht hok hI
      refine z_iload g dX2_withPartsOf_24 6 rfl ?_
      refine z_iload g dX2_withPartsOf_26 5 rfl ?_
      refine z_n_gt g (a := i) (b := (manyP m p0)) (tgt := 76) (by omega) (by omega) dX2_withPartsOf_28 (by decide) (fun b28 => ?_) (fun b28 => ?_)
      · obtain rfl : t = 0 := by omega
        refine z_dload g dX2_withPartsOf_76 2 rfl ?_
        exact hret _ _ _ _ dX2_withPartsOf_78 (hI) (rfl)
      · obtain ⟨t, rfl⟩ : ∃ j, t = j + 1 := ⟨t - 1, by omega⟩
        have cut_63 : ∀ (sum' : UInt64), (sum' = wpT (paP A 0 p0 (nI i)) (paP B 1 p0 (nI i)) sum p) → Z 0 0 [(h0, .inr (2, [.ref a0, .ref a1, .ref a2, .ref a3, .ref a4, .ref a5, .ref a6, .ref a7, .ref a8, .ref a9, .ref a10])), (a4, .inl (k 1, 7, .inl (fun j => nI (m j)))), (a5, .inl (k 2, 35, .inr (.inl A))), (a6, .inl (k 2, 35, .inr (.inl B)))] [(0, .ref h0), (1, .int p0), (6, .double sum'), (8, .double (FP.dsub p1 (FP.i2d p0))), (10, .double p), (12, .int (nI (manyP m p0))), (13, .int (nI i))] 63 [] := by
          intro sum' hs9
          subst hs9
          refine z_dload g dX2_withPartsOf_63 4 rfl ?_
          refine z_dload g dX2_withPartsOf_65 3 rfl ?_
          refine z_dmul g dX2_withPartsOf_67 hok.2.1 ?_
          refine z_dstore (lv' := [(10, .double _), (0, .ref _), (1, .int _), (6, .double _), (8, .double _), (12, .int _), (13, .int _)]) g dX2_withPartsOf_68 (by decide) rfl ?_
          refine z_inc (lv' := [(13, .int _), (10, .double _), (0, .ref _), (1, .int _), (6, .double _), (8, .double _), (12, .int _)]) g dX2_withPartsOf_70 6 rfl (by decide) rfl ?_
          refine z_goto g 24 dX2_withPartsOf_73 (by decide) ?_
          refine z_locs (lv' := [(0, .ref _), (1, .int _), (6, .double _), (8, .double _), (10, .double _), (12, .int _), (13, .int _)]) g [2, 3, 4, 5, 1, 6, 0] rfl ?_
          exact ih24 t (i + 1) _ _ (by omega) (by omega) hok.2.2 hI
        refine z_dload g dX2_withPartsOf_31 4 rfl ?_
        refine z_dc0 g dX2_withPartsOf_33 ?_
        refine z_dcmp g dX2_withPartsOf_34 ?_
        refine z_if_eq g (tgt := 63) dX2_withPartsOf_35 (by decide) (fun b35 => ?_) (fun b35 => ?_)
        · exact cut_63 _ (by unfold wpT; first | (rw [if_pos (show dz p = true from decide_eq_true b35)]) | (rw [if_neg (show ¬ dz p = true from Bool.eq_false_iff.mp b35)]))
        · have hq : dz p = false → _ := hok.1
          have b35 : dz p = false := decide_eq_false b35
          refine z_dload g dX2_withPartsOf_38 2 rfl ?_
          refine z_aload_n g dX2_withPartsOf_40 0 rfl ?_
          refine z_iload_n g dX2_withPartsOf_41 1 rfl ?_
          refine z_iload g dX2_withPartsOf_42 6 rfl ?_
          refine z_callVl (w' := [_, _, _, _]) (wr := [_, _]) g (k_X2_partAbove l G k _ _ _ _ _ _ _ _ _ _ _ _ _ _ _) 2 gX2_withPartsOf_X2_partAbove rfl rfl rfl nd_X2_partAbove ⟨by decide, by decide⟩ 0 rfl rfl [0, 2] [1, 3] [2, 0, 3, 1] rfl rfl rfl rfl (by decide) rfl rfl rfl rfl (Nat.le_of_ble_eq_true rfl) dX2_withPartsOf_44 ⟨by decide, by decide⟩ ?_
          refine z_l2d g dX2_withPartsOf_47 ?_
          refine z_aload_n g dX2_withPartsOf_48 0 rfl ?_
          refine z_iload_n g dX2_withPartsOf_49 1 rfl ?_
          refine z_iload g dX2_withPartsOf_50 6 rfl ?_
          refine z_callVl (w' := [_, _, _, _]) (wr := [_, _]) g (k_X2_partBelow l G k _ _ _ _ _ _ _ _ _ _ _ _ _ _ _) 2 gX2_withPartsOf_X2_partBelow rfl rfl rfl nd_X2_partBelow ⟨by decide, by decide⟩ 0 rfl rfl [0, 3] [1, 2] [2, 0, 1, 3] rfl rfl rfl rfl (by decide) rfl rfl rfl rfl (Nat.le_of_ble_eq_true rfl) dX2_withPartsOf_52 ⟨by decide, by decide⟩ ?_
          refine z_l2d g dX2_withPartsOf_55 ?_
          refine z_ddiv g dX2_withPartsOf_56 (hq b35).1 ?_
          refine z_dload g dX2_withPartsOf_57 4 rfl ?_
          refine z_ddiv g dX2_withPartsOf_59 (hq b35).2.1 ?_
          refine z_dadd g dX2_withPartsOf_60 (hq b35).2.2 ?_
          refine z_dstore (lv' := [(6, .double _), (0, .ref _), (1, .int _), (8, .double _), (10, .double _), (12, .int _), (13, .int _)]) g dX2_withPartsOf_61 (by decide) rfl ?_
          refine z_locs (lv' := [(0, .ref _), (1, .int _), (6, .double _), (8, .double _), (10, .double _), (12, .int _), (13, .int _)]) g [1, 2, 0, 3, 4, 5, 6] rfl ?_
          exact cut_63 _ (by unfold wpT; first | (rw [if_pos (show dz p = true from decide_eq_true b35)]) | (rw [if_neg (show ¬ dz p = true from Bool.eq_false_iff.mp b35)]))
  refine z_locs (lv' := [(0, .ref _), (1, .int _), (6, .double _), (8, .double _), (10, .double _), (12, .int _), (13, .int _)]) g [5, 6, 4, 3, 2, 1, 0] rfl ?_
  exact cut_24 _ (manyP m p0) 1 _ _ (Nat.lt_succ_self _) (by omega) hw.2 rfl
theorem nd_X2_withPartsOf : yX2_withPartsOf.cls = RX2 ∧ yX2_withPartsOf.cls ≠ "java/lang/invoke/MethodHandle" ∧ yX2_withPartsOf.cls ≠ "java/lang/invoke/VarHandle" ∧ (parseMethodDescriptor yX2_withPartsOf.desc).map (fun d => d.parameters.length) = some 3 := by decide +kernel
end
