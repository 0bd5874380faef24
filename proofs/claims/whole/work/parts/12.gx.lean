/-! what a throw needs of the state (TE), and methods that may throw -/
abbrev nIAE : String := "java/lang/IllegalArgumentException"
abbrev nISE : String := "java/lang/IllegalStateException"
abbrev xN : List String := ["java/lang/RuntimeException", "java/lang/Exception"]
def teS : List (Nat × String) := [(68, "the draft is no polynomial"), (84, "the draft is no product"), (92, "the product has more than 5 roots"), (116, "no such part, or w is not 0 or 1"), (129, "the integral has no such place, or w is not 0 or 1"), (135, "t is a root or not -20 .. 20, or w is not 0 or 1"), (144, "x is not -100.0 .. 100.0")]
def teW : List Cond := [.castable nIAE nIAE, .castable nISE nISE, .declares (Bundle.initS "java/lang/RuntimeException"), .declares (Bundle.initS "java/lang/Exception"), .declares (Bundle.initS Bundle.tN)]
def TE (A : Nat → Prop) (U : State) (H : Heap) : Prop := vx_Zq Bundle.tN "UNASSIGNED_STACK" Bundle.steD A U H ∧ vx_Zq Bundle.tN "SUPPRESSED_SENTINEL" Bundle.listD A U H ∧ (∀ q ∈ teS, ∃ sa, vk_R RX2 q.1 q.2 sa U) ∧ (∀ w ∈ teW, va_Nw w U) ∧ va_Nc nISE nIAE U
theorem teW_same {u U : State} (h : u.vm = U.vm) (hZ : ∀ w ∈ teW, va_Nw w u) : ∀ w ∈ teW, va_Nw w U := by
  intro w hw
  refine va_Nw.same ?_ h (hZ w hw)
  exact (by decide +kernel : ∀ w ∈ teW, w.onTables = true) w hw
theorem teW_warm {s U : State} (hW : s.WarmedH U.vm) (hZ : ∀ w ∈ teW, va_Nw w s) : ∀ w ∈ teW, va_Nw w U := by
  unfold teW at hZ ⊢
  simp only [List.forall_mem_cons] at hZ ⊢
  exact ⟨va_Nw.warmC hW hZ.1, va_Nw.warmC hW hZ.2.1, va_Nw.warmD hW hZ.2.2.1, va_Nw.warmD hW hZ.2.2.2.1, va_Nw.warmD hW hZ.2.2.2.2.1, fun _ h => nomatch h⟩
theorem TE.next {A B : Nat → Prop} {s U : State} {H : Heap} {locs : List Loc} (h : TE A s s.heap) (hW : s.WarmedH U.vm) (hU : U.heap = H) (hS : va_S A s.heap H locs) (hB : ∀ q, B q → A q) : TE B U U.heap := by
  obtain ⟨h1, h2, h3, h4, h5⟩ := h
  have hk : ∀ a : Nat, a < s.heap.size → ¬ A a → U.heap[a]? = s.heap[a]? := fun a ha hn => by rw [hU]; exact hS.2.1 a ha hn
  exact ⟨((vx_Zq.moved hW.alike h1).kept hk).narrow hB, ((vx_Zq.moved hW.alike h2).kept hk).narrow hB, fun q hq => by obtain ⟨sa, h⟩ := h3 q hq; exact ⟨sa, vk_R.warm hW h⟩, teW_warm hW h4, va_Nc.moved hW.alike h5⟩
def KPX (G : va_G) (k : Nat → ClassId) (ws : va_W) (sz : Nat) : State → Prop := fun U => KP G k ws sz U ∧ TE (va_A ws sz) U U.heap
theorem KPX_blind {G : va_G} {k : Nat → ClassId} {ws : va_W} {sz : Nat} {av : List Value} : FrameBlind (va_Pc av (KPX G k ws sz)) := fun a U g mk q => by
  obtain ⟨q0, q1, qE⟩ := q
  obtain ⟨-, q2⟩ := KP_blind (av := av) a U g mk ⟨q0, q1⟩
  obtain ⟨h1, h2, h3, h4, h5⟩ := qE
  exact ⟨q0, q2, vx_Zq.moved (u := U) (U := U.calling g mk a) (Vm.Alike.refl U.vm) h1, vx_Zq.moved (u := U) (U := U.calling g mk a) (Vm.Alike.refl U.vm) h2, fun q hq => by obtain ⟨sa, h⟩ := h3 q hq; exact ⟨sa, vk_R.same (u := U) rfl h⟩, teW_same (u := U) rfl h4, va_Nc.moved (u := U) (U := U.calling g mk a) (Vm.Alike.refl U.vm) h5⟩
def GX (l : Launch) (R : Room) (cc : ByteArray) (nL : Nat) (own : String) (Ts : List Cond) (G : va_G) (k : Nat → ClassId) (tb : List ExceptionTableEntry) (Z : ZT) : Prop :=
  ∃ (p : Program) (e : Env) (s : State) (m : MethodId) (args : Array Value) (below : List Frame) (meth : Method) (c : Code) (Q : State → Prop) (A : Nat → Prop), Z = Zd p l e R s m args below meth c Q G A nL ∧ p.tables.exec = Jvm.exec ∧ c.code = cc ∧ c.maxLocals = nL ∧ s.vm.findClass own = some m.cls ∧ (∀ w ∈ Ts, w.before args s = true) ∧ va_K G vwCl (TY k) s ∧ (∀ q, s.heap.size ≤ q → A q) ∧ TE A s s.heap ∧ c.exceptionTable.toList = tb
theorem GX.gd {l : Launch} {R : Room} {cc : ByteArray} {nL : Nat} {own : String} {Ts : List Cond} {G : va_G} {k : Nat → ClassId} {tb : List ExceptionTableEntry} {Z : ZT} (g : GX l R cc nL own Ts G k tb Z) : Gd l R cc nL own Ts G k Z := by
  obtain ⟨p, e, s, m, args, below, meth, c, Q, A, h1, h2, h3, h4, h5, h6, h7, h8, -, -⟩ := g
  exact ⟨p, e, s, m, args, below, meth, c, Q, A, h1, h2, h3, h4, h5, h6, h7, h8⟩
/-- what a throw's place must show -/
def ThrAt (cc : ByteArray) (own : String) (ws : List Cond) (rm : Room) (pc : Nat) (cls : String) : Prop :=
  ∃ (ik is ic : Nat) (text : String), Cond.classLink own ik cls ∈ ws ∧ Cond.initialized cls ∈ ws ∧ (is, text) ∈ teS ∧ own = RX2 ∧ (∀ w ∈ (vx_atS own ic cls xN).filter goodWord, w ∈ ws) ∧ (∀ w ∈ (vx_atS own ic cls xN).filter (fun w => !goodWord w), w ∈ teW) ∧ (∀ w ∈ Cond.classLink own ik cls :: Cond.initialized cls :: vx_atS own ic cls xN, vx_ot w = true) ∧ Bundle.fit cls = true ∧
  decode cc pc = .ok (.new ik, 3) ∧ decode cc (pc + 3) = .ok (.dup, 1) ∧ decode cc (pc + 4) = .ok (.ldc is, 2) ∧ decode cc (pc + 6) = .ok (.invokespecial ic, 3) ∧ decode cc (pc + 9) = .ok (.athrow, 1) ∧ (5 < rm.frames ∧ 82 ≤ rm.locals ∧ 1 ≤ rm.cells ∧ 6 ≤ rm.slots)
theorem xN_fit : ∀ n ∈ xN, Bundle.fit n = true := by decide +kernel
theorem teN_IAE : ∀ w ∈ (vx_atS RX2 70 nIAE xN).filter (fun w => !goodWord w), w ∈ teW := by decide +kernel
theorem teN_ISE : ∀ w ∈ (vx_atS RX2 94 nISE xN).filter (fun w => !goodWord w), w ∈ teW := by decide +kernel
theorem teO_IAE : ∀ w ∈ vx_atS RX2 70 nIAE xN, vx_ot w = true := by decide +kernel
theorem teO_ISE : ∀ w ∈ vx_atS RX2 94 nISE xN, vx_ot w = true := by decide +kernel
theorem teO_c {ik : Nat} {cls : String} {L : List Cond} (h : ∀ w ∈ L, vx_ot w = true) : ∀ w ∈ Cond.classLink RX2 ik cls :: Cond.initialized cls :: L, vx_ot w = true := List.forall_mem_cons.mpr ⟨rfl, List.forall_mem_cons.mpr ⟨rfl, h⟩⟩
section ZX
variable {l : Launch} {R : Room} {cc : ByteArray} {nL : Nat} {own : String} {Ts : List Cond} {G : va_G} {k : Nat → ClassId} {Z : ZT}
variable {c0 s0 : Nat} {w : va_W} {lv lv' : List (Nat × Value)} {pc : Nat} {rest : List Value}
abbrev XQ (thr : Option String) (wx : va_W) (G : va_G) (A : Nat → Prop) : String → State → State → Prop := vx_X (fun (_ : Unit) => True) (fun E _ t => thr = some E ∧ va_P G vwCl wx t.heap ∧ va_D A wx) A

theorem met_xi {y : MethodName} {ws ws' : List Cond} {rm : Room} {maxL : Nat} {av : List Value} {thr : Option String} {v : Int32} {wc w1 wx : va_W} {lv0 : List (Nat × Value)} (hlt : l.stackTraces = false) (hy : plainName y.cls = true) (hw : ws = Cond.code y cc maxL (some .int) :: ws') (hown : y.cls = own) (hav : (lg_sl av).length ≤ maxL) (hlv : lv_args 0 av = lv0) (body : ∀ Z : ZT, GX l rm cc maxL own ws G k [] Z → (∀ (w : va_W) (lv : List (Nat × Value)) (pc : Nat) (r : Int32), decode cc pc = .ok (.ireturn, 1) → thr = none → r = v → w = w1 → Z 0 0 w lv pc [.int r]) → (∀ (w : va_W) (lv : List (Nat × Value)) (pc : Nat) (cls : String), ThrAt cc own ws rm pc cls → thr = some cls → w = wx → Z 0 0 w lv pc []) → Z 0 0 wc lv0 0 []) : ∀ sz, vx_Met l y ws rm (va_Pc av (KPX G k wc sz)) (va_Qi (fun r (_ : Unit) => thr = none ∧ r = v) (KQ G w1 (va_A wc sz)) (va_A wc sz)) (XQ thr wx G (va_A wc sz)) 1 6 (va_A wc sz) := by
  intro sz
  refine vx_ofW (cc := cc) (maxL := maxL) hy hw ?_
  intro p e s m args below meth c s₁ B hml htb hv
  obtain ⟨rfl, ⟨hsz, hP, hK, hD0⟩, hE⟩ := hv
  subst hsz
  subst hown
  have hD := hD0.self (sz := s.heap.size)
  have hlocks := B.notSynchronized
  have htb0 : c.exceptionTable.toList = [] := List.eq_nil_iff_forall_not_mem.mpr (fun x hx => htb x hx)
  rw [lg_entry_eq]
  refine body (Zd p l e rm s m av.toArray below meth c (vx_MQ below (va_Qi (fun r (_ : Unit) => thr = none ∧ r = v) (KQ G w1 (va_A wc s.heap.size)) (va_A wc s.heap.size)) (XQ thr wx G (va_A wc s.heap.size)) av.toArray s 1 6 (va_A wc s.heap.size)) G (va_A wc s.heap.size) maxL) ⟨p, e, s, m, _, below, meth, c, _, _, rfl, B.exec, B.bytes, hml, findClass_of_methodNamed B.named, atoms_spec B.pre, hK, fun q h => Or.inr h, hE, htb0⟩ ?_ ?_ s.heap [] _ hP hD va_S.rf (hlv ▸ lv_entry av hav)
  · intro w lv pc r hd ht0 hr hw1 H locs ls hP hD hS hl
    subst hr; subst hw1
    refine W.widen (k := 1) (n := 6) (by omega) (by omega) ?_
    exact vx_ret (W.iret B.exec B.bytes B.returns (fun t ht hW => ⟨⟨r, (), rfl, ⟨ht0, rfl⟩, by rw [ht]; exact hP, hD⟩, hS.F ht⟩) hS.2.2 hd)
  · intro w lv pc cls hat hthr hwx H locs ls hP hD hS hl
    subst hwx
    obtain ⟨ik, is, ic, text, hk, hini, hstr, ho, hg1, hg2, hot, hfc, d0, d3, d4, d6, d9, hr1, hr2, hr3, hr4⟩ := hat
    have hts : ∀ w ∈ ws, w.before av.toArray s = true := atoms_spec B.pre
    obtain ⟨sa, hsa⟩ := hE.2.2.1 _ hstr
    rw [← ho] at hsa
    refine vx_throwS (rest := []) B.exec B.bytes hlt (findClass_of_methodNamed B.named) hfc xN_fit (hts _ hk) (hts _ hini) hsa (vx_hat (B := teW) (fun w hw => hts w (hg1 w hw)) hg2 (fun w hw => va_Nw.use ((by decide +kernel : ∀ w ∈ teW, w.onTables = true) w hw) (hE.2.2.2.1 w hw))) hot hE.1 hE.2.1 hS (hl.1.trans hml.symm) d0 d3 d4 d6 d9 (fun x hx => absurd hx (by rw [htb0]; exact List.not_mem_nil)) hr1 (by simpa using hr2) hr3 hr4 hlocks (fun t ha hz hk => ?_) hS.2.2 (by omega) (by omega)
    exact ⟨(), trivial, ⟨hthr, hP.kept (fun j q hq => hk q.1 (vx_lt hP hq)), hD⟩, Nat.le_trans hS.1 hz, fun q h1 h2 => (hk q (Nat.lt_of_lt_of_le h1 hS.1)).trans (hS.2.1 q h1 h2)⟩
/-- a call that may throw, and what its handlers do -/
theorem z_callXi {tb : List ExceptionTableEntry} (g : GX l R cc nL own Ts G k tb Z) {y : MethodName} {ws ws' : List Cond} {rm : Room} {bytes : ByteArray} {maxL ix : Nat} {ret : Option FieldType} {C : String} {b : Nat} {As st : List Value} {thr : Option String} {v : Int32} {wc w1 wx wr w' wx' : va_W} (hM : ∀ sz, vx_Met l y ws rm (va_Pc (.ref b :: As) (KPX G k wc sz)) (va_Qi (fun r (_ : Unit) => thr = none ∧ r = v) (KQ G w1 (va_A wc sz)) (va_A wc sz)) (XQ thr wx G (va_A wc sz)) 1 6 (va_A wc sz)) (n : Nat) (hG : GoodIn Ts (wsV own ix C y ws)) (hw : ws = Cond.code y bytes maxL ret :: ws') (hrc : rm.cells = 1) (hrs : rm.slots = 6) (hd9 : y.cls = C ∧ y.cls ≠ "java/lang/invoke/MethodHandle" ∧ y.cls ≠ "java/lang/invoke/VarHandle" ∧ (parseMethodDescriptor y.desc).map (fun d => d.parameters.length) = some n) (hR : rm.frames + 1 ≤ R.frames ∧ 8 + (maxL + 11) + rm.locals ≤ R.locals) {ci N : Nat} {T : u_T} {fs : List Value} (q0 : Nat) (he : w[q0]? = some (b, .inr (ci, fs))) (hc : vwCl[ci]? = some (C, T, N)) (isC isR is2 : List Nat) (hnC : va_nd isC = true) (hC : isC.map (fun i => w[i]?) = wc.map some) (hRr : isR.map (fun i => w[i]?) = wr.map some) (hn : va_nd isR = true) (hdis : ∀ i ∈ isR, i ∉ isC) (h2 : is2.map (fun i => (wr ++ w1)[i]?) = w'.map some) (hn2 : va_nd is2 = true) (h3 : is2.map (fun i => (wr ++ wx)[i]?) = wx'.map some) (hnA : As.length = n) (hst : st = As.reverse ++ .ref b :: rest) (hrm : (rest.map fun v => v.category).sum ≤ 8) (hd : decode cc pc = .ok (.invokevirtual ix, 3)) (hf : c0 + 1 ≤ R.cells ∧ s0 + 6 ≤ R.slots)
    (kx : ∀ E, thr = some E → ∃ (pre suf : List ExceptionTableEntry) (x : ExceptionTableEntry) (nm : String), tb = pre ++ x :: suf ∧ (∀ z ∈ pre, covers z pc = false ∨ (z.catchType ≠ 0 ∧ Cond.classLink own z.catchType nIAE ∈ Ts ∧ E = nISE)) ∧ covers x pc = true ∧ x.catchType ≠ 0 ∧ Cond.classLink own x.catchType nm ∈ Ts ∧ Cond.castable E nm ∈ teW ∧ ∀ q, Z (c0 + 1) (s0 + 6) wx' lv x.handlerPc [.ref q])
    (kk : thr = none → Z (c0 + 1) (s0 + 6) w' lv (pc + 3) (.int v :: rest)) : Z c0 s0 w lv pc st := by
  obtain ⟨p, e, s, m, args, below, meth, c, Q, A, rfl, hx, hb, hml, hown, hts, hK, hA, hE, htb⟩ := g
  intro H locs ls hP hD hS hl
  have hPc := hP.sub isC (va_fm hC)
  have hDc := hD.sub isC hnC hC
  have hFc := va_free (wc := wc) hD hS hA isC hC
  refine vx_calli (vx_runV (As := As) (rest := rest) ⟨hx, hb, hml, hown, hts⟩ (hM H.size) (cwV n hts hG hw hrc hrs hd9 hR) ⟨KPX_blind, va_recv hK hP hc he, fun U hU hW => ⟨rfl, ⟨by rw [hU], by rw [hU]; exact hPc, va_K.moved hW.alike hK, hDc.weaken (fun _ _ _ _ => trivial)⟩, hE.next hW hU hS hFc⟩⟩ rfl hnA hl.1 hst (lv_room hrm) hd hf) hS (fun q _ h => hFc q h) hFc (fun q _ h => hFc q h) (fun E ce q9 u t H1 locs1 ht hvm _ hB hz1 hk1 hS1 hc9 hv9 hcl9 => ?_) (fun r u t H1 locs1 ht hvm hw9 hB hz1 hk1 hS1 => ?_)
  · obtain ⟨hthr, hP1, hD1⟩ := hB
    rw [ht] at hP1
    obtain ⟨hP2, hD2⟩ := va_join (wr := wr) (w1 := wx) hP hD isC isR hC hRr hn hdis hk1 hFc hP1 hD1
    obtain ⟨pre, suf, x, nm, e1, e2, e3, e4, e5, e6, e7⟩ := kx E hthr
    refine vx_catch hown pre x suf (by rw [htb, e1]) (fun z hz => ?_) e3 e4 (hts _ e5) (va_Nw.use rfl (hE.2.2.2.1 _ e6)) hc9 hv9 hcl9 (e7 q9 H1 locs1 ls (hP2.sub is2 (va_fm h3)) (hD2.sub is2 hn2 h3) hS1 hl)
    rcases e2 z hz with h | ⟨h, h', rfl⟩
    · exact Or.inl h
    · exact Or.inr ⟨h, nIAE, hts _ h', hE.2.2.2.2⟩
  · obtain ⟨ht0, hr9⟩ := hw9
    subst hr9
    obtain ⟨hP1, hD1⟩ := hB
    rw [ht] at hP1
    obtain ⟨hP2, hD2⟩ := va_join (wr := wr) (w1 := w1) hP hD isC isR hC hRr hn hdis hk1 hFc hP1 hD1
    exact kk ht0 H1 locs1 ls (hP2.sub is2 (va_fm h2)) (hD2.sub is2 hn2 h2) hS1 hl
theorem met_xl {y : MethodName} {ws ws' : List Cond} {rm : Room} {maxL : Nat} {av : List Value} {thr : Option String} {v : Int64} {wc w1 wx : va_W} {lv0 : List (Nat × Value)} (hlt : l.stackTraces = false) (hy : plainName y.cls = true) (hw : ws = Cond.code y cc maxL (some .long) :: ws') (hown : y.cls = own) (hav : (lg_sl av).length ≤ maxL) (hlv : lv_args 0 av = lv0) (body : ∀ Z : ZT, GX l rm cc maxL own ws G k [] Z → (∀ (w : va_W) (lv : List (Nat × Value)) (pc : Nat) (r : Int64), decode cc pc = .ok (.lreturn, 1) → thr = none → r = v → w = w1 → Z 0 0 w lv pc [.long r]) → (∀ (w : va_W) (lv : List (Nat × Value)) (pc : Nat) (cls : String), ThrAt cc own ws rm pc cls → thr = some cls → w = wx → Z 0 0 w lv pc []) → Z 0 0 wc lv0 0 []) : ∀ sz, vx_Met l y ws rm (va_Pc av (KPX G k wc sz)) (va_Ql (fun r (_ : Unit) => thr = none ∧ r = v) (KQ G w1 (va_A wc sz)) (va_A wc sz)) (XQ thr wx G (va_A wc sz)) 1 6 (va_A wc sz) := by
  intro sz
  refine vx_ofW (cc := cc) (maxL := maxL) hy hw ?_
  intro p e s m args below meth c s₁ B hml htb hv
  obtain ⟨rfl, ⟨hsz, hP, hK, hD0⟩, hE⟩ := hv
  subst hsz
  subst hown
  have hD := hD0.self (sz := s.heap.size)
  have hlocks := B.notSynchronized
  have htb0 : c.exceptionTable.toList = [] := List.eq_nil_iff_forall_not_mem.mpr (fun x hx => htb x hx)
  rw [lg_entry_eq]
  refine body (Zd p l e rm s m av.toArray below meth c (vx_MQ below (va_Ql (fun r (_ : Unit) => thr = none ∧ r = v) (KQ G w1 (va_A wc s.heap.size)) (va_A wc s.heap.size)) (XQ thr wx G (va_A wc s.heap.size)) av.toArray s 1 6 (va_A wc s.heap.size)) G (va_A wc s.heap.size) maxL) ⟨p, e, s, m, _, below, meth, c, _, _, rfl, B.exec, B.bytes, hml, findClass_of_methodNamed B.named, atoms_spec B.pre, hK, fun q h => Or.inr h, hE, htb0⟩ ?_ ?_ s.heap [] _ hP hD va_S.rf (hlv ▸ lv_entry av hav)
  · intro w lv pc r hd ht0 hr hw1 H locs ls hP hD hS hl
    subst hr; subst hw1
    refine W.widen (k := 1) (n := 6) (by omega) (by omega) ?_
    exact vx_ret (W.lret B.exec B.bytes B.returns (fun t ht hW => ⟨⟨r, (), rfl, ⟨ht0, rfl⟩, by rw [ht]; exact hP, hD⟩, hS.F ht⟩) hS.2.2 hd)
  · intro w lv pc cls hat hthr hwx H locs ls hP hD hS hl
    subst hwx
    obtain ⟨ik, is, ic, text, hk, hini, hstr, ho, hg1, hg2, hot, hfc, d0, d3, d4, d6, d9, hr1, hr2, hr3, hr4⟩ := hat
    have hts : ∀ w ∈ ws, w.before av.toArray s = true := atoms_spec B.pre
    obtain ⟨sa, hsa⟩ := hE.2.2.1 _ hstr
    rw [← ho] at hsa
    refine vx_throwS (rest := []) B.exec B.bytes hlt (findClass_of_methodNamed B.named) hfc xN_fit (hts _ hk) (hts _ hini) hsa (vx_hat (B := teW) (fun w hw => hts w (hg1 w hw)) hg2 (fun w hw => va_Nw.use ((by decide +kernel : ∀ w ∈ teW, w.onTables = true) w hw) (hE.2.2.2.1 w hw))) hot hE.1 hE.2.1 hS (hl.1.trans hml.symm) d0 d3 d4 d6 d9 (fun x hx => absurd hx (by rw [htb0]; exact List.not_mem_nil)) hr1 (by simpa using hr2) hr3 hr4 hlocks (fun t ha hz hk => ?_) hS.2.2 (by omega) (by omega)
    exact ⟨(), trivial, ⟨hthr, hP.kept (fun j q hq => hk q.1 (vx_lt hP hq)), hD⟩, Nat.le_trans hS.1 hz, fun q h1 h2 => (hk q (Nat.lt_of_lt_of_le h1 hS.1)).trans (hS.2.1 q h1 h2)⟩
/-- a call that may throw, and what its handlers do -/
theorem z_callXl {tb : List ExceptionTableEntry} (g : GX l R cc nL own Ts G k tb Z) {y : MethodName} {ws ws' : List Cond} {rm : Room} {bytes : ByteArray} {maxL ix : Nat} {ret : Option FieldType} {C : String} {b : Nat} {As st : List Value} {thr : Option String} {v : Int64} {wc w1 wx wr w' wx' : va_W} (hM : ∀ sz, vx_Met l y ws rm (va_Pc (.ref b :: As) (KPX G k wc sz)) (va_Ql (fun r (_ : Unit) => thr = none ∧ r = v) (KQ G w1 (va_A wc sz)) (va_A wc sz)) (XQ thr wx G (va_A wc sz)) 1 6 (va_A wc sz)) (n : Nat) (hG : GoodIn Ts (wsV own ix C y ws)) (hw : ws = Cond.code y bytes maxL ret :: ws') (hrc : rm.cells = 1) (hrs : rm.slots = 6) (hd9 : y.cls = C ∧ y.cls ≠ "java/lang/invoke/MethodHandle" ∧ y.cls ≠ "java/lang/invoke/VarHandle" ∧ (parseMethodDescriptor y.desc).map (fun d => d.parameters.length) = some n) (hR : rm.frames + 1 ≤ R.frames ∧ 8 + (maxL + 11) + rm.locals ≤ R.locals) {ci N : Nat} {T : u_T} {fs : List Value} (q0 : Nat) (he : w[q0]? = some (b, .inr (ci, fs))) (hc : vwCl[ci]? = some (C, T, N)) (isC isR is2 : List Nat) (hnC : va_nd isC = true) (hC : isC.map (fun i => w[i]?) = wc.map some) (hRr : isR.map (fun i => w[i]?) = wr.map some) (hn : va_nd isR = true) (hdis : ∀ i ∈ isR, i ∉ isC) (h2 : is2.map (fun i => (wr ++ w1)[i]?) = w'.map some) (hn2 : va_nd is2 = true) (h3 : is2.map (fun i => (wr ++ wx)[i]?) = wx'.map some) (hnA : As.length = n) (hst : st = As.reverse ++ .ref b :: rest) (hrm : (rest.map fun v => v.category).sum ≤ 8) (hd : decode cc pc = .ok (.invokevirtual ix, 3)) (hf : c0 + 1 ≤ R.cells ∧ s0 + 6 ≤ R.slots)
    (kx : ∀ E, thr = some E → ∃ (pre suf : List ExceptionTableEntry) (x : ExceptionTableEntry) (nm : String), tb = pre ++ x :: suf ∧ (∀ z ∈ pre, covers z pc = false ∨ (z.catchType ≠ 0 ∧ Cond.classLink own z.catchType nIAE ∈ Ts ∧ E = nISE)) ∧ covers x pc = true ∧ x.catchType ≠ 0 ∧ Cond.classLink own x.catchType nm ∈ Ts ∧ Cond.castable E nm ∈ teW ∧ ∀ q, Z (c0 + 1) (s0 + 6) wx' lv x.handlerPc [.ref q])
    (kk : thr = none → Z (c0 + 1) (s0 + 6) w' lv (pc + 3) (.long v :: rest)) : Z c0 s0 w lv pc st := by
  obtain ⟨p, e, s, m, args, below, meth, c, Q, A, rfl, hx, hb, hml, hown, hts, hK, hA, hE, htb⟩ := g
  intro H locs ls hP hD hS hl
  have hPc := hP.sub isC (va_fm hC)
  have hDc := hD.sub isC hnC hC
  have hFc := va_free (wc := wc) hD hS hA isC hC
  refine vx_calll (vx_runV (As := As) (rest := rest) ⟨hx, hb, hml, hown, hts⟩ (hM H.size) (cwV n hts hG hw hrc hrs hd9 hR) ⟨KPX_blind, va_recv hK hP hc he, fun U hU hW => ⟨rfl, ⟨by rw [hU], by rw [hU]; exact hPc, va_K.moved hW.alike hK, hDc.weaken (fun _ _ _ _ => trivial)⟩, hE.next hW hU hS hFc⟩⟩ rfl hnA hl.1 hst (lv_room hrm) hd hf) hS (fun q _ h => hFc q h) hFc (fun q _ h => hFc q h) (fun E ce q9 u t H1 locs1 ht hvm _ hB hz1 hk1 hS1 hc9 hv9 hcl9 => ?_) (fun r u t H1 locs1 ht hvm hw9 hB hz1 hk1 hS1 => ?_)
  · obtain ⟨hthr, hP1, hD1⟩ := hB
    rw [ht] at hP1
    obtain ⟨hP2, hD2⟩ := va_join (wr := wr) (w1 := wx) hP hD isC isR hC hRr hn hdis hk1 hFc hP1 hD1
    obtain ⟨pre, suf, x, nm, e1, e2, e3, e4, e5, e6, e7⟩ := kx E hthr
    refine vx_catch hown pre x suf (by rw [htb, e1]) (fun z hz => ?_) e3 e4 (hts _ e5) (va_Nw.use rfl (hE.2.2.2.1 _ e6)) hc9 hv9 hcl9 (e7 q9 H1 locs1 ls (hP2.sub is2 (va_fm h3)) (hD2.sub is2 hn2 h3) hS1 hl)
    rcases e2 z hz with h | ⟨h, h', rfl⟩
    · exact Or.inl h
    · exact Or.inr ⟨h, nIAE, hts _ h', hE.2.2.2.2⟩
  · obtain ⟨ht0, hr9⟩ := hw9
    subst hr9
    obtain ⟨hP1, hD1⟩ := hB
    rw [ht] at hP1
    obtain ⟨hP2, hD2⟩ := va_join (wr := wr) (w1 := w1) hP hD isC isR hC hRr hn hdis hk1 hFc hP1 hD1
    exact kk ht0 H1 locs1 ls (hP2.sub is2 (va_fm h2)) (hD2.sub is2 hn2 h2) hS1 hl
theorem met_xd {y : MethodName} {ws ws' : List Cond} {rm : Room} {maxL : Nat} {av : List Value} {thr : Option String} {v : UInt64} {wc w1 wx : va_W} {lv0 : List (Nat × Value)} (hlt : l.stackTraces = false) (hy : plainName y.cls = true) (hw : ws = Cond.code y cc maxL (some .double) :: ws') (hown : y.cls = own) (hav : (lg_sl av).length ≤ maxL) (hlv : lv_args 0 av = lv0) (body : ∀ Z : ZT, GX l rm cc maxL own ws G k [] Z → (∀ (w : va_W) (lv : List (Nat × Value)) (pc : Nat) (r : UInt64), decode cc pc = .ok (.dreturn, 1) → thr = none → r = v → w = w1 → Z 0 0 w lv pc [.double r]) → (∀ (w : va_W) (lv : List (Nat × Value)) (pc : Nat) (cls : String), ThrAt cc own ws rm pc cls → thr = some cls → w = wx → Z 0 0 w lv pc []) → Z 0 0 wc lv0 0 []) : ∀ sz, vx_Met l y ws rm (va_Pc av (KPX G k wc sz)) (va_Qd (fun r (_ : Unit) => thr = none ∧ r = v) (KQ G w1 (va_A wc sz)) (va_A wc sz)) (XQ thr wx G (va_A wc sz)) 1 6 (va_A wc sz) := by
  intro sz
  refine vx_ofW (cc := cc) (maxL := maxL) hy hw ?_
  intro p e s m args below meth c s₁ B hml htb hv
  obtain ⟨rfl, ⟨hsz, hP, hK, hD0⟩, hE⟩ := hv
  subst hsz
  subst hown
  have hD := hD0.self (sz := s.heap.size)
  have hlocks := B.notSynchronized
  have htb0 : c.exceptionTable.toList = [] := List.eq_nil_iff_forall_not_mem.mpr (fun x hx => htb x hx)
  rw [lg_entry_eq]
  refine body (Zd p l e rm s m av.toArray below meth c (vx_MQ below (va_Qd (fun r (_ : Unit) => thr = none ∧ r = v) (KQ G w1 (va_A wc s.heap.size)) (va_A wc s.heap.size)) (XQ thr wx G (va_A wc s.heap.size)) av.toArray s 1 6 (va_A wc s.heap.size)) G (va_A wc s.heap.size) maxL) ⟨p, e, s, m, _, below, meth, c, _, _, rfl, B.exec, B.bytes, hml, findClass_of_methodNamed B.named, atoms_spec B.pre, hK, fun q h => Or.inr h, hE, htb0⟩ ?_ ?_ s.heap [] _ hP hD va_S.rf (hlv ▸ lv_entry av hav)
  · intro w lv pc r hd ht0 hr hw1 H locs ls hP hD hS hl
    subst hr; subst hw1
    refine W.widen (k := 1) (n := 6) (by omega) (by omega) ?_
    exact vx_ret (W.dret B.exec B.bytes B.returns (fun t ht hW => ⟨⟨r, (), rfl, ⟨ht0, rfl⟩, by rw [ht]; exact hP, hD⟩, hS.F ht⟩) hS.2.2 hd)
  · intro w lv pc cls hat hthr hwx H locs ls hP hD hS hl
    subst hwx
    obtain ⟨ik, is, ic, text, hk, hini, hstr, ho, hg1, hg2, hot, hfc, d0, d3, d4, d6, d9, hr1, hr2, hr3, hr4⟩ := hat
    have hts : ∀ w ∈ ws, w.before av.toArray s = true := atoms_spec B.pre
    obtain ⟨sa, hsa⟩ := hE.2.2.1 _ hstr
    rw [← ho] at hsa
    refine vx_throwS (rest := []) B.exec B.bytes hlt (findClass_of_methodNamed B.named) hfc xN_fit (hts _ hk) (hts _ hini) hsa (vx_hat (B := teW) (fun w hw => hts w (hg1 w hw)) hg2 (fun w hw => va_Nw.use ((by decide +kernel : ∀ w ∈ teW, w.onTables = true) w hw) (hE.2.2.2.1 w hw))) hot hE.1 hE.2.1 hS (hl.1.trans hml.symm) d0 d3 d4 d6 d9 (fun x hx => absurd hx (by rw [htb0]; exact List.not_mem_nil)) hr1 (by simpa using hr2) hr3 hr4 hlocks (fun t ha hz hk => ?_) hS.2.2 (by omega) (by omega)
    exact ⟨(), trivial, ⟨hthr, hP.kept (fun j q hq => hk q.1 (vx_lt hP hq)), hD⟩, Nat.le_trans hS.1 hz, fun q h1 h2 => (hk q (Nat.lt_of_lt_of_le h1 hS.1)).trans (hS.2.1 q h1 h2)⟩
/-- a call that may throw, and what its handlers do -/
theorem z_callXd {tb : List ExceptionTableEntry} (g : GX l R cc nL own Ts G k tb Z) {y : MethodName} {ws ws' : List Cond} {rm : Room} {bytes : ByteArray} {maxL ix : Nat} {ret : Option FieldType} {C : String} {b : Nat} {As st : List Value} {thr : Option String} {v : UInt64} {wc w1 wx wr w' wx' : va_W} (hM : ∀ sz, vx_Met l y ws rm (va_Pc (.ref b :: As) (KPX G k wc sz)) (va_Qd (fun r (_ : Unit) => thr = none ∧ r = v) (KQ G w1 (va_A wc sz)) (va_A wc sz)) (XQ thr wx G (va_A wc sz)) 1 6 (va_A wc sz)) (n : Nat) (hG : GoodIn Ts (wsV own ix C y ws)) (hw : ws = Cond.code y bytes maxL ret :: ws') (hrc : rm.cells = 1) (hrs : rm.slots = 6) (hd9 : y.cls = C ∧ y.cls ≠ "java/lang/invoke/MethodHandle" ∧ y.cls ≠ "java/lang/invoke/VarHandle" ∧ (parseMethodDescriptor y.desc).map (fun d => d.parameters.length) = some n) (hR : rm.frames + 1 ≤ R.frames ∧ 8 + (maxL + 11) + rm.locals ≤ R.locals) {ci N : Nat} {T : u_T} {fs : List Value} (q0 : Nat) (he : w[q0]? = some (b, .inr (ci, fs))) (hc : vwCl[ci]? = some (C, T, N)) (isC isR is2 : List Nat) (hnC : va_nd isC = true) (hC : isC.map (fun i => w[i]?) = wc.map some) (hRr : isR.map (fun i => w[i]?) = wr.map some) (hn : va_nd isR = true) (hdis : ∀ i ∈ isR, i ∉ isC) (h2 : is2.map (fun i => (wr ++ w1)[i]?) = w'.map some) (hn2 : va_nd is2 = true) (h3 : is2.map (fun i => (wr ++ wx)[i]?) = wx'.map some) (hnA : As.length = n) (hst : st = As.reverse ++ .ref b :: rest) (hrm : (rest.map fun v => v.category).sum ≤ 8) (hd : decode cc pc = .ok (.invokevirtual ix, 3)) (hf : c0 + 1 ≤ R.cells ∧ s0 + 6 ≤ R.slots)
    (kx : ∀ E, thr = some E → ∃ (pre suf : List ExceptionTableEntry) (x : ExceptionTableEntry) (nm : String), tb = pre ++ x :: suf ∧ (∀ z ∈ pre, covers z pc = false ∨ (z.catchType ≠ 0 ∧ Cond.classLink own z.catchType nIAE ∈ Ts ∧ E = nISE)) ∧ covers x pc = true ∧ x.catchType ≠ 0 ∧ Cond.classLink own x.catchType nm ∈ Ts ∧ Cond.castable E nm ∈ teW ∧ ∀ q, Z (c0 + 1) (s0 + 6) wx' lv x.handlerPc [.ref q])
    (kk : thr = none → Z (c0 + 1) (s0 + 6) w' lv (pc + 3) (.double v :: rest)) : Z c0 s0 w lv pc st := by
  obtain ⟨p, e, s, m, args, below, meth, c, Q, A, rfl, hx, hb, hml, hown, hts, hK, hA, hE, htb⟩ := g
  intro H locs ls hP hD hS hl
  have hPc := hP.sub isC (va_fm hC)
  have hDc := hD.sub isC hnC hC
  have hFc := va_free (wc := wc) hD hS hA isC hC
  refine vx_calld (vx_runV (As := As) (rest := rest) ⟨hx, hb, hml, hown, hts⟩ (hM H.size) (cwV n hts hG hw hrc hrs hd9 hR) ⟨KPX_blind, va_recv hK hP hc he, fun U hU hW => ⟨rfl, ⟨by rw [hU], by rw [hU]; exact hPc, va_K.moved hW.alike hK, hDc.weaken (fun _ _ _ _ => trivial)⟩, hE.next hW hU hS hFc⟩⟩ rfl hnA hl.1 hst (lv_room hrm) hd hf) hS (fun q _ h => hFc q h) hFc (fun q _ h => hFc q h) (fun E ce q9 u t H1 locs1 ht hvm _ hB hz1 hk1 hS1 hc9 hv9 hcl9 => ?_) (fun r u t H1 locs1 ht hvm hw9 hB hz1 hk1 hS1 => ?_)
  · obtain ⟨hthr, hP1, hD1⟩ := hB
    rw [ht] at hP1
    obtain ⟨hP2, hD2⟩ := va_join (wr := wr) (w1 := wx) hP hD isC isR hC hRr hn hdis hk1 hFc hP1 hD1
    obtain ⟨pre, suf, x, nm, e1, e2, e3, e4, e5, e6, e7⟩ := kx E hthr
    refine vx_catch hown pre x suf (by rw [htb, e1]) (fun z hz => ?_) e3 e4 (hts _ e5) (va_Nw.use rfl (hE.2.2.2.1 _ e6)) hc9 hv9 hcl9 (e7 q9 H1 locs1 ls (hP2.sub is2 (va_fm h3)) (hD2.sub is2 hn2 h3) hS1 hl)
    rcases e2 z hz with h | ⟨h, h', rfl⟩
    · exact Or.inl h
    · exact Or.inr ⟨h, nIAE, hts _ h', hE.2.2.2.2⟩
  · obtain ⟨ht0, hr9⟩ := hw9
    subst hr9
    obtain ⟨hP1, hD1⟩ := hB
    rw [ht] at hP1
    obtain ⟨hP2, hD2⟩ := va_join (wr := wr) (w1 := w1) hP hD isC isR hC hRr hn hdis hk1 hFc hP1 hD1
    exact kk ht0 H1 locs1 ls (hP2.sub is2 (va_fm h2)) (hD2.sub is2 hn2 h2) hS1 hl
theorem met_h {y : MethodName} {ws ws' : List Cond} {rm : Room} {maxL : Nat} {hh : List (Nat × Nat × Nat × Nat)} {av : List Value} {v : Int32} {wc w1 : va_W} {lv0 : List (Nat × Value)} (mc ms : Nat) (hy : plainName y.cls = true) (hw : ws = Cond.codeWith y cc maxL (some .int) hh :: ws') (hown : y.cls = own) (hav : (lg_sl av).length ≤ maxL) (hlv : lv_args 0 av = lv0) (body : ∀ Z : ZT, GX l rm cc maxL own ws G k (tableOf hh) Z → (∀ (w : va_W) (lv : List (Nat × Value)) (pc : Nat) (r : Int32), decode cc pc = .ok (.ireturn, 1) → r = v → w = w1 → Z mc ms w lv pc [.int r]) → Z 0 0 wc lv0 0 []) : ∀ sz, Met l y ws rm (va_Pc av (KPX G k wc sz)) (va_Qi (fun r (_ : Unit) => r = v) (KQ G w1 (va_A wc sz)) (va_A wc sz)) mc ms (va_A wc sz) := by
  intro sz
  refine va_MetW (cc := cc) (maxL := maxL) hy hw ?_
  intro p e s m args below meth c s₁ B hml hv
  obtain ⟨rfl, ⟨hsz, hP, hK, hD0⟩, hE⟩ := hv
  subst hsz
  subst hown
  have hD := hD0.self (sz := s.heap.size)
  have hlocks := B.notSynchronized
  have hts : ∀ w ∈ ws, w.before av.toArray s = true := atoms_spec B.pre
  have htb := vx_table (x := y) B (hts _ (by rw [hw]; exact List.mem_cons_self))
  rw [lg_entry_eq]
  refine body (Zd p l e rm s m av.toArray below meth c (MQ below (va_Qi (fun r (_ : Unit) => r = v) (KQ G w1 (va_A wc s.heap.size)) (va_A wc s.heap.size)) av.toArray s mc ms (va_A wc s.heap.size)) G (va_A wc s.heap.size) maxL) ⟨p, e, s, m, _, below, meth, c, _, _, rfl, B.exec, B.bytes, hml, findClass_of_methodNamed B.named, hts, hK, fun q h => Or.inr h, hE, htb⟩ ?_ s.heap [] _ hP hD va_S.rf (hlv ▸ lv_entry av hav)
  intro w lv pc r hd hr hw1 H locs ls hP hD hS hl
  subst hr; subst hw1
  exact W.iret B.exec B.bytes B.returns (fun t ht hW => ⟨⟨r, (), rfl, rfl, by rw [ht]; exact hP, hD⟩, hS.F ht⟩) hS.2.2 hd
/-- a static call of a method with handlers, from a state that may throw -/
theorem z_callH {tb : List ExceptionTableEntry} (g : GX l R cc nL own Ts G k tb Z) {y : MethodName} {ws ws' : List Cond} {rm : Room} {bytes : ByteArray} {maxL mc ms ix : Nat} {ret : Option FieldType} {hh : List (Nat × Nat × Nat × Nat)} {As st : List Value} {v : Int32} {wc w1 wr w' : va_W} (hM : ∀ sz, Met l y ws rm (va_Pc As (KPX G k wc sz)) (va_Qi (fun r (_ : Unit) => r = v) (KQ G w1 (va_A wc sz)) (va_A wc sz)) mc ms (va_A wc sz)) (n : Nat) (hG : GoodIn Ts (va_wsS own ix y ws)) (hw : ws = Cond.codeWith y bytes maxL ret hh :: ws') (hrc : rm.cells = mc) (hrs : rm.slots = ms) (hd9 : y.cls ≠ "java/lang/invoke/MethodHandle" ∧ y.cls ≠ "java/lang/invoke/VarHandle" ∧ (parseMethodDescriptor y.desc).map (fun d => d.parameters.length) = some n) (hR : rm.frames + 1 ≤ R.frames ∧ 8 + (maxL + 11) + rm.locals ≤ R.locals) (isC isR is2 : List Nat) (hnC : va_nd isC = true) (hC : isC.map (fun i => w[i]?) = wc.map some) (hRr : isR.map (fun i => w[i]?) = wr.map some) (hn : va_nd isR = true) (hdis : ∀ i ∈ isR, i ∉ isC) (h2 : is2.map (fun i => (wr ++ w1)[i]?) = w'.map some) (hn2 : va_nd is2 = true) (hnA : As.length = n) (hst : st = As.reverse ++ rest) (hrm : (rest.map fun v => v.category).sum ≤ 8) (hd : decode cc pc = .ok (.invokestatic ix, 3)) (hf : c0 + mc ≤ R.cells ∧ s0 + ms ≤ R.slots) (kk : Z (c0 + mc) (s0 + ms) w' lv (pc + 3) (.int v :: rest)) : Z c0 s0 w lv pc st := by
  obtain ⟨p, e, s, m, args, below, meth, c, Q, A, rfl, hx, hb, hml, hown, hts, hK, hA, hE, htb⟩ := g
  intro H locs ls hP hD hS hl
  have hPc := hP.sub isC (va_fm hC)
  have hDc := hD.sub isC hnC hC
  have hFc := va_free (wc := wc) hD hS hA isC hC
  refine va_calli (vx_runSW (As := As) (rest := rest) ⟨hx, hb, hml, hown, hts⟩ (hM H.size) (vx_cwSW n hts hG hw hrc hrs hd9 hR) ⟨KPX_blind, fun U hU hW => ⟨rfl, ⟨by rw [hU], by rw [hU]; exact hPc, va_K.moved hW.alike hK, hDc.weaken (fun _ _ _ _ => trivial)⟩, hE.next hW hU hS hFc⟩⟩ rfl hnA hl.1 hst (lv_room hrm) hd hf) hS (fun q _ h => hFc q h) hFc (fun r u t H1 locs1 ht hvm hw9 hB hz1 hk1 hS1 => ?_)
  subst hw9
  obtain ⟨hP1, hD1⟩ := hB
  rw [ht] at hP1
  obtain ⟨hP2, hD2⟩ := va_join (wr := wr) (w1 := w1) hP hD isC isR hC hRr hn hdis hk1 hFc hP1 hD1
  exact kk H1 locs1 ls (hP2.sub is2 (va_fm h2)) (hD2.sub is2 hn2 h2) hS1 hl
end ZX
