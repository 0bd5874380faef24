/-! constructors: what they make has addresses of its own; WS says which worlds may come -/
def nsW : List Cond := [.methodLinkNest RX2 11 yX0_init RX2, .methodLinkNest RX2 18 yX1_init RX2]
def NW (U : State) : Prop := ∀ w ∈ nsW, va_Nw w U
theorem NW_same {u U : State} (h : u.vm = U.vm) (hZ : NW u) : NW U := by
  intro w hw
  refine va_Nw.same ?_ h (hZ w hw)
  exact (by decide +kernel : ∀ w ∈ nsW, w.onTables = true) w hw
theorem NW_warm {s U : State} (hW : s.WarmedH U.vm) (hZ : NW s) : NW U := by
  unfold NW nsW at hZ ⊢
  simp only [List.forall_mem_cons] at hZ ⊢
  exact ⟨va_Nw.warmM hW hZ.1, va_Nw.warmM hW hZ.2.1, fun _ h => nomatch h⟩
def GI (l : Launch) (R : Room) (cc : ByteArray) (nL : Nat) (own : String) (Ts : List Cond) (G : va_G) (k : Nat → ClassId) (Z : ZT) : Prop :=
  ∃ (p : Program) (e : Env) (s : State) (m : MethodId) (args : Array Value) (below : List Frame) (meth : Method) (c : Code) (Q : State → Prop) (A : Nat → Prop), Z = Zd p l e R s m args below meth c Q G A nL ∧ p.tables.exec = Jvm.exec ∧ c.code = cc ∧ c.maxLocals = nL ∧ s.vm.findClass own = some m.cls ∧ (∀ w ∈ Ts, w.before args s = true) ∧ va_K G vwCl (TY k) s ∧ (∀ q, s.heap.size ≤ q → A q) ∧ meth.name = "<init>" ∧ NW s
theorem GI.gd {l : Launch} {R : Room} {cc : ByteArray} {nL : Nat} {own : String} {Ts : List Cond} {G : va_G} {k : Nat → ClassId} {Z : ZT} (g : GI l R cc nL own Ts G k Z) : Gd l R cc nL own Ts G k Z := by
  obtain ⟨p, e, s, m, args, below, meth, c, Q, A, h1, h2, h3, h4, h5, h6, h7, h8, -, -⟩ := g
  exact ⟨p, e, s, m, args, below, meth, c, Q, A, h1, h2, h3, h4, h5, h6, h7, h8⟩
def KPN (G : va_G) (k : Nat → ClassId) (ws : va_W) (sz : Nat) : State → Prop := fun U => KP G k ws sz U ∧ NW U
theorem KPN_blind {G : va_G} {k : Nat → ClassId} {ws : va_W} {sz : Nat} {av : List Value} : FrameBlind (va_Pc av (KPN G k ws sz)) := fun a U g mk q => by
  obtain ⟨q0, q1, qE⟩ := q
  obtain ⟨-, q2⟩ := KP_blind (av := av) a U g mk ⟨q0, q1⟩
  exact ⟨q0, q2, NW_same (u := U) rfl qE⟩
def KQs (G : va_G) (WS : va_W → Prop) (A : Nat → Prop) : Unit → State → Prop := fun _ t => ∃ w, WS w ∧ va_P G vwCl w t.heap ∧ va_D A w
section ZI
variable {l : Launch} {R : Room} {cc : ByteArray} {nL : Nat} {own : String} {Ts : List Cond} {G : va_G} {k : Nat → ClassId} {Z : ZT}
variable {c0 s0 : Nat} {w : va_W} {lv lv' : List (Nat × Value)} {pc : Nat} {rest : List Value}

theorem z_objInit (g : Gd l R cc nL own Ts G k Z) {ix a : Nat} (h1 : Cond.methodLink own ix objectInit ∈ Ts) (h2 : Cond.instanceMethod objectInit ∈ Ts) (h3 : Cond.code objectInit ⟨#[0xb1]⟩ 1 none ∈ Ts) (hf : 1 ≤ R.frames) (hlo : (rest.map fun v => v.category).sum + 12 ≤ R.locals) (hd : decode cc pc = .ok (.invokespecial ix, 3)) (kk : Z c0 s0 w lv (pc + 3) rest) : Z c0 s0 w lv pc (.ref a :: rest) := by
  obtain ⟨p, e, s, m, args, below, meth, c, Q, A, rfl, hx, hb, hml, hown, hts, hK, hA⟩ := g
  intro H locs ls hP hD hS hl
  refine W.objInit hx hb hown (hts _ h1) (hts _ h2) (hts _ h3) rfl (hl.1.trans hml.symm) rfl hd hf ?_ (kk H locs ls hP hD hS hl)
  show 2 * 0 + _ + 12 ≤ _
  omega
theorem z_putF (g : GI l R cc nL own Ts G k Z) {C : String} {T : u_T} {N ci ix a : Nat} {fs : List Value} {v : Value} (hin : ∀ w ∈ u_ws C T N, w ∈ Ts) (ty0 : Nat → FieldType) (hty : ∀ k, k < N → parseFieldDescriptor (T k).2.2.1 = some (ty0 k)) (hnm : ∀ a, a < N → ∀ b, b < N → a ≠ b → (T a).2.1 ≠ (T b).2.1) (q0 : Nat) (he : w[q0]? = some (a, .inr (ci, fs))) (hc : vwCl[ci]? = some (C, T, N)) (kf : Nat) (hk : kf < N) (hlink : Cond.fieldLink own ix (T kf).1 (T kf).2.1 (T kf).2.2.1 ∈ Ts) (hfin : (T kf).2.2.2 = true) (hdecl : (T kf).1 = own) (hn : narrow (ty0 kf) v = v) (hfit : fits (ty0 kf) v = true) (hl9 : kf < fs.length) (hd : decode cc pc = .ok (.putfield ix, 3)) {w' : va_W} (hw : w.set q0 (a, .inr (ci, fs.set kf v)) = w') (kk : Z c0 s0 w' lv (pc + 3) rest) : Z c0 s0 w lv pc (v :: .ref a :: rest) := by
  subst hw
  obtain ⟨p, e, s, m, args, below, meth, c, Q, A, rfl, hx, hb, hml, hown, hts, hK, hA, hin0, hnw⟩ := g
  intro H locs ls hP hD hS hl
  exact va_putF (D := G) hx hb hts hin ty0 hty hnm hown hK hP hD hS q0 he hc kf hk (hts _ hlink) (fun _ h9 => h9) hfin hin0 hdecl (hty kf hk) hn hfit hl9 hd (fun H locs hP hD hS => kk H locs ls hP hD hS hl)
theorem z_new (g : Gd l R cc nL own Ts G k Z) {C : String} {T : u_T} {N ci ix : Nat} (hin : ∀ w ∈ u_ws C T N, w ∈ Ts) (ty0 : Nat → FieldType) (hty : ∀ k, k < N → parseFieldDescriptor (T k).2.2.1 = some (ty0 k)) (h1 : Cond.classLink own ix C ∈ Ts) (h2 : Cond.instantiable C N ∈ Ts) (h3 : Cond.initialized C ∈ Ts) (hc : vwCl[ci]? = some (C, T, N)) (fs : List Value) (hfs : ∀ j, j < N → defaultValue (ty0 j) = vp_V fs j) (hc9 : c0 + 1 ≤ R.cells) (hs9 : s0 + N ≤ R.slots) (hd : decode cc pc = .ok (.new ix, 3)) (kk : ∀ q, Z (c0 + 1) (s0 + N) (w ++ [(q, .inr (ci, fs))]) lv (pc + 3) (.ref q :: rest)) : Z c0 s0 w lv pc rest := by
  obtain ⟨p, e, s, m, args, below, meth, c, Q, A, rfl, hx, hb, hml, hown, hts, hK, hA⟩ := g
  intro H locs ls hP hD hS hl
  exact va_new (D := G) hx hb hts hin ty0 hty hown (hts _ h1) (hts _ h2) (hts _ h3) hK hP hD hS hA hc hfs hc9 hs9 hd (fun q H1 hP hD hS => kk q H1 locs ls hP hD hS hl)
theorem z_newai (g : Gd l R cc nL own Ts G k Z) (h1 : Cond.arrayClass .int ∈ Ts) (N : Nat) {n : Int32} (hn : n = nI N) (hN : N < 64) (hc9 : c0 + 1 ≤ R.cells) (hs9 : s0 + N ≤ R.slots) (hd : decode cc pc = .ok (.newarray .int, 2)) (kk : ∀ q, Z (c0 + 1) (s0 + N) (w ++ [(q, .inl (k 1, N, .inl (fun _ => 0)))]) lv (pc + 2) (.ref q :: rest)) : Z c0 s0 w lv pc (.int n :: rest) := by
  obtain ⟨p, e, s, m, args, below, meth, c, Q, A, rfl, hx, hb, hml, hown, hts, hK, hA⟩ := g
  intro H locs ls hP hD hS hl
  subst hn
  have hbytes : N * componentBytes .int ≤ 536870912 := Nat.le_trans (Nat.mul_le_mul (Nat.le_of_lt hN) (by decide : componentBytes .int ≤ 8)) (by decide)
  refine va_newa (D := G) (atype := .int) (ty := .int) (a0 := (N, .inl (fun _ => 0))) hx hb (hts _ h1) rfl hK hP hD hS hA (fun cA => rfl) (nI_pos (by omega)) (nI_clamp (by omega)) hbytes hc9 hs9 hd (fun q cA H1 hK1 hP1 hD1 hS1 => ?_)
  have e1 : s.vm.findClass _ = some cA := va_nm_int (hK1.2 4 (cA, .int) rfl).2
  have e2 : s.vm.findClass _ = some (k 1) := va_nm_int (hK.2 1 (k 1, .int) rfl).2
  have e3 : cA = k 1 := Option.some.inj (e1.symm.trans e2)
  subst e3
  exact kk q H1 locs ls hP1 hD1 hS1 hl
theorem z_newal (g : Gd l R cc nL own Ts G k Z) (h1 : Cond.arrayClass .long ∈ Ts) (N : Nat) {n : Int32} (hn : n = nI N) (hN : N < 64) (hc9 : c0 + 1 ≤ R.cells) (hs9 : s0 + N ≤ R.slots) (hd : decode cc pc = .ok (.newarray .long, 2)) (kk : ∀ q, Z (c0 + 1) (s0 + N) (w ++ [(q, .inl (k 2, N, .inr (.inl (fun _ => 0))))]) lv (pc + 2) (.ref q :: rest)) : Z c0 s0 w lv pc (.int n :: rest) := by
  obtain ⟨p, e, s, m, args, below, meth, c, Q, A, rfl, hx, hb, hml, hown, hts, hK, hA⟩ := g
  intro H locs ls hP hD hS hl
  subst hn
  have hbytes : N * componentBytes .long ≤ 536870912 := Nat.le_trans (Nat.mul_le_mul (Nat.le_of_lt hN) (by decide : componentBytes .long ≤ 8)) (by decide)
  refine va_newa (D := G) (atype := .long) (ty := .long) (a0 := (N, .inr (.inl (fun _ => 0)))) hx hb (hts _ h1) rfl hK hP hD hS hA (fun cA => rfl) (nI_pos (by omega)) (nI_clamp (by omega)) hbytes hc9 hs9 hd (fun q cA H1 hK1 hP1 hD1 hS1 => ?_)
  have e1 : s.vm.findClass _ = some cA := va_nm_long (hK1.2 4 (cA, .long) rfl).2
  have e2 : s.vm.findClass _ = some (k 2) := va_nm_long (hK.2 2 (k 2, .long) rfl).2
  have e3 : cA = k 2 := Option.some.inj (e1.symm.trans e2)
  subst e3
  exact kk q H1 locs ls hP1 hD1 hS1 hl
theorem z_newac (g : Gd l R cc nL own Ts G k Z) (h1 : Cond.arrayClass .char ∈ Ts) (N : Nat) {n : Int32} (hn : n = nI N) (hN : N < 64) (hc9 : c0 + 1 ≤ R.cells) (hs9 : s0 + N ≤ R.slots) (hd : decode cc pc = .ok (.newarray .char, 2)) (kk : ∀ q, Z (c0 + 1) (s0 + N) (w ++ [(q, .inl (k 0, N, .inl (fun _ => 0)))]) lv (pc + 2) (.ref q :: rest)) : Z c0 s0 w lv pc (.int n :: rest) := by
  obtain ⟨p, e, s, m, args, below, meth, c, Q, A, rfl, hx, hb, hml, hown, hts, hK, hA⟩ := g
  intro H locs ls hP hD hS hl
  subst hn
  have hbytes : N * componentBytes .char ≤ 536870912 := Nat.le_trans (Nat.mul_le_mul (Nat.le_of_lt hN) (by decide : componentBytes .char ≤ 8)) (by decide)
  refine va_newa (D := G) (atype := .char) (ty := .char) (a0 := (N, .inl (fun _ => 0))) hx hb (hts _ h1) rfl hK hP hD hS hA (fun cA => rfl) (nI_pos (by omega)) (nI_clamp (by omega)) hbytes hc9 hs9 hd (fun q cA H1 hK1 hP1 hD1 hS1 => ?_)
  have e1 : s.vm.findClass _ = some cA := va_nm_char (hK1.2 4 (cA, .char) rfl).2
  have e2 : s.vm.findClass _ = some (k 0) := va_nm_char (hK.2 0 (k 0, .char) rfl).2
  have e3 : cA = k 0 := Option.some.inj (e1.symm.trans e2)
  subst e3
  exact kk q H1 locs ls hP1 hD1 hS1 hl
theorem z_newad (g : Gd l R cc nL own Ts G k Z) (h1 : Cond.arrayClass .double ∈ Ts) (N : Nat) {n : Int32} (hn : n = nI N) (hN : N < 64) (hc9 : c0 + 1 ≤ R.cells) (hs9 : s0 + N ≤ R.slots) (hd : decode cc pc = .ok (.newarray .double, 2)) (kk : ∀ q, Z (c0 + 1) (s0 + N) (w ++ [(q, .inl (k 3, N, .inr (.inr (.inr (.inl (fun _ => 0))))))]) lv (pc + 2) (.ref q :: rest)) : Z c0 s0 w lv pc (.int n :: rest) := by
  obtain ⟨p, e, s, m, args, below, meth, c, Q, A, rfl, hx, hb, hml, hown, hts, hK, hA⟩ := g
  intro H locs ls hP hD hS hl
  subst hn
  have hbytes : N * componentBytes .double ≤ 536870912 := Nat.le_trans (Nat.mul_le_mul (Nat.le_of_lt hN) (by decide : componentBytes .double ≤ 8)) (by decide)
  refine va_newa (D := G) (atype := .double) (ty := .double) (a0 := (N, .inr (.inr (.inr (.inl (fun _ => 0)))))) hx hb (hts _ h1) rfl hK hP hD hS hA (fun cA => rfl) (nI_pos (by omega)) (nI_clamp (by omega)) hbytes hc9 hs9 hd (fun q cA H1 hK1 hP1 hD1 hS1 => ?_)
  have e1 : s.vm.findClass _ = some cA := va_nm_double (hK1.2 4 (cA, .double) rfl).2
  have e2 : s.vm.findClass _ = some (k 3) := va_nm_double (hK.2 3 (k 3, .double) rfl).2
  have e3 : cA = k 3 := Option.some.inj (e1.symm.trans e2)
  subst e3
  exact kk q H1 locs ls hP1 hD1 hS1 hl
theorem z_callINs (g : GI l R cc nL own Ts G k Z) {y : MethodName} {ws ws' : List Cond} {rm : Room} {bytes : ByteArray} {maxL mc ms ix b : Nat} {wc wr : va_W} {WS : va_W → Prop} (hM : ∀ sz, Met l y ws rm (va_Pc [.ref b] (KPN G k wc sz)) (va_Qv (fun (_ : Unit) => True) (KQs G WS (va_A wc sz)) (va_A wc sz)) mc ms (va_A wc sz)) (hG : GoodIn Ts ws) (hw : ws = Cond.code y bytes maxL none :: ws') (hrc : rm.cells = mc) (hrs : rm.slots = ms) (hd9 : y.cls ≠ "java/lang/invoke/MethodHandle" ∧ y.cls ≠ "java/lang/invoke/VarHandle" ∧ (parseMethodDescriptor y.desc).map (fun d => d.parameters.length) = some 0) (hR : rm.frames + 1 ≤ R.frames ∧ 8 + (maxL + 11) + rm.locals ≤ R.locals) (hini : Cond.initialized y.cls ∈ Ts) (hl9 : Cond.methodLinkNest own ix y RX2 ∈ nsW) (hin : Cond.instanceMethod y ∈ Ts) (hy1 : y.name = "<init>") (isC isR : List Nat) (hnC : va_nd isC = true) (hC : isC.map (fun i => w[i]?) = wc.map some) (hRr : isR.map (fun i => w[i]?) = wr.map some) (hn : va_nd isR = true) (hdis : ∀ i ∈ isR, i ∉ isC) (hrm : (rest.map fun v => v.category).sum ≤ 8) (hd : decode cc pc = .ok (.invokespecial ix, 3)) (hf : c0 + mc ≤ R.cells ∧ s0 + ms ≤ R.slots) (kk : ∀ w1, WS w1 → Z (c0 + mc) (s0 + ms) (wr ++ w1) lv (pc + 3) rest) : Z c0 s0 w lv pc (.ref b :: rest) := by
  obtain ⟨p, e, s, m, args, below, meth, c, Q, A, rfl, hx, hb, hml, hown, hts, hK, hA, hin0, hnw⟩ := g
  intro H locs ls hP hD hS hl
  have hPc := hP.sub isC (va_fm hC)
  have hDc := hD.sub isC hnC hC
  have hFc := va_free (wc := wc) hD hS hA isC hC
  refine va_callv (va_runIN (As := []) (rest := rest) ⟨hx, hb, hml, hown, hts⟩ (hM H.size) (⟨va_cnB (host := RX2) 0 hts hG hw hrc hrs (hnw _ hl9) (hts _ hini) hd9 hR, hy1, hts _ hin⟩) ⟨KPN_blind, fun U hU hW => ⟨rfl, ⟨by rw [hU], by rw [hU]; exact hPc, va_K.moved hW.alike hK, hDc.weaken (fun _ _ _ _ => trivial)⟩, NW_warm hW hnw⟩⟩ rfl rfl hl.1 rfl (lv_room hrm) hd hf) hS (fun q _ h => hFc q h) hFc (fun u t H1 locs1 ht hvm hw9 hB hz1 hk1 hS1 => ?_)
  obtain ⟨w1, hws, hP1, hD1⟩ := hB
  rw [ht] at hP1
  obtain ⟨hP2, hD2⟩ := va_join (wr := wr) (w1 := w1) hP hD isC isR hC hRr hn hdis hk1 hFc hP1 hD1
  exact kk w1 hws H1 locs1 ls hP2 hD2 hS1 hl
theorem z_callIs (g : GI l R cc nL own Ts G k Z) {y : MethodName} {ws ws' : List Cond} {rm : Room} {bytes : ByteArray} {maxL mc ms ix b : Nat} {wc wr : va_W} {WS : va_W → Prop} (hM : ∀ sz, Met l y ws rm (va_Pc [.ref b] (KPN G k wc sz)) (va_Qv (fun (_ : Unit) => True) (KQs G WS (va_A wc sz)) (va_A wc sz)) mc ms (va_A wc sz)) (hG : GoodIn Ts ws) (hw : ws = Cond.code y bytes maxL none :: ws') (hrc : rm.cells = mc) (hrs : rm.slots = ms) (hd9 : y.cls ≠ "java/lang/invoke/MethodHandle" ∧ y.cls ≠ "java/lang/invoke/VarHandle" ∧ (parseMethodDescriptor y.desc).map (fun d => d.parameters.length) = some 0) (hR : rm.frames + 1 ≤ R.frames ∧ 8 + (maxL + 11) + rm.locals ≤ R.locals) (hini : Cond.initialized y.cls ∈ Ts) (hl9 : Cond.methodLink own ix y ∈ Ts) (hin : Cond.instanceMethod y ∈ Ts) (hy1 : y.name = "<init>") (isC isR : List Nat) (hnC : va_nd isC = true) (hC : isC.map (fun i => w[i]?) = wc.map some) (hRr : isR.map (fun i => w[i]?) = wr.map some) (hn : va_nd isR = true) (hdis : ∀ i ∈ isR, i ∉ isC) (hrm : (rest.map fun v => v.category).sum ≤ 8) (hd : decode cc pc = .ok (.invokespecial ix, 3)) (hf : c0 + mc ≤ R.cells ∧ s0 + ms ≤ R.slots) (kk : ∀ w1, WS w1 → Z (c0 + mc) (s0 + ms) (wr ++ w1) lv (pc + 3) rest) : Z c0 s0 w lv pc (.ref b :: rest) := by
  obtain ⟨p, e, s, m, args, below, meth, c, Q, A, rfl, hx, hb, hml, hown, hts, hK, hA, hin0, hnw⟩ := g
  intro H locs ls hP hD hS hl
  have hPc := hP.sub isC (va_fm hC)
  have hDc := hD.sub isC hnC hC
  have hFc := va_free (wc := wc) hD hS hA isC hC
  refine va_callv (va_runI (As := []) (rest := rest) ⟨hx, hb, hml, hown, hts⟩ (hM H.size) (cwI 0 hts hG hw hrc hrs (hts _ hini) (hts _ hl9) (hts _ hin) hy1 hd9 hR) ⟨KPN_blind, fun U hU hW => ⟨rfl, ⟨by rw [hU], by rw [hU]; exact hPc, va_K.moved hW.alike hK, hDc.weaken (fun _ _ _ _ => trivial)⟩, NW_warm hW hnw⟩⟩ rfl rfl hl.1 rfl (lv_room hrm) hd hf) hS (fun q _ h => hFc q h) hFc (fun u t H1 locs1 ht hvm hw9 hB hz1 hk1 hS1 => ?_)
  obtain ⟨w1, hws, hP1, hD1⟩ := hB
  rw [ht] at hP1
  obtain ⟨hP2, hD2⟩ := va_join (wr := wr) (w1 := w1) hP hD isC isR hC hRr hn hdis hk1 hFc hP1 hD1
  exact kk w1 hws H1 locs1 ls hP2 hD2 hS1 hl
theorem met_s {y : MethodName} {ws ws' : List Cond} {rm : Room} {maxL : Nat} {av : List Value} {wc : va_W} {WS : va_W → Prop} {lv0 : List (Nat × Value)} (mc ms : Nat) (hy : plainName y.cls = true) (hw : ws = Cond.code y cc maxL none :: ws') (hown : y.cls = own) (hnm : y.name = "<init>") (hav : (lg_sl av).length ≤ maxL) (hlv : lv_args 0 av = lv0) (body : ∀ Z : ZT, GI l rm cc maxL own ws G k Z → (∀ (w : va_W) (lv : List (Nat × Value)) (pc : Nat), decode cc pc = .ok (.return_, 1) → WS w → Z mc ms w lv pc []) → Z 0 0 wc lv0 0 []) : ∀ sz, Met l y ws rm (va_Pc av (KPN G k wc sz)) (va_Qv (fun (_ : Unit) => True) (KQs G WS (va_A wc sz)) (va_A wc sz)) mc ms (va_A wc sz) := by
  intro sz
  refine Met.ofW (cc := cc) (maxL := maxL) hy hw ?_
  intro p e s m args below meth c s₁ B hml hv
  obtain ⟨rfl, ⟨hsz, hP, hK, hD0⟩, hE⟩ := hv
  subst hsz
  subst hown
  have hD := hD0.self (sz := s.heap.size)
  have hlocks := B.notSynchronized
  have hin : meth.name = "<init>" := ((name_of_methodNamed B.named B.method).1).trans hnm
  rw [lg_entry_eq]
  refine body (Zd p l e rm s m av.toArray below meth c (MQ below (va_Qv (fun (_ : Unit) => True) (KQs G WS (va_A wc s.heap.size)) (va_A wc s.heap.size)) av.toArray s mc ms (va_A wc s.heap.size)) G (va_A wc s.heap.size) maxL) ⟨p, e, s, m, _, below, meth, c, _, _, rfl, B.exec, B.bytes, hml, findClass_of_methodNamed B.named, atoms_spec B.pre, hK, fun q h => Or.inr h, hin, hE⟩ ?_ s.heap [] _ hP hD va_S.rf (hlv ▸ lv_entry av hav)
  intro w lv pc hd hws H locs ls hP hD hS hl
  exact W.vret B.exec B.bytes B.returns (fun t ht hW => ⟨⟨(), rfl, trivial, w, hws, by rw [ht]; exact hP, hD⟩, hS.F ht⟩) hS.2.2 hd
end ZI
set_option maxHeartbeats 4000000 in
set_option maxRecDepth 100000 in
theorem k_X0_init (l : Launch) (G : va_G) (k : Nat → ClassId) (h0 : Nat) : ∀ sz, Met l yX0_init wsX0_init ({ frames := 1, cells := 1, slots := 30, locals := 12 }) (va_Pc [.ref h0] (KPN G k [(h0, .inr (0, [.null, .int 0, .int 0]))] sz)) (va_Qv (fun (_ : Unit) => True) (KQs G (fun w => ∃ u, w = [(h0, .inr (0, [.ref u, .int 0, .int 0])), (u, .inl (k 0, 30, .inl (fun _ => 0)))]) (va_A [(h0, .inr (0, [.null, .int 0, .int 0]))] sz)) (va_A [(h0, .inr (0, [.null, .int 0, .int 0]))] sz)) 1 30 (va_A [(h0, .inr (0, [.null, .int 0, .int 0]))] sz) := by
  refine met_s 1 30 (lv0 := [(0, .ref h0)]) (own := RX0) (by decide) rfl rfl rfl (Nat.le_of_ble_eq_true rfl) rfl (fun Z gi hret => ?_)
  have g := gi.gd
  have hX0 : ∀ w ∈ u_ws RX0 TX0 3, w ∈ wsX0_init := fun w h => List.mem_cons_of_mem _ (List.mem_append_right _ (h))
  refine z_aload_n g dX0_init_0 0 rfl ?_
  refine z_objInit g (mi 1 rfl) (mi 2 rfl) (mi 3 rfl) (by decide) (Nat.le_of_ble_eq_true rfl) dX0_init_1 ?_
  refine z_aload_n g dX0_init_4 0 rfl ?_
  refine z_bi g 30 dX0_init_5 (by decide) ?_
  refine z_newac g (mi 4 rfl) 30 rfl (by decide) (by decide) (by decide) dX0_init_7 (fun q7 => ?_)
  refine z_putF (w' := [(_, .inr (0, [_, _, _])), _]) gi hX0 tyX0 tyX0_ok nmX0 0 rfl rfl 0 (by decide) (mi 5 rfl) rfl rfl rfl rfl (Nat.le_of_ble_eq_true rfl) dX0_init_9 rfl ?_
  refine z_sub (w' := [_, _]) g [0, 1] rfl rfl ?_
  exact hret _ _ _ dX0_init_12 ⟨q7, rfl⟩
theorem nd_X0_init : yX0_init.cls ≠ "java/lang/invoke/MethodHandle" ∧ yX0_init.cls ≠ "java/lang/invoke/VarHandle" ∧ (parseMethodDescriptor yX0_init.desc).map (fun d => d.parameters.length) = some 0 := by decide +kernel
set_option maxHeartbeats 4000000 in
set_option maxRecDepth 100000 in
theorem k_X1_init (l : Launch) (G : va_G) (k : Nat → ClassId) (h0 : Nat) : ∀ sz, Met l yX1_init wsX1_init ({ frames := 1, cells := 1, slots := 7, locals := 12 }) (va_Pc [.ref h0] (KPN G k [(h0, .inr (1, [.null]))] sz)) (va_Qv (fun (_ : Unit) => True) (KQs G (fun w => ∃ u, w = [(h0, .inr (1, [.ref u])), (u, .inl (k 2, 7, .inr (.inl (fun _ => 0))))]) (va_A [(h0, .inr (1, [.null]))] sz)) (va_A [(h0, .inr (1, [.null]))] sz)) 1 7 (va_A [(h0, .inr (1, [.null]))] sz) := by
  refine met_s 1 7 (lv0 := [(0, .ref h0)]) (own := RX1) (by decide) rfl rfl rfl (Nat.le_of_ble_eq_true rfl) rfl (fun Z gi hret => ?_)
  have g := gi.gd
  have hX1 : ∀ w ∈ u_ws RX1 TX1 1, w ∈ wsX1_init := fun w h => List.mem_cons_of_mem _ (List.mem_append_right _ (h))
  refine z_aload_n g dX1_init_0 0 rfl ?_
  refine z_objInit g (mi 1 rfl) (mi 2 rfl) (mi 3 rfl) (by decide) (Nat.le_of_ble_eq_true rfl) dX1_init_1 ?_
  refine z_aload_n g dX1_init_4 0 rfl ?_
  refine z_bi g 7 dX1_init_5 (by decide) ?_
  refine z_newal g (mi 4 rfl) 7 rfl (by decide) (by decide) (by decide) dX1_init_7 (fun q7 => ?_)
  refine z_putF (w' := [(_, .inr (1, [_])), _]) gi hX1 tyX1 tyX1_ok nmX1 0 rfl rfl 0 (by decide) (mi 5 rfl) rfl rfl rfl rfl (Nat.le_of_ble_eq_true rfl) dX1_init_9 rfl ?_
  refine z_sub (w' := [_, _]) g [0, 1] rfl rfl ?_
  exact hret _ _ _ dX1_init_12 ⟨q7, rfl⟩
theorem nd_X1_init : yX1_init.cls ≠ "java/lang/invoke/MethodHandle" ∧ yX1_init.cls ≠ "java/lang/invoke/VarHandle" ∧ (parseMethodDescriptor yX1_init.desc).map (fun d => d.parameters.length) = some 0 := by decide +kernel
set_option maxHeartbeats 4000000 in
set_option maxRecDepth 100000 in
theorem k_X2_init (l : Launch) (G : va_G) (k : Nat → ClassId) (h0 : Nat) : ∀ sz, Met l yX2_init wsX2_init ({ frames := 6, cells := 18, slots := 165, locals := 149 }) (va_Pc [.ref h0] (KPN G k [(h0, .inr (2, [.null, .null, .null, .null, .null, .null, .null, .null, .null, .null, .null]))] sz)) (va_Qv (fun (_ : Unit) => True) (KQs G (fun w => ∃ a0 a1 a2 a3 a4 a5 a6 a7 a8 a9 a10 c0 b1 b2 b3 b7 b9 b10, w = [(h0, .inr (2, [.ref a0, .ref a1, .ref a2, .ref a3, .ref a4, .ref a5, .ref a6, .ref a7, .ref a8, .ref a9, .ref a10])), (a0, .inr (0, [.ref c0, .int (nI 0), .int (nI 0)])), (c0, .inl (k 0, 30, .inl (fun _ => 0))), (a1, .inr (1, [.ref b1])), (b1, .inl (k 2, 7, .inr (.inl (fun _ => 0)))), (a2, .inr (1, [.ref b2])), (b2, .inl (k 2, 7, .inr (.inl (belF (fun j => if j = 3 then 1 else 0) 7)))), (a3, .inr (1, [.ref b3])), (b3, .inl (k 2, 7, .inr (.inl (quoF (fun j => if j = 3 then 1 else 0) (fun _ => 0) 7)))), (a4, .inl (k 1, 7, .inl (fun j => nI ((fun j => if j = 3 then 1 else 0) j)))), (a5, .inl (k 2, 35, .inr (.inl ((tkS (fun j => if j = 3 then 1 else 0) (fun _ => 0) (fun _ => 0) (fun _ => 0) 7).1)))), (a6, .inl (k 2, 35, .inr (.inl ((tkS (fun j => if j = 3 then 1 else 0) (fun _ => 0) (fun _ => 0) (fun _ => 0) 7).2.1)))), (a7, .inr (1, [.ref b7])), (b7, .inl (k 2, 7, .inr (.inl (fun _ => 0)))), (a8, .inl (k 1, 7, .inl (fun _ => 0))), (a9, .inr (1, [.ref b9])), (b9, .inl (k 2, 7, .inr (.inl ((tkS (fun j => if j = 3 then 1 else 0) (fun _ => 0) (fun _ => 0) (fun _ => 0) 7).2.2.1)))), (a10, .inr (1, [.ref b10])), (b10, .inl (k 2, 7, .inr (.inl ((tkS (fun j => if j = 3 then 1 else 0) (fun _ => 0) (fun _ => 0) (fun _ => 0) 7).2.2.2))))]) (va_A [(h0, .inr (2, [.null, .null, .null, .null, .null, .null, .null, .null, .null, .null, .null]))] sz)) (va_A [(h0, .inr (2, [.null, .null, .null, .null, .null, .null, .null, .null, .null, .null, .null]))] sz)) 18 165 (va_A [(h0, .inr (2, [.null, .null, .null, .null, .null, .null, .null, .null, .null, .null, .null]))] sz) := by
  refine met_s 18 165 (lv0 := [(0, .ref h0)]) (own := RX2) (by decide) rfl rfl rfl (Nat.le_of_ble_eq_true rfl) rfl (fun Z gi hret => ?_)
  have g := gi.gd
  have hX0 : ∀ w ∈ u_ws RX0 TX0 3, w ∈ wsX2_init := fun w h => List.mem_cons_of_mem _ (List.mem_append_left _ (List.mem_append_left _ (List.mem_append_right _ (h))))
  have hX1 : ∀ w ∈ u_ws RX1 TX1 1, w ∈ wsX2_init := fun w h => List.mem_cons_of_mem _ (List.mem_append_right _ (h))
  have hX2 : ∀ w ∈ u_ws RX2 TX2 11, w ∈ wsX2_init := fun w h => List.mem_cons_of_mem _ (List.mem_append_left _ (List.mem_append_right _ (h)))
  refine z_aload_n g dX2_init_0 0 rfl ?_
  refine z_objInit g (mi 1 rfl) (mi 2 rfl) (mi 3 rfl) (by decide) (Nat.le_of_ble_eq_true rfl) dX2_init_1 ?_
  refine z_aload_n g dX2_init_4 0 rfl ?_
  refine z_new g hX0 tyX0 tyX0_ok (mi 4 rfl) (mi 5 rfl) (mi 6 rfl) (ci := 0) rfl [.null, .int 0, .int 0] (fun j hj => by rcases (show j = 0 ∨ j = 1 ∨ j = 2 by omega) with rfl | rfl | rfl <;> rfl) (by decide) (by decide) dX2_init_5 (fun q5 => ?_)
  refine z_dup g dX2_init_8 rfl ?_
  refine z_callINs (wr := [_]) gi (k_X0_init l G k _) gX2_init_X0_init_n11 rfl rfl rfl nd_X0_init ⟨by decide, by decide⟩ (mi 6 rfl) (List.mem_of_getElem? (i := 0) rfl) (mi 23 rfl) rfl [1] [0] rfl rfl rfl rfl (by decide) (Nat.le_of_ble_eq_true rfl) dX2_init_9 ⟨by decide, by decide⟩ (fun w1 hw1 => ?_)
  obtain ⟨u9, rfl⟩ := hw1
  refine z_putF (w' := [(_, .inr (2, [_, _, _, _, _, _, _, _, _, _, _])), _, _]) gi hX2 tyX2 tyX2_ok nmX2 0 rfl rfl 0 (by decide) (mi 7 rfl) rfl rfl rfl rfl (Nat.le_of_ble_eq_true rfl) dX2_init_12 rfl ?_
  refine z_aload_n g dX2_init_15 0 rfl ?_
  refine z_new g hX1 tyX1 tyX1_ok (mi 8 rfl) (mi 9 rfl) (mi 10 rfl) (ci := 1) rfl [.null] (fun j hj => by rcases (show j = 0 by omega) with rfl <;> rfl) (by decide) (by decide) dX2_init_16 (fun q16 => ?_)
  refine z_dup g dX2_init_19 rfl ?_
  refine z_callINs (wr := [_, _, _]) gi (k_X1_init l G k _) gX2_init_X1_init_n18 rfl rfl rfl nd_X1_init ⟨by decide, by decide⟩ (mi 10 rfl) (List.mem_of_getElem? (i := 1) rfl) (mi 28 rfl) rfl [3] [0, 1, 2] rfl rfl rfl rfl (by decide) (Nat.le_of_ble_eq_true rfl) dX2_init_20 ⟨by decide, by decide⟩ (fun w1 hw1 => ?_)
  obtain ⟨u20, rfl⟩ := hw1
  refine z_putF (w' := [(_, .inr (2, [_, _, _, _, _, _, _, _, _, _, _])), _, _, _, _]) gi hX2 tyX2 tyX2_ok nmX2 0 rfl rfl 1 (by decide) (mi 11 rfl) rfl rfl rfl rfl (Nat.le_of_ble_eq_true rfl) dX2_init_23 rfl ?_
  refine z_aload_n g dX2_init_26 0 rfl ?_
  refine z_new g hX1 tyX1 tyX1_ok (mi 8 rfl) (mi 9 rfl) (mi 10 rfl) (ci := 1) rfl [.null] (fun j hj => by rcases (show j = 0 by omega) with rfl <;> rfl) (by decide) (by decide) dX2_init_27 (fun q27 => ?_)
  refine z_dup g dX2_init_30 rfl ?_
  refine z_callINs (wr := [_, _, _, _, _]) gi (k_X1_init l G k _) gX2_init_X1_init_n18 rfl rfl rfl nd_X1_init ⟨by decide, by decide⟩ (mi 10 rfl) (List.mem_of_getElem? (i := 1) rfl) (mi 28 rfl) rfl [5] [0, 1, 2, 3, 4] rfl rfl rfl rfl (by decide) (Nat.le_of_ble_eq_true rfl) dX2_init_31 ⟨by decide, by decide⟩ (fun w1 hw1 => ?_)
  obtain ⟨u31, rfl⟩ := hw1
  refine z_putF (w' := [(_, .inr (2, [_, _, _, _, _, _, _, _, _, _, _])), _, _, _, _, _, _]) gi hX2 tyX2 tyX2_ok nmX2 0 rfl rfl 2 (by decide) (mi 12 rfl) rfl rfl rfl rfl (Nat.le_of_ble_eq_true rfl) dX2_init_34 rfl ?_
  refine z_aload_n g dX2_init_37 0 rfl ?_
  refine z_new g hX1 tyX1 tyX1_ok (mi 8 rfl) (mi 9 rfl) (mi 10 rfl) (ci := 1) rfl [.null] (fun j hj => by rcases (show j = 0 by omega) with rfl <;> rfl) (by decide) (by decide) dX2_init_38 (fun q38 => ?_)
  refine z_dup g dX2_init_41 rfl ?_
  refine z_callINs (wr := [_, _, _, _, _, _, _]) gi (k_X1_init l G k _) gX2_init_X1_init_n18 rfl rfl rfl nd_X1_init ⟨by decide, by decide⟩ (mi 10 rfl) (List.mem_of_getElem? (i := 1) rfl) (mi 28 rfl) rfl [7] [0, 1, 2, 3, 4, 5, 6] rfl rfl rfl rfl (by decide) (Nat.le_of_ble_eq_true rfl) dX2_init_42 ⟨by decide, by decide⟩ (fun w1 hw1 => ?_)
  obtain ⟨u42, rfl⟩ := hw1
  refine z_putF (w' := [(_, .inr (2, [_, _, _, _, _, _, _, _, _, _, _])), _, _, _, _, _, _, _, _]) gi hX2 tyX2 tyX2_ok nmX2 0 rfl rfl 3 (by decide) (mi 13 rfl) rfl rfl rfl rfl (Nat.le_of_ble_eq_true rfl) dX2_init_45 rfl ?_
  refine z_aload_n g dX2_init_48 0 rfl ?_
  refine z_bi g 7 dX2_init_49 (by decide) ?_
  refine z_newai g (mi 14 rfl) 7 rfl (by decide) (by decide) (by decide) dX2_init_51 (fun q51 => ?_)
  refine z_putF (w' := [(_, .inr (2, [_, _, _, _, _, _, _, _, _, _, _])), _, _, _, _, _, _, _, _, _]) gi hX2 tyX2 tyX2_ok nmX2 0 rfl rfl 4 (by decide) (mi 15 rfl) rfl rfl rfl rfl (Nat.le_of_ble_eq_true rfl) dX2_init_53 rfl ?_
  refine z_aload_n g dX2_init_56 0 rfl ?_
  refine z_bi g 35 dX2_init_57 (by decide) ?_
  refine z_newal g (mi 16 rfl) 35 rfl (by decide) (by decide) (by decide) dX2_init_59 (fun q59 => ?_)
  refine z_putF (w' := [(_, .inr (2, [_, _, _, _, _, _, _, _, _, _, _])), _, _, _, _, _, _, _, _, _, _]) gi hX2 tyX2 tyX2_ok nmX2 0 rfl rfl 5 (by decide) (mi 17 rfl) rfl rfl rfl rfl (Nat.le_of_ble_eq_true rfl) dX2_init_61 rfl ?_
  refine z_aload_n g dX2_init_64 0 rfl ?_
  refine z_bi g 35 dX2_init_65 (by decide) ?_
  refine z_newal g (mi 16 rfl) 35 rfl (by decide) (by decide) (by decide) dX2_init_67 (fun q67 => ?_)
  refine z_putF (w' := [(_, .inr (2, [_, _, _, _, _, _, _, _, _, _, _])), _, _, _, _, _, _, _, _, _, _, _]) gi hX2 tyX2 tyX2_ok nmX2 0 rfl rfl 6 (by decide) (mi 18 rfl) rfl rfl rfl rfl (Nat.le_of_ble_eq_true rfl) dX2_init_69 rfl ?_
  refine z_aload_n g dX2_init_72 0 rfl ?_
  refine z_new g hX1 tyX1 tyX1_ok (mi 8 rfl) (mi 9 rfl) (mi 10 rfl) (ci := 1) rfl [.null] (fun j hj => by rcases (show j = 0 by omega) with rfl <;> rfl) (by decide) (by decide) dX2_init_73 (fun q73 => ?_)
  refine z_dup g dX2_init_76 rfl ?_
  refine z_callINs (wr := [_, _, _, _, _, _, _, _, _, _, _, _]) gi (k_X1_init l G k _) gX2_init_X1_init_n18 rfl rfl rfl nd_X1_init ⟨by decide, by decide⟩ (mi 10 rfl) (List.mem_of_getElem? (i := 1) rfl) (mi 28 rfl) rfl [12] [0, 1, 2, 3, 4, 5, 6, 7, 8, 9, 10, 11] rfl rfl rfl rfl (by decide) (Nat.le_of_ble_eq_true rfl) dX2_init_77 ⟨by decide, by decide⟩ (fun w1 hw1 => ?_)
  obtain ⟨u77, rfl⟩ := hw1
  refine z_putF (w' := [(_, .inr (2, [_, _, _, _, _, _, _, _, _, _, _])), _, _, _, _, _, _, _, _, _, _, _, _, _]) gi hX2 tyX2 tyX2_ok nmX2 0 rfl rfl 7 (by decide) (mi 19 rfl) rfl rfl rfl rfl (Nat.le_of_ble_eq_true rfl) dX2_init_80 rfl ?_
  refine z_aload_n g dX2_init_83 0 rfl ?_
  refine z_bi g 7 dX2_init_84 (by decide) ?_
  refine z_newai g (mi 14 rfl) 7 rfl (by decide) (by decide) (by decide) dX2_init_86 (fun q86 => ?_)
  refine z_putF (w' := [(_, .inr (2, [_, _, _, _, _, _, _, _, _, _, _])), _, _, _, _, _, _, _, _, _, _, _, _, _, _]) gi hX2 tyX2 tyX2_ok nmX2 0 rfl rfl 8 (by decide) (mi 20 rfl) rfl rfl rfl rfl (Nat.le_of_ble_eq_true rfl) dX2_init_88 rfl ?_
  refine z_aload_n g dX2_init_91 0 rfl ?_
  refine z_new g hX1 tyX1 tyX1_ok (mi 8 rfl) (mi 9 rfl) (mi 10 rfl) (ci := 1) rfl [.null] (fun j hj => by rcases (show j = 0 by omega) with rfl <;> rfl) (by decide) (by decide) dX2_init_92 (fun q92 => ?_)
  refine z_dup g dX2_init_95 rfl ?_
  refine z_callINs (wr := [_, _, _, _, _, _, _, _, _, _, _, _, _, _, _]) gi (k_X1_init l G k _) gX2_init_X1_init_n18 rfl rfl rfl nd_X1_init ⟨by decide, by decide⟩ (mi 10 rfl) (List.mem_of_getElem? (i := 1) rfl) (mi 28 rfl) rfl [15] [0, 1, 2, 3, 4, 5, 6, 7, 8, 9, 10, 11, 12, 13, 14] rfl rfl rfl rfl (by decide) (Nat.le_of_ble_eq_true rfl) dX2_init_96 ⟨by decide, by decide⟩ (fun w1 hw1 => ?_)
  obtain ⟨u96, rfl⟩ := hw1
  refine z_putF (w' := [(_, .inr (2, [_, _, _, _, _, _, _, _, _, _, _])), _, _, _, _, _, _, _, _, _, _, _, _, _, _, _, _]) gi hX2 tyX2 tyX2_ok nmX2 0 rfl rfl 9 (by decide) (mi 21 rfl) rfl rfl rfl rfl (Nat.le_of_ble_eq_true rfl) dX2_init_99 rfl ?_
  refine z_aload_n g dX2_init_102 0 rfl ?_
  refine z_new g hX1 tyX1 tyX1_ok (mi 8 rfl) (mi 9 rfl) (mi 10 rfl) (ci := 1) rfl [.null] (fun j hj => by rcases (show j = 0 by omega) with rfl <;> rfl) (by decide) (by decide) dX2_init_103 (fun q103 => ?_)
  refine z_dup g dX2_init_106 rfl ?_
  refine z_callINs (wr := [_, _, _, _, _, _, _, _, _, _, _, _, _, _, _, _, _]) gi (k_X1_init l G k _) gX2_init_X1_init_n18 rfl rfl rfl nd_X1_init ⟨by decide, by decide⟩ (mi 10 rfl) (List.mem_of_getElem? (i := 1) rfl) (mi 28 rfl) rfl [17] [0, 1, 2, 3, 4, 5, 6, 7, 8, 9, 10, 11, 12, 13, 14, 15, 16] rfl rfl rfl rfl (by decide) (Nat.le_of_ble_eq_true rfl) dX2_init_107 ⟨by decide, by decide⟩ (fun w1 hw1 => ?_)
  obtain ⟨u107, rfl⟩ := hw1
  refine z_putF (w' := [(_, .inr (2, [_, _, _, _, _, _, _, _, _, _, _])), _, _, _, _, _, _, _, _, _, _, _, _, _, _, _, _, _, _]) gi hX2 tyX2 tyX2_ok nmX2 0 rfl rfl 10 (by decide) (mi 22 rfl) rfl rfl rfl rfl (Nat.le_of_ble_eq_true rfl) dX2_init_110 rfl ?_
  refine z_aload_n g dX2_init_113 0 rfl ?_
  refine z_get g hX2 0 rfl rfl 4 (by decide) (mi 15 rfl) rfl dX2_init_114 ?_
  refine z_ic3 g dX2_init_117 ?_
  refine z_ic1 g dX2_init_118 ?_
  refine z_iast (w' := [_, _, _, _, _, _, _, _, _, _, _, _, _, _, _, _, _, _, _]) g 9 rfl 3 rfl (by decide) (by decide) dX2_init_119 rfl ?_
  refine z_eqI (w' := [_, _, _, _, _, _, _, _, _, _, _, _, _, _, _, _, _, _, _]) g (fun j => nI ((fun j => if j = 3 then 1 else 0) j)) 9 rfl (by decide) rfl ?_
  refine z_aload_n g dX2_init_120 0 rfl ?_
  refine z_callVv (w' := [_, _, _, _, _, _, _, _, _, _, _, _, _, _, _, _, _, _, _]) (wr := [_, _, _, _, _]) g (k_X2_takeApart l G k _ _ _ _ _ _ _ _ _ _ _ _ _ _ _ _ _ _ _ _ _ _ _ _ _ (by intro j _; show (if j = 3 then 1 else 0) ≤ 5; split <;> decide)) 0 gX2_init_X2_takeApart rfl rfl rfl nd_X2_takeApart ⟨by decide, by decide⟩ 0 rfl rfl [0, 3, 4, 5, 6, 7, 8, 9, 10, 11, 15, 16, 17, 18] [1, 2, 12, 13, 14] [5, 0, 1, 6, 7, 8, 9, 10, 11, 12, 13, 14, 2, 3, 4, 15, 16, 17, 18] rfl rfl rfl rfl (by decide) rfl rfl rfl rfl (Nat.le_of_ble_eq_true rfl) dX2_init_121 ⟨by decide, by decide⟩ ?_
  refine z_sub (w' := [_, _, _, _, _, _, _, _, _, _, _, _, _, _, _, _, _, _, _]) g [0, 1, 2, 3, 4, 5, 6, 7, 8, 9, 10, 11, 12, 13, 14, 15, 16, 17, 18] rfl rfl ?_
  exact hret _ _ _ dX2_init_124 ⟨q5, q16, q27, q38, q51, q59, q67, q73, q86, q92, q103, u9, u20, u31, u42, u77, u96, u107, rfl⟩
theorem nd_X2_init : yX2_init.cls ≠ "java/lang/invoke/MethodHandle" ∧ yX2_init.cls ≠ "java/lang/invoke/VarHandle" ∧ (parseMethodDescriptor yX2_init.desc).map (fun d => d.parameters.length) = some 0 := by decide +kernel
set_option maxHeartbeats 4000000 in
set_option maxRecDepth 100000 in
theorem k_X3_init (l : Launch) (G : va_G) (k : Nat → ClassId) (h0 : Nat) : ∀ sz, Met l yX3_init wsX3_init ({ frames := 1, cells := 10, slots := 90, locals := 12 }) (va_Pc [.ref h0] (KPN G k [(h0, .inr (3, [.int 0, .null, .int 0, .null, .null, .null, .int 0, .null, .null, .long 0, .long 0, .null, .null, .null, .null, .int 0]))] sz)) (va_Qv (fun (_ : Unit) => True) (KQs G (fun w => ∃ e1 e3 e4 e5 e7 e8 e11 e12 e13 e14, w = [(h0, .inr (3, [.int 0, .ref e1, .int 0, .ref e3, .ref e4, .ref e5, .int 1, .ref e7, .ref e8, .long 0, .long 0, .ref e11, .ref e12, .ref e13, .ref e14, .int 0])), (e1, .inl (k 0, 30, .inl (fun _ => 0))), (e3, .inl (k 2, 7, .inr (.inl (fun _ => 0)))), (e4, .inl (k 2, 6, .inr (.inl (belF (fun j => if j = 3 then 1 else 0) 7)))), (e5, .inl (k 2, 7, .inr (.inl (fun _ => 0)))), (e7, .inl (k 1, 7, .inl (fun j => nI ((fun j => if j = 3 then 1 else 0) j)))), (e8, .inl (k 1, 7, .inl (fun _ => 0))), (e11, .inl (k 2, 7, .inr (.inl (fun _ => 0)))), (e12, .inl (k 2, 6, .inr (.inl (fun _ => 0)))), (e13, .inl (k 2, 6, .inr (.inl (fun _ => 0)))), (e14, .inl (k 2, 7, .inr (.inl (fun _ => 0))))]) (va_A [(h0, .inr (3, [.int 0, .null, .int 0, .null, .null, .null, .int 0, .null, .null, .long 0, .long 0, .null, .null, .null, .null, .int 0]))] sz)) (va_A [(h0, .inr (3, [.int 0, .null, .int 0, .null, .null, .null, .int 0, .null, .null, .long 0, .long 0, .null, .null, .null, .null, .int 0]))] sz)) 10 90 (va_A [(h0, .inr (3, [.int 0, .null, .int 0, .null, .null, .null, .int 0, .null, .null, .long 0, .long 0, .null, .null, .null, .null, .int 0]))] sz) := by
  refine met_s 10 90 (lv0 := [(0, .ref h0)]) (own := RX3) (by decide) rfl rfl rfl (Nat.le_of_ble_eq_true rfl) rfl (fun Z gi hret => ?_)
  have g := gi.gd
  have hX3 : ∀ w ∈ u_ws RX3 TX3 16, w ∈ wsX3_init := fun w h => List.mem_cons_of_mem _ (List.mem_append_right _ (h))
  refine z_aload_n g dX3_init_0 0 rfl ?_
  refine z_objInit g (mi 1 rfl) (mi 2 rfl) (mi 3 rfl) (by decide) (Nat.le_of_ble_eq_true rfl) dX3_init_1 ?_
  refine z_aload_n g dX3_init_4 0 rfl ?_
  refine z_bi g 30 dX3_init_5 (by decide) ?_
  refine z_newac g (mi 4 rfl) 30 rfl (by decide) (by decide) (by decide) dX3_init_7 (fun q7 => ?_)
  refine z_putF (w' := [(_, .inr (3, [_, _, _, _, _, _, _, _, _, _, _, _, _, _, _, _])), _]) gi hX3 tyX3 tyX3_ok nmX3 0 rfl rfl 1 (by decide) (mi 5 rfl) rfl rfl rfl rfl (Nat.le_of_ble_eq_true rfl) dX3_init_9 rfl ?_
  refine z_aload_n g dX3_init_12 0 rfl ?_
  refine z_bi g 7 dX3_init_13 (by decide) ?_
  refine z_newal g (mi 6 rfl) 7 rfl (by decide) (by decide) (by decide) dX3_init_15 (fun q15 => ?_)
  refine z_putF (w' := [(_, .inr (3, [_, _, _, _, _, _, _, _, _, _, _, _, _, _, _, _])), _, _]) gi hX3 tyX3 tyX3_ok nmX3 0 rfl rfl 3 (by decide) (mi 7 rfl) rfl rfl rfl rfl (Nat.le_of_ble_eq_true rfl) dX3_init_17 rfl ?_
  refine z_aload_n g dX3_init_20 0 rfl ?_
  refine z_bi g 6 dX3_init_21 (by decide) ?_
  refine z_newal g (mi 6 rfl) 6 rfl (by decide) (by decide) (by decide) dX3_init_23 (fun q23 => ?_)
  refine z_dup g dX3_init_25 rfl ?_
  refine z_ic0 g dX3_init_26 ?_
  refine z_lc0 g dX3_init_27 ?_
  refine z_last (w' := [_, _, _, _]) g 3 rfl 0 rfl (by decide) (by decide) dX3_init_28 rfl ?_
  refine z_dup g dX3_init_29 rfl ?_
  refine z_ic1 g dX3_init_30 ?_
  refine z_lc1 g dX3_init_31 ?_
  refine z_last (w' := [_, _, _, _]) g 3 rfl 1 rfl (by decide) (by decide) dX3_init_32 rfl ?_
  refine z_dup g dX3_init_33 rfl ?_
  refine z_ic2 g dX3_init_34 ?_
  refine z_lc0 g dX3_init_35 ?_
  refine z_last (w' := [_, _, _, _]) g 3 rfl 2 rfl (by decide) (by decide) dX3_init_36 rfl ?_
  refine z_dup g dX3_init_37 rfl ?_
  refine z_ic3 g dX3_init_38 ?_
  refine z_lc0 g dX3_init_39 ?_
  refine z_last (w' := [_, _, _, _]) g 3 rfl 3 rfl (by decide) (by decide) dX3_init_40 rfl ?_
  refine z_dup g dX3_init_41 rfl ?_
  refine z_ic4 g dX3_init_42 ?_
  refine z_lc0 g dX3_init_43 ?_
  refine z_last (w' := [_, _, _, _]) g 3 rfl 4 rfl (by decide) (by decide) dX3_init_44 rfl ?_
  refine z_dup g dX3_init_45 rfl ?_
  refine z_ic5 g dX3_init_46 ?_
  refine z_lc0 g dX3_init_47 ?_
  refine z_last (w' := [_, _, _, _]) g 3 rfl 5 rfl (by decide) (by decide) dX3_init_48 rfl ?_
  refine z_eqL (w' := [_, _, _, _]) g (belF (fun j => if j = 3 then 1 else 0) 7) 3 rfl (by decide) rfl ?_
  refine z_putF (w' := [(_, .inr (3, [_, _, _, _, _, _, _, _, _, _, _, _, _, _, _, _])), _, _, _]) gi hX3 tyX3 tyX3_ok nmX3 0 rfl rfl 4 (by decide) (mi 8 rfl) rfl rfl rfl rfl (Nat.le_of_ble_eq_true rfl) dX3_init_49 rfl ?_
  refine z_aload_n g dX3_init_52 0 rfl ?_
  refine z_bi g 7 dX3_init_53 (by decide) ?_
  refine z_newal g (mi 6 rfl) 7 rfl (by decide) (by decide) (by decide) dX3_init_55 (fun q55 => ?_)
  refine z_putF (w' := [(_, .inr (3, [_, _, _, _, _, _, _, _, _, _, _, _, _, _, _, _])), _, _, _, _]) gi hX3 tyX3 tyX3_ok nmX3 0 rfl rfl 5 (by decide) (mi 9 rfl) rfl rfl rfl rfl (Nat.le_of_ble_eq_true rfl) dX3_init_57 rfl ?_
  refine z_aload_n g dX3_init_60 0 rfl ?_
  refine z_ic1 g dX3_init_61 ?_
  refine z_put (w' := [(_, .inr (3, [_, _, _, _, _, _, _, _, _, _, _, _, _, _, _, _])), _, _, _, _]) g hX3 tyX3 tyX3_ok nmX3 0 rfl rfl 6 (by decide) (mi 10 rfl) rfl rfl rfl (Nat.le_of_ble_eq_true rfl) dX3_init_62 rfl ?_
  refine z_aload_n g dX3_init_65 0 rfl ?_
  refine z_bi g 7 dX3_init_66 (by decide) ?_
  refine z_newai g (mi 11 rfl) 7 rfl (by decide) (by decide) (by decide) dX3_init_68 (fun q68 => ?_)
  refine z_dup g dX3_init_70 rfl ?_
  refine z_ic0 g dX3_init_71 ?_
  refine z_ic0 g dX3_init_72 ?_
  refine z_iast (w' := [_, _, _, _, _, _]) g 5 rfl 0 rfl (by decide) (by decide) dX3_init_73 rfl ?_
  refine z_dup g dX3_init_74 rfl ?_
  refine z_ic1 g dX3_init_75 ?_
  refine z_ic0 g dX3_init_76 ?_
  refine z_iast (w' := [_, _, _, _, _, _]) g 5 rfl 1 rfl (by decide) (by decide) dX3_init_77 rfl ?_
  refine z_dup g dX3_init_78 rfl ?_
  refine z_ic2 g dX3_init_79 ?_
  refine z_ic0 g dX3_init_80 ?_
  refine z_iast (w' := [_, _, _, _, _, _]) g 5 rfl 2 rfl (by decide) (by decide) dX3_init_81 rfl ?_
  refine z_dup g dX3_init_82 rfl ?_
  refine z_ic3 g dX3_init_83 ?_
  refine z_ic1 g dX3_init_84 ?_
  refine z_iast (w' := [_, _, _, _, _, _]) g 5 rfl 3 rfl (by decide) (by decide) dX3_init_85 rfl ?_
  refine z_dup g dX3_init_86 rfl ?_
  refine z_ic4 g dX3_init_87 ?_
  refine z_ic0 g dX3_init_88 ?_
  refine z_iast (w' := [_, _, _, _, _, _]) g 5 rfl 4 rfl (by decide) (by decide) dX3_init_89 rfl ?_
  refine z_dup g dX3_init_90 rfl ?_
  refine z_ic5 g dX3_init_91 ?_
  refine z_ic0 g dX3_init_92 ?_
  refine z_iast (w' := [_, _, _, _, _, _]) g 5 rfl 5 rfl (by decide) (by decide) dX3_init_93 rfl ?_
  refine z_dup g dX3_init_94 rfl ?_
  refine z_bi g 6 dX3_init_95 (by decide) ?_
  refine z_ic0 g dX3_init_97 ?_
  refine z_iast (w' := [_, _, _, _, _, _]) g 5 rfl 6 rfl (by decide) (by decide) dX3_init_98 rfl ?_
  refine z_eqI (w' := [_, _, _, _, _, _]) g (fun j => nI ((fun j => if j = 3 then 1 else 0) j)) 5 rfl (by decide) rfl ?_
  refine z_putF (w' := [(_, .inr (3, [_, _, _, _, _, _, _, _, _, _, _, _, _, _, _, _])), _, _, _, _, _]) gi hX3 tyX3 tyX3_ok nmX3 0 rfl rfl 7 (by decide) (mi 12 rfl) rfl rfl rfl rfl (Nat.le_of_ble_eq_true rfl) dX3_init_99 rfl ?_
  refine z_aload_n g dX3_init_102 0 rfl ?_
  refine z_bi g 7 dX3_init_103 (by decide) ?_
  refine z_newai g (mi 11 rfl) 7 rfl (by decide) (by decide) (by decide) dX3_init_105 (fun q105 => ?_)
  refine z_putF (w' := [(_, .inr (3, [_, _, _, _, _, _, _, _, _, _, _, _, _, _, _, _])), _, _, _, _, _, _]) gi hX3 tyX3 tyX3_ok nmX3 0 rfl rfl 8 (by decide) (mi 13 rfl) rfl rfl rfl rfl (Nat.le_of_ble_eq_true rfl) dX3_init_107 rfl ?_
  refine z_aload_n g dX3_init_110 0 rfl ?_
  refine z_bi g 7 dX3_init_111 (by decide) ?_
  refine z_newal g (mi 6 rfl) 7 rfl (by decide) (by decide) (by decide) dX3_init_113 (fun q113 => ?_)
  refine z_putF (w' := [(_, .inr (3, [_, _, _, _, _, _, _, _, _, _, _, _, _, _, _, _])), _, _, _, _, _, _, _]) gi hX3 tyX3 tyX3_ok nmX3 0 rfl rfl 11 (by decide) (mi 14 rfl) rfl rfl rfl rfl (Nat.le_of_ble_eq_true rfl) dX3_init_115 rfl ?_
  refine z_aload_n g dX3_init_118 0 rfl ?_
  refine z_bi g 6 dX3_init_119 (by decide) ?_
  refine z_newal g (mi 6 rfl) 6 rfl (by decide) (by decide) (by decide) dX3_init_121 (fun q121 => ?_)
  refine z_putF (w' := [(_, .inr (3, [_, _, _, _, _, _, _, _, _, _, _, _, _, _, _, _])), _, _, _, _, _, _, _, _]) gi hX3 tyX3 tyX3_ok nmX3 0 rfl rfl 12 (by decide) (mi 15 rfl) rfl rfl rfl rfl (Nat.le_of_ble_eq_true rfl) dX3_init_123 rfl ?_
  refine z_aload_n g dX3_init_126 0 rfl ?_
  refine z_bi g 6 dX3_init_127 (by decide) ?_
  refine z_newal g (mi 6 rfl) 6 rfl (by decide) (by decide) (by decide) dX3_init_129 (fun q129 => ?_)
  refine z_putF (w' := [(_, .inr (3, [_, _, _, _, _, _, _, _, _, _, _, _, _, _, _, _])), _, _, _, _, _, _, _, _, _]) gi hX3 tyX3 tyX3_ok nmX3 0 rfl rfl 13 (by decide) (mi 16 rfl) rfl rfl rfl rfl (Nat.le_of_ble_eq_true rfl) dX3_init_131 rfl ?_
  refine z_aload_n g dX3_init_134 0 rfl ?_
  refine z_bi g 7 dX3_init_135 (by decide) ?_
  refine z_newal g (mi 6 rfl) 7 rfl (by decide) (by decide) (by decide) dX3_init_137 (fun q137 => ?_)
  refine z_putF (w' := [(_, .inr (3, [_, _, _, _, _, _, _, _, _, _, _, _, _, _, _, _])), _, _, _, _, _, _, _, _, _, _]) gi hX3 tyX3 tyX3_ok nmX3 0 rfl rfl 14 (by decide) (mi 17 rfl) rfl rfl rfl rfl (Nat.le_of_ble_eq_true rfl) dX3_init_139 rfl ?_
  refine z_sub (w' := [_, _, _, _, _, _, _, _, _, _, _]) g [0, 1, 2, 3, 4, 5, 6, 7, 8, 9, 10] rfl rfl ?_
  exact hret _ _ _ dX3_init_142 ⟨q7, q15, q23, q55, q68, q105, q113, q121, q129, q137, rfl⟩
theorem nd_X3_init : yX3_init.cls ≠ "java/lang/invoke/MethodHandle" ∧ yX3_init.cls ≠ "java/lang/invoke/VarHandle" ∧ (parseMethodDescriptor yX3_init.desc).map (fun d => d.parameters.length) = some 0 := by decide +kernel
