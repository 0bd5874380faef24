/-! Z: the machine's state as pure data: cells and slots used, the world's cells, the locals, the pc, the stack. Zd says it of W; Gd hides all that a body never looks at. -/
abbrev TY (k : Nat → ClassId) : List (ClassId × FieldType) := [(k 0, .char), (k 1, .int), (k 2, .long), (k 3, .double)]
abbrev ZT : Type := Nat → Nat → va_W → List (Nat × Value) → Nat → List Value → Prop
def Zd (p : Program) (l : Launch) (e : Env) (R : Room) (s : State) (m : MethodId) (args : Array Value) (below : List Frame) (meth : Method) (c : Code) (Q : State → Prop) (G : va_G) (A : Nat → Prop) (nL : Nat) : ZT :=
  fun cells slots w lv pc st => ∀ (H : Heap) (locs : List Loc) (ls : Array Slot), va_P G vwCl w H → va_D A w → va_S A s.heap H locs → lv_has ls nL lv → W p l e R s m args below meth c H locs cells slots Q (F0 m pc ls st)
def Gd (l : Launch) (R : Room) (cc : ByteArray) (nL : Nat) (own : String) (Ts : List Cond) (G : va_G) (k : Nat → ClassId) (Z : ZT) : Prop :=
  ∃ (p : Program) (e : Env) (s : State) (m : MethodId) (args : Array Value) (below : List Frame) (meth : Method) (c : Code) (Q : State → Prop) (A : Nat → Prop), Z = Zd p l e R s m args below meth c Q G A nL ∧ p.tables.exec = Jvm.exec ∧ c.code = cc ∧ c.maxLocals = nL ∧ s.vm.findClass own = some m.cls ∧ (∀ w ∈ Ts, w.before args s = true) ∧ va_K G vwCl (TY k) s ∧ (∀ q, s.heap.size ≤ q → A q)
def KP (G : va_G) (k : Nat → ClassId) (ws : va_W) (sz : Nat) : State → Prop := fun U => U.heap.size = sz ∧ va_P G vwCl ws U.heap ∧ va_K G vwCl (TY k) U ∧ va_D (fun _ => True) ws
def KQ (G : va_G) (w1 : va_W) (A : Nat → Prop) : Unit → State → Prop := fun _ t => va_P G vwCl w1 t.heap ∧ va_D A w1
theorem KP_blind {G : va_G} {k : Nat → ClassId} {ws : va_W} {sz : Nat} {av : List Value} : FrameBlind (va_Pc av (KP G k ws sz)) := fun a U g mk q => by
  obtain ⟨q0, q1, qP, qK, qD⟩ := q
  exact ⟨q0, q1, qP, va_K.moved (u := U) (U := U.calling g mk a) (Vm.Alike.refl U.vm) qK, qD⟩
theorem va_fm {w w' : va_W} {is : List Nat} (h : is.map (fun i => w[i]?) = w'.map some) : is.filterMap (fun i => w[i]?) = w' := by
  have h2 : (is.map (fun i => w[i]?)).filterMap id = is.filterMap (fun i => w[i]?) := by rw [List.filterMap_map]; rfl
  rw [← h2, h, List.filterMap_map]
  exact List.filterMap_some
section ZR
variable {l : Launch} {R : Room} {cc : ByteArray} {nL : Nat} {own : String} {Ts : List Cond} {G : va_G} {k : Nat → ClassId} {Z : ZT}
variable {c0 s0 : Nat} {w : va_W} {lv lv' : List (Nat × Value)} {pc : Nat} {rest : List Value}

theorem z_iload_n (g : Gd l R cc nL own Ts G k Z) {kk0 : Fin 4} {x : Int32} (hd : decode cc pc = .ok (.iload_n kk0, 1)) (q : Nat) (hq : lv[q]? = some ((kk0 : Nat), .int x)) (kk : Z c0 s0 w lv (pc + 1) (.int x :: rest)) : Z c0 s0 w lv pc (rest) := by
  obtain ⟨p, e, s, m, args, below, meth, c, Q, A, rfl, hx, hb, hml, hown, hts, hK, hA⟩ := g
  intro H locs ls hP hD hS hl
  exact lv_iload_n hx hb hd rfl (lv_at hl q hq) (kk H locs ls hP hD hS hl)
theorem z_iload (g : Gd l R cc nL own Ts G k Z) {i : Nat} {x : Int32} (hd : decode cc pc = .ok (.iload i, 2)) (q : Nat) (hq : lv[q]? = some (i, .int x)) (kk : Z c0 s0 w lv (pc + 2) (.int x :: rest)) : Z c0 s0 w lv pc (rest) := by
  obtain ⟨p, e, s, m, args, below, meth, c, Q, A, rfl, hx, hb, hml, hown, hts, hK, hA⟩ := g
  intro H locs ls hP hD hS hl
  exact lv_iload hx hb hd (lv_at hl q hq) (kk H locs ls hP hD hS hl)
theorem z_lload_n (g : Gd l R cc nL own Ts G k Z) {kk0 : Fin 4} {x : Int64} (hd : decode cc pc = .ok (.lload_n kk0, 1)) (q : Nat) (hq : lv[q]? = some ((kk0 : Nat), .long x)) (kk : Z c0 s0 w lv (pc + 1) (.long x :: rest)) : Z c0 s0 w lv pc (rest) := by
  obtain ⟨p, e, s, m, args, below, meth, c, Q, A, rfl, hx, hb, hml, hown, hts, hK, hA⟩ := g
  intro H locs ls hP hD hS hl
  exact lv_lload_n hx hb hd rfl (lv_at hl q hq) (kk H locs ls hP hD hS hl)
theorem z_lload (g : Gd l R cc nL own Ts G k Z) {i : Nat} {x : Int64} (hd : decode cc pc = .ok (.lload i, 2)) (q : Nat) (hq : lv[q]? = some (i, .long x)) (kk : Z c0 s0 w lv (pc + 2) (.long x :: rest)) : Z c0 s0 w lv pc (rest) := by
  obtain ⟨p, e, s, m, args, below, meth, c, Q, A, rfl, hx, hb, hml, hown, hts, hK, hA⟩ := g
  intro H locs ls hP hD hS hl
  exact lv_lload hx hb hd (lv_at hl q hq) (kk H locs ls hP hD hS hl)
theorem z_dload_n (g : Gd l R cc nL own Ts G k Z) {kk0 : Fin 4} {x : UInt64} (hd : decode cc pc = .ok (.dload_n kk0, 1)) (q : Nat) (hq : lv[q]? = some ((kk0 : Nat), .double x)) (kk : Z c0 s0 w lv (pc + 1) (.double x :: rest)) : Z c0 s0 w lv pc (rest) := by
  obtain ⟨p, e, s, m, args, below, meth, c, Q, A, rfl, hx, hb, hml, hown, hts, hK, hA⟩ := g
  intro H locs ls hP hD hS hl
  exact lv_dload_n hx hb hd rfl (lv_at hl q hq) (kk H locs ls hP hD hS hl)
theorem z_dload (g : Gd l R cc nL own Ts G k Z) {i : Nat} {x : UInt64} (hd : decode cc pc = .ok (.dload i, 2)) (q : Nat) (hq : lv[q]? = some (i, .double x)) (kk : Z c0 s0 w lv (pc + 2) (.double x :: rest)) : Z c0 s0 w lv pc (rest) := by
  obtain ⟨p, e, s, m, args, below, meth, c, Q, A, rfl, hx, hb, hml, hown, hts, hK, hA⟩ := g
  intro H locs ls hP hD hS hl
  exact lv_dload hx hb hd (lv_at hl q hq) (kk H locs ls hP hD hS hl)
theorem z_aload_n (g : Gd l R cc nL own Ts G k Z) {kk0 : Fin 4} {x : Nat} (hd : decode cc pc = .ok (.aload_n kk0, 1)) (q : Nat) (hq : lv[q]? = some ((kk0 : Nat), .ref x)) (kk : Z c0 s0 w lv (pc + 1) (.ref x :: rest)) : Z c0 s0 w lv pc (rest) := by
  obtain ⟨p, e, s, m, args, below, meth, c, Q, A, rfl, hx, hb, hml, hown, hts, hK, hA⟩ := g
  intro H locs ls hP hD hS hl
  exact lv_aload_n hx hb hd rfl (lv_at hl q hq) (kk H locs ls hP hD hS hl)
theorem z_aload (g : Gd l R cc nL own Ts G k Z) {i : Nat} {x : Nat} (hd : decode cc pc = .ok (.aload i, 2)) (q : Nat) (hq : lv[q]? = some (i, .ref x)) (kk : Z c0 s0 w lv (pc + 2) (.ref x :: rest)) : Z c0 s0 w lv pc (rest) := by
  obtain ⟨p, e, s, m, args, below, meth, c, Q, A, rfl, hx, hb, hml, hown, hts, hK, hA⟩ := g
  intro H locs ls hP hD hS hl
  exact lv_aload hx hb hd (lv_at hl q hq) (kk H locs ls hP hD hS hl)
theorem z_icm1 (g : Gd l R cc nL own Ts G k Z) (hd : decode cc pc = .ok (.iconst (-1), 1)) (kk : Z c0 s0 w lv (pc + 1) (.int (-1) :: rest)) : Z c0 s0 w lv pc (rest) := by
  obtain ⟨p, e, s, m, args, below, meth, c, Q, A, rfl, hx, hb, hml, hown, hts, hK, hA⟩ := g
  intro H locs ls hP hD hS hl
  exact lv_iconst (v := (-1)) hx hb hd (by decide) (kk H locs ls hP hD hS hl)
theorem z_ic0 (g : Gd l R cc nL own Ts G k Z) (hd : decode cc pc = .ok (.iconst (0), 1)) (kk : Z c0 s0 w lv (pc + 1) (.int (0) :: rest)) : Z c0 s0 w lv pc (rest) := by
  obtain ⟨p, e, s, m, args, below, meth, c, Q, A, rfl, hx, hb, hml, hown, hts, hK, hA⟩ := g
  intro H locs ls hP hD hS hl
  exact lv_iconst (v := (0)) hx hb hd (by decide) (kk H locs ls hP hD hS hl)
theorem z_ic1 (g : Gd l R cc nL own Ts G k Z) (hd : decode cc pc = .ok (.iconst (1), 1)) (kk : Z c0 s0 w lv (pc + 1) (.int (1) :: rest)) : Z c0 s0 w lv pc (rest) := by
  obtain ⟨p, e, s, m, args, below, meth, c, Q, A, rfl, hx, hb, hml, hown, hts, hK, hA⟩ := g
  intro H locs ls hP hD hS hl
  exact lv_iconst (v := (1)) hx hb hd (by decide) (kk H locs ls hP hD hS hl)
theorem z_ic2 (g : Gd l R cc nL own Ts G k Z) (hd : decode cc pc = .ok (.iconst (2), 1)) (kk : Z c0 s0 w lv (pc + 1) (.int (2) :: rest)) : Z c0 s0 w lv pc (rest) := by
  obtain ⟨p, e, s, m, args, below, meth, c, Q, A, rfl, hx, hb, hml, hown, hts, hK, hA⟩ := g
  intro H locs ls hP hD hS hl
  exact lv_iconst (v := (2)) hx hb hd (by decide) (kk H locs ls hP hD hS hl)
theorem z_ic3 (g : Gd l R cc nL own Ts G k Z) (hd : decode cc pc = .ok (.iconst (3), 1)) (kk : Z c0 s0 w lv (pc + 1) (.int (3) :: rest)) : Z c0 s0 w lv pc (rest) := by
  obtain ⟨p, e, s, m, args, below, meth, c, Q, A, rfl, hx, hb, hml, hown, hts, hK, hA⟩ := g
  intro H locs ls hP hD hS hl
  exact lv_iconst (v := (3)) hx hb hd (by decide) (kk H locs ls hP hD hS hl)
theorem z_ic4 (g : Gd l R cc nL own Ts G k Z) (hd : decode cc pc = .ok (.iconst (4), 1)) (kk : Z c0 s0 w lv (pc + 1) (.int (4) :: rest)) : Z c0 s0 w lv pc (rest) := by
  obtain ⟨p, e, s, m, args, below, meth, c, Q, A, rfl, hx, hb, hml, hown, hts, hK, hA⟩ := g
  intro H locs ls hP hD hS hl
  exact lv_iconst (v := (4)) hx hb hd (by decide) (kk H locs ls hP hD hS hl)
theorem z_ic5 (g : Gd l R cc nL own Ts G k Z) (hd : decode cc pc = .ok (.iconst (5), 1)) (kk : Z c0 s0 w lv (pc + 1) (.int (5) :: rest)) : Z c0 s0 w lv pc (rest) := by
  obtain ⟨p, e, s, m, args, below, meth, c, Q, A, rfl, hx, hb, hml, hown, hts, hK, hA⟩ := g
  intro H locs ls hP hD hS hl
  exact lv_iconst (v := (5)) hx hb hd (by decide) (kk H locs ls hP hD hS hl)
theorem z_lc0 (g : Gd l R cc nL own Ts G k Z) (hd : decode cc pc = .ok (.lconst 0, 1)) (kk : Z c0 s0 w lv (pc + 1) (.long 0 :: rest)) : Z c0 s0 w lv pc (rest) := by
  obtain ⟨p, e, s, m, args, below, meth, c, Q, A, rfl, hx, hb, hml, hown, hts, hK, hA⟩ := g
  intro H locs ls hP hD hS hl
  exact lv_lconst (v := 0) hx hb hd (by decide) (kk H locs ls hP hD hS hl)
theorem z_lc1 (g : Gd l R cc nL own Ts G k Z) (hd : decode cc pc = .ok (.lconst 1, 1)) (kk : Z c0 s0 w lv (pc + 1) (.long 1 :: rest)) : Z c0 s0 w lv pc (rest) := by
  obtain ⟨p, e, s, m, args, below, meth, c, Q, A, rfl, hx, hb, hml, hown, hts, hK, hA⟩ := g
  intro H locs ls hP hD hS hl
  exact lv_lconst (v := 1) hx hb hd (by decide) (kk H locs ls hP hD hS hl)
theorem z_bi (g : Gd l R cc nL own Ts G k Z) {n : Int} (v : Int32) (hd : decode cc pc = .ok (.bipush n, 2)) (hv : (Int8.ofInt n).toInt32 = v) (kk : Z c0 s0 w lv (pc + 2) (.int v :: rest)) : Z c0 s0 w lv pc (rest) := by
  obtain ⟨p, e, s, m, args, below, meth, c, Q, A, rfl, hx, hb, hml, hown, hts, hK, hA⟩ := g
  intro H locs ls hP hD hS hl
  exact lv_bipush hx hb hd hv (kk H locs ls hP hD hS hl)
theorem z_dc0 (g : Gd l R cc nL own Ts G k Z) (hd : decode cc pc = .ok (.dconst 0, 1)) (kk : Z c0 s0 w lv (pc + 1) (.double FP.dconst0 :: rest)) : Z c0 s0 w lv pc (rest) := by
  obtain ⟨p, e, s, m, args, below, meth, c, Q, A, rfl, hx, hb, hml, hown, hts, hK, hA⟩ := g
  intro H locs ls hP hD hS hl
  exact lv_dconst0 hx hb hd (kk H locs ls hP hD hS hl)
theorem z_dc1 (g : Gd l R cc nL own Ts G k Z) (hd : decode cc pc = .ok (.dconst 1, 1)) (kk : Z c0 s0 w lv (pc + 1) (.double FP.dconst1 :: rest)) : Z c0 s0 w lv pc (rest) := by
  obtain ⟨p, e, s, m, args, below, meth, c, Q, A, rfl, hx, hb, hml, hown, hts, hK, hA⟩ := g
  intro H locs ls hP hD hS hl
  exact lv_dconst1 hx hb hd (kk H locs ls hP hD hS hl)
theorem z_ldc2 (g : Gd l R cc nL own Ts G k Z) {ix : Nat} {v : Int64} (hd : decode cc pc = .ok (.ldc2_w ix, 3)) (hc : Cond.constantLong own ix v ∈ Ts) (kk : Z c0 s0 w lv (pc + 3) (.long v :: rest)) : Z c0 s0 w lv pc (rest) := by
  obtain ⟨p, e, s, m, args, below, meth, c, Q, A, rfl, hx, hb, hml, hown, hts, hK, hA⟩ := g
  intro H locs ls hP hD hS hl
  exact lv_ldc2 hx hb hown (hts _ hc) hd (kk H locs ls hP hD hS hl)
theorem z_ldc2d (g : Gd l R cc nL own Ts G k Z) {ix : Nat} {v : UInt64} (hd : decode cc pc = .ok (.ldc2_w ix, 3)) (hc : Cond.constantDouble own ix v ∈ Ts) (kk : Z c0 s0 w lv (pc + 3) (.double v :: rest)) : Z c0 s0 w lv pc (rest) := by
  obtain ⟨p, e, s, m, args, below, meth, c, Q, A, rfl, hx, hb, hml, hown, hts, hK, hA⟩ := g
  intro H locs ls hP hD hS hl
  exact lv_ldc2d hx hb hown (hts _ hc) hd (kk H locs ls hP hD hS hl)
theorem z_istore_n (g : Gd l R cc nL own Ts G k Z) {kk0 : Fin 4} (hd : decode cc pc = .ok (.istore_n kk0, 1)) {x : Int32} (hn : ((kk0 : Nat) < nL)) (hl9 : ((kk0 : Nat), Value.int x) :: lv.filter (fun q => !(q.1 == (kk0 : Nat)) && !(q.1 + 1 == (kk0 : Nat) && q.2.category == 2)) = lv') (kk : Z c0 s0 w lv' (pc + 1) rest) : Z c0 s0 w lv pc (.int x :: rest) := by
  obtain ⟨p, e, s, m, args, below, meth, c, Q, A, rfl, hx, hb, hml, hown, hts, hK, hA⟩ := g
  intro H locs ls hP hD hS hl
  exact lv_istore_n hx hb hd rfl hl hn hl9 (fun ls hl => kk H locs ls hP hD hS hl)
theorem z_istore (g : Gd l R cc nL own Ts G k Z) {i : Nat} (hd : decode cc pc = .ok (.istore i, 2)) {x : Int32} (hn : (i < nL)) (hl9 : (i, Value.int x) :: lv.filter (fun q => !(q.1 == i) && !(q.1 + 1 == i && q.2.category == 2)) = lv') (kk : Z c0 s0 w lv' (pc + 2) rest) : Z c0 s0 w lv pc (.int x :: rest) := by
  obtain ⟨p, e, s, m, args, below, meth, c, Q, A, rfl, hx, hb, hml, hown, hts, hK, hA⟩ := g
  intro H locs ls hP hD hS hl
  exact lv_istore hx hb hd hl hn hl9 (fun ls hl => kk H locs ls hP hD hS hl)
theorem z_lstore_n (g : Gd l R cc nL own Ts G k Z) {kk0 : Fin 4} (hd : decode cc pc = .ok (.lstore_n kk0, 1)) {x : Int64} (hn : ((kk0 : Nat) + 1 < nL)) (hl9 : ((kk0 : Nat), Value.long x) :: lv.filter (fun q => !(q.1 == (kk0 : Nat)) && (!(q.1 == (kk0 : Nat) + 1) && !(q.1 + 1 == (kk0 : Nat) && q.2.category == 2))) = lv') (kk : Z c0 s0 w lv' (pc + 1) rest) : Z c0 s0 w lv pc (.long x :: rest) := by
  obtain ⟨p, e, s, m, args, below, meth, c, Q, A, rfl, hx, hb, hml, hown, hts, hK, hA⟩ := g
  intro H locs ls hP hD hS hl
  exact lv_lstore_n hx hb hd rfl hl hn hl9 (fun ls hl => kk H locs ls hP hD hS hl)
theorem z_lstore (g : Gd l R cc nL own Ts G k Z) {i : Nat} (hd : decode cc pc = .ok (.lstore i, 2)) {x : Int64} (hn : (i + 1 < nL)) (hl9 : (i, Value.long x) :: lv.filter (fun q => !(q.1 == i) && (!(q.1 == i + 1) && !(q.1 + 1 == i && q.2.category == 2))) = lv') (kk : Z c0 s0 w lv' (pc + 2) rest) : Z c0 s0 w lv pc (.long x :: rest) := by
  obtain ⟨p, e, s, m, args, below, meth, c, Q, A, rfl, hx, hb, hml, hown, hts, hK, hA⟩ := g
  intro H locs ls hP hD hS hl
  exact lv_lstore hx hb hd hl hn hl9 (fun ls hl => kk H locs ls hP hD hS hl)
theorem z_dstore_n (g : Gd l R cc nL own Ts G k Z) {kk0 : Fin 4} (hd : decode cc pc = .ok (.dstore_n kk0, 1)) {x : UInt64} (hn : ((kk0 : Nat) + 1 < nL)) (hl9 : ((kk0 : Nat), Value.double x) :: lv.filter (fun q => !(q.1 == (kk0 : Nat)) && (!(q.1 == (kk0 : Nat) + 1) && !(q.1 + 1 == (kk0 : Nat) && q.2.category == 2))) = lv') (kk : Z c0 s0 w lv' (pc + 1) rest) : Z c0 s0 w lv pc (.double x :: rest) := by
  obtain ⟨p, e, s, m, args, below, meth, c, Q, A, rfl, hx, hb, hml, hown, hts, hK, hA⟩ := g
  intro H locs ls hP hD hS hl
  exact lv_dstore_n hx hb hd rfl hl hn hl9 (fun ls hl => kk H locs ls hP hD hS hl)
theorem z_dstore (g : Gd l R cc nL own Ts G k Z) {i : Nat} (hd : decode cc pc = .ok (.dstore i, 2)) {x : UInt64} (hn : (i + 1 < nL)) (hl9 : (i, Value.double x) :: lv.filter (fun q => !(q.1 == i) && (!(q.1 == i + 1) && !(q.1 + 1 == i && q.2.category == 2))) = lv') (kk : Z c0 s0 w lv' (pc + 2) rest) : Z c0 s0 w lv pc (.double x :: rest) := by
  obtain ⟨p, e, s, m, args, below, meth, c, Q, A, rfl, hx, hb, hml, hown, hts, hK, hA⟩ := g
  intro H locs ls hP hD hS hl
  exact lv_dstore hx hb hd hl hn hl9 (fun ls hl => kk H locs ls hP hD hS hl)
theorem z_astore_n (g : Gd l R cc nL own Ts G k Z) {kk0 : Fin 4} (hd : decode cc pc = .ok (.astore_n kk0, 1)) {x : Nat} (hn : ((kk0 : Nat) < nL)) (hl9 : ((kk0 : Nat), Value.ref x) :: lv.filter (fun q => !(q.1 == (kk0 : Nat)) && !(q.1 + 1 == (kk0 : Nat) && q.2.category == 2)) = lv') (kk : Z c0 s0 w lv' (pc + 1) rest) : Z c0 s0 w lv pc (.ref x :: rest) := by
  obtain ⟨p, e, s, m, args, below, meth, c, Q, A, rfl, hx, hb, hml, hown, hts, hK, hA⟩ := g
  intro H locs ls hP hD hS hl
  exact lv_astore_n hx hb hd rfl hl hn hl9 (fun ls hl => kk H locs ls hP hD hS hl)
theorem z_astore (g : Gd l R cc nL own Ts G k Z) {i : Nat} (hd : decode cc pc = .ok (.astore i, 2)) {x : Nat} (hn : (i < nL)) (hl9 : (i, Value.ref x) :: lv.filter (fun q => !(q.1 == i) && !(q.1 + 1 == i && q.2.category == 2)) = lv') (kk : Z c0 s0 w lv' (pc + 2) rest) : Z c0 s0 w lv pc (.ref x :: rest) := by
  obtain ⟨p, e, s, m, args, below, meth, c, Q, A, rfl, hx, hb, hml, hown, hts, hK, hA⟩ := g
  intro H locs ls hP hD hS hl
  exact lv_astore hx hb hd hl hn hl9 (fun ls hl => kk H locs ls hP hD hS hl)
theorem z_iinc (g : Gd l R cc nL own Ts G k Z) {i : Nat} {n : Int} {x : Int32} (v : Int32) (hd : decode cc pc = .ok (.iinc i n, 3)) (q : Nat) (hq : lv[q]? = some (i, .int x)) (hv : x + Int32.ofInt n = v) (hn : i < nL) (hl9 : (i, Value.int v) :: lv.filter (fun q => !(q.1 == i) && !(q.1 + 1 == i && q.2.category == 2)) = lv') (kk : Z c0 s0 w lv' (pc + 3) rest) : Z c0 s0 w lv pc rest := by
  obtain ⟨p, e, s, m, args, below, meth, c, Q, A, rfl, hx, hb, hml, hown, hts, hK, hA⟩ := g
  intro H locs ls hP hD hS hl
  exact lv_iinc hx hb hd hl hq hv hn hl9 (fun ls hl => kk H locs ls hP hD hS hl)
theorem z_dup (g : Gd l R cc nL own Ts G k Z) {va : Value} (hd : decode cc pc = .ok (.dup, 1)) (hva : va.category = 1) (kk : Z c0 s0 w lv (pc + 1) (va :: va :: rest)) : Z c0 s0 w lv pc (va :: rest) := by
  obtain ⟨p, e, s, m, args, below, meth, c, Q, A, rfl, hx, hb, hml, hown, hts, hK, hA⟩ := g
  intro H locs ls hP hD hS hl
  exact lv_dup hx hb hd hva (kk H locs ls hP hD hS hl)
theorem z_pop (g : Gd l R cc nL own Ts G k Z) {va : Value} (hd : decode cc pc = .ok (.pop, 1)) (hva : va.category = 1) (kk : Z c0 s0 w lv (pc + 1) (rest)) : Z c0 s0 w lv pc (va :: rest) := by
  obtain ⟨p, e, s, m, args, below, meth, c, Q, A, rfl, hx, hb, hml, hown, hts, hK, hA⟩ := g
  intro H locs ls hP hD hS hl
  exact lv_pop hx hb hd hva (kk H locs ls hP hD hS hl)
theorem z_pop2 (g : Gd l R cc nL own Ts G k Z) {va : Value} (hd : decode cc pc = .ok (.pop2, 1)) (hva : va.category = 2) (kk : Z c0 s0 w lv (pc + 1) (rest)) : Z c0 s0 w lv pc (va :: rest) := by
  obtain ⟨p, e, s, m, args, below, meth, c, Q, A, rfl, hx, hb, hml, hown, hts, hK, hA⟩ := g
  intro H locs ls hP hD hS hl
  exact lv_pop2_2 hx hb hd hva (kk H locs ls hP hD hS hl)
theorem z_dup2 (g : Gd l R cc nL own Ts G k Z) {va vb : Value} (hd : decode cc pc = .ok (.dup2, 1)) (hva : va.category = 1) (hvb : vb.category = 1) (kk : Z c0 s0 w lv (pc + 1) (va :: vb :: va :: vb :: rest)) : Z c0 s0 w lv pc (va :: vb :: rest) := by
  obtain ⟨p, e, s, m, args, below, meth, c, Q, A, rfl, hx, hb, hml, hown, hts, hK, hA⟩ := g
  intro H locs ls hP hD hS hl
  exact lv_dup2_11 hx hb hd hva hvb (kk H locs ls hP hD hS hl)
theorem z_iadd (g : Gd l R cc nL own Ts G k Z) {x y : Int32} (hd : decode cc pc = .ok (.iadd, 1)) (kk : Z c0 s0 w lv (pc + 1) (.int (x + y) :: rest)) : Z c0 s0 w lv pc (.int y :: .int x :: rest) := by
  obtain ⟨p, e, s, m, args, below, meth, c, Q, A, rfl, hx, hb, hml, hown, hts, hK, hA⟩ := g
  intro H locs ls hP hD hS hl
  exact lv_iadd hx hb hd (kk H locs ls hP hD hS hl)
theorem z_isub (g : Gd l R cc nL own Ts G k Z) {x y : Int32} (hd : decode cc pc = .ok (.isub, 1)) (kk : Z c0 s0 w lv (pc + 1) (.int (x - y) :: rest)) : Z c0 s0 w lv pc (.int y :: .int x :: rest) := by
  obtain ⟨p, e, s, m, args, below, meth, c, Q, A, rfl, hx, hb, hml, hown, hts, hK, hA⟩ := g
  intro H locs ls hP hD hS hl
  exact lv_isub hx hb hd (kk H locs ls hP hD hS hl)
theorem z_imul (g : Gd l R cc nL own Ts G k Z) {x y : Int32} (hd : decode cc pc = .ok (.imul, 1)) (kk : Z c0 s0 w lv (pc + 1) (.int (x * y) :: rest)) : Z c0 s0 w lv pc (.int y :: .int x :: rest) := by
  obtain ⟨p, e, s, m, args, below, meth, c, Q, A, rfl, hx, hb, hml, hown, hts, hK, hA⟩ := g
  intro H locs ls hP hD hS hl
  exact lv_imul hx hb hd (kk H locs ls hP hD hS hl)
theorem z_iand (g : Gd l R cc nL own Ts G k Z) {x y : Int32} (hd : decode cc pc = .ok (.iand, 1)) (kk : Z c0 s0 w lv (pc + 1) (.int (x &&& y) :: rest)) : Z c0 s0 w lv pc (.int y :: .int x :: rest) := by
  obtain ⟨p, e, s, m, args, below, meth, c, Q, A, rfl, hx, hb, hml, hown, hts, hK, hA⟩ := g
  intro H locs ls hP hD hS hl
  exact lv_iand hx hb hd (kk H locs ls hP hD hS hl)
theorem z_ladd (g : Gd l R cc nL own Ts G k Z) {x y : Int64} (hd : decode cc pc = .ok (.ladd, 1)) (kk : Z c0 s0 w lv (pc + 1) (.long (x + y) :: rest)) : Z c0 s0 w lv pc (.long y :: .long x :: rest) := by
  obtain ⟨p, e, s, m, args, below, meth, c, Q, A, rfl, hx, hb, hml, hown, hts, hK, hA⟩ := g
  intro H locs ls hP hD hS hl
  exact lv_ladd hx hb hd (kk H locs ls hP hD hS hl)
theorem z_lsub (g : Gd l R cc nL own Ts G k Z) {x y : Int64} (hd : decode cc pc = .ok (.lsub, 1)) (kk : Z c0 s0 w lv (pc + 1) (.long (x - y) :: rest)) : Z c0 s0 w lv pc (.long y :: .long x :: rest) := by
  obtain ⟨p, e, s, m, args, below, meth, c, Q, A, rfl, hx, hb, hml, hown, hts, hK, hA⟩ := g
  intro H locs ls hP hD hS hl
  exact lv_lsub hx hb hd (kk H locs ls hP hD hS hl)
theorem z_lmul (g : Gd l R cc nL own Ts G k Z) {x y : Int64} (hd : decode cc pc = .ok (.lmul, 1)) (kk : Z c0 s0 w lv (pc + 1) (.long (x * y) :: rest)) : Z c0 s0 w lv pc (.long y :: .long x :: rest) := by
  obtain ⟨p, e, s, m, args, below, meth, c, Q, A, rfl, hx, hb, hml, hown, hts, hK, hA⟩ := g
  intro H locs ls hP hD hS hl
  exact lv_lmul hx hb hd (kk H locs ls hP hD hS hl)
theorem z_ldiv (g : Gd l R cc nL own Ts G k Z) {x y : Int64} (hd : decode cc pc = .ok (.ldiv, 1)) (hne : ¬ y = 0) (kk : Z c0 s0 w lv (pc + 1) (.long (x / y) :: rest)) : Z c0 s0 w lv pc (.long y :: .long x :: rest) := by
  obtain ⟨p, e, s, m, args, below, meth, c, Q, A, rfl, hx, hb, hml, hown, hts, hK, hA⟩ := g
  intro H locs ls hP hD hS hl
  exact lv_ldiv hx hb hd hne (kk H locs ls hP hD hS hl)
theorem z_lrem (g : Gd l R cc nL own Ts G k Z) {x y : Int64} (hd : decode cc pc = .ok (.lrem, 1)) (hne : ¬ y = 0) (kk : Z c0 s0 w lv (pc + 1) (.long (x - x / y * y) :: rest)) : Z c0 s0 w lv pc (.long y :: .long x :: rest) := by
  obtain ⟨p, e, s, m, args, below, meth, c, Q, A, rfl, hx, hb, hml, hown, hts, hK, hA⟩ := g
  intro H locs ls hP hD hS hl
  exact lv_lrem hx hb hd hne (kk H locs ls hP hD hS hl)
theorem z_ineg (g : Gd l R cc nL own Ts G k Z) {x : Int32} (hd : decode cc pc = .ok (.ineg, 1)) (kk : Z c0 s0 w lv (pc + 1) (.int (-x) :: rest)) : Z c0 s0 w lv pc (.int x :: rest) := by
  obtain ⟨p, e, s, m, args, below, meth, c, Q, A, rfl, hx, hb, hml, hown, hts, hK, hA⟩ := g
  intro H locs ls hP hD hS hl
  exact lv_ineg hx hb hd (kk H locs ls hP hD hS hl)
theorem z_lneg (g : Gd l R cc nL own Ts G k Z) {x : Int64} (hd : decode cc pc = .ok (.lneg, 1)) (kk : Z c0 s0 w lv (pc + 1) (.long (-x) :: rest)) : Z c0 s0 w lv pc (.long x :: rest) := by
  obtain ⟨p, e, s, m, args, below, meth, c, Q, A, rfl, hx, hb, hml, hown, hts, hK, hA⟩ := g
  intro H locs ls hP hD hS hl
  exact lv_lneg hx hb hd (kk H locs ls hP hD hS hl)
theorem z_i2l (g : Gd l R cc nL own Ts G k Z) {x : Int32} (hd : decode cc pc = .ok (.i2l, 1)) (kk : Z c0 s0 w lv (pc + 1) (.long x.toInt64 :: rest)) : Z c0 s0 w lv pc (.int x :: rest) := by
  obtain ⟨p, e, s, m, args, below, meth, c, Q, A, rfl, hx, hb, hml, hown, hts, hK, hA⟩ := g
  intro H locs ls hP hD hS hl
  exact lv_i2l hx hb hd rfl (kk H locs ls hP hD hS hl)
theorem z_i2c (g : Gd l R cc nL own Ts G k Z) {x : Int32} (hd : decode cc pc = .ok (.i2c, 1)) (kk : Z c0 s0 w lv (pc + 1) (.int (x.toUInt32 % 65536).toInt32 :: rest)) : Z c0 s0 w lv pc (.int x :: rest) := by
  obtain ⟨p, e, s, m, args, below, meth, c, Q, A, rfl, hx, hb, hml, hown, hts, hK, hA⟩ := g
  intro H locs ls hP hD hS hl
  exact lv_i2c hx hb hd rfl (kk H locs ls hP hD hS hl)
theorem z_i2d (g : Gd l R cc nL own Ts G k Z) {x : Int32} (hd : decode cc pc = .ok (.i2d, 1)) (kk : Z c0 s0 w lv (pc + 1) (.double (FP.i2d x) :: rest)) : Z c0 s0 w lv pc (.int x :: rest) := by
  obtain ⟨p, e, s, m, args, below, meth, c, Q, A, rfl, hx, hb, hml, hown, hts, hK, hA⟩ := g
  intro H locs ls hP hD hS hl
  exact lv_i2d hx hb hd (kk H locs ls hP hD hS hl)
theorem z_l2d (g : Gd l R cc nL own Ts G k Z) {x : Int64} (hd : decode cc pc = .ok (.l2d, 1)) (kk : Z c0 s0 w lv (pc + 1) (.double (FP.l2d x) :: rest)) : Z c0 s0 w lv pc (.long x :: rest) := by
  obtain ⟨p, e, s, m, args, below, meth, c, Q, A, rfl, hx, hb, hml, hown, hts, hK, hA⟩ := g
  intro H locs ls hP hD hS hl
  exact lv_l2d hx hb hd (kk H locs ls hP hD hS hl)
theorem z_dadd (g : Gd l R cc nL own Ts G k Z) {x y : UInt64} (hd : decode cc pc = .ok (.dadd, 1)) (hne : vf_n64 (FP.dadd x y)) (kk : Z c0 s0 w lv (pc + 1) (.double (FP.dadd x y) :: rest)) : Z c0 s0 w lv pc (.double y :: .double x :: rest) := by
  obtain ⟨p, e, s, m, args, below, meth, c, Q, A, rfl, hx, hb, hml, hown, hts, hK, hA⟩ := g
  intro H locs ls hP hD hS hl
  exact lv_dadd hx hb hd hne (kk H locs ls hP hD hS hl)
theorem z_dsub (g : Gd l R cc nL own Ts G k Z) {x y : UInt64} (hd : decode cc pc = .ok (.dsub, 1)) (hne : vf_n64 (FP.dsub x y)) (kk : Z c0 s0 w lv (pc + 1) (.double (FP.dsub x y) :: rest)) : Z c0 s0 w lv pc (.double y :: .double x :: rest) := by
  obtain ⟨p, e, s, m, args, below, meth, c, Q, A, rfl, hx, hb, hml, hown, hts, hK, hA⟩ := g
  intro H locs ls hP hD hS hl
  exact lv_dsub hx hb hd hne (kk H locs ls hP hD hS hl)
theorem z_dmul (g : Gd l R cc nL own Ts G k Z) {x y : UInt64} (hd : decode cc pc = .ok (.dmul, 1)) (hne : vf_n64 (FP.dmul x y)) (kk : Z c0 s0 w lv (pc + 1) (.double (FP.dmul x y) :: rest)) : Z c0 s0 w lv pc (.double y :: .double x :: rest) := by
  obtain ⟨p, e, s, m, args, below, meth, c, Q, A, rfl, hx, hb, hml, hown, hts, hK, hA⟩ := g
  intro H locs ls hP hD hS hl
  exact lv_dmul hx hb hd hne (kk H locs ls hP hD hS hl)
theorem z_ddiv (g : Gd l R cc nL own Ts G k Z) {x y : UInt64} (hd : decode cc pc = .ok (.ddiv, 1)) (hne : vf_n64 (FP.ddiv x y)) (kk : Z c0 s0 w lv (pc + 1) (.double (FP.ddiv x y) :: rest)) : Z c0 s0 w lv pc (.double y :: .double x :: rest) := by
  obtain ⟨p, e, s, m, args, below, meth, c, Q, A, rfl, hx, hb, hml, hown, hts, hK, hA⟩ := g
  intro H locs ls hP hD hS hl
  exact lv_ddiv hx hb hd hne (kk H locs ls hP hD hS hl)
theorem z_dcmp (g : Gd l R cc nL own Ts G k Z) {x y : UInt64} {op : CmpOp} (hd : decode cc pc = .ok (.dcmp op, 1)) (kk : Z c0 s0 w lv (pc + 1) (.int (Op.cmpValue (FP.dcmp x y) op) :: rest)) : Z c0 s0 w lv pc (.double y :: .double x :: rest) := by
  obtain ⟨p, e, s, m, args, below, meth, c, Q, A, rfl, hx, hb, hml, hown, hts, hK, hA⟩ := g
  intro H locs ls hP hD hS hl
  exact lv_dcmp hx hb hd (kk H locs ls hP hD hS hl)
theorem z_lcmp (g : Gd l R cc nL own Ts G k Z) {x y : Int64} (hd : decode cc pc = .ok (.lcmp, 1)) (kk : Z c0 s0 w lv (pc + 1) (.int (lg_cmp x y) :: rest)) : Z c0 s0 w lv pc (.long y :: .long x :: rest) := by
  obtain ⟨p, e, s, m, args, below, meth, c, Q, A, rfl, hx, hb, hml, hown, hts, hK, hA⟩ := g
  intro H locs ls hP hD hS hl
  exact W.lcmp hx hb hd (kk H locs ls hP hD hS hl)
theorem z_if_eq (g : Gd l R cc nL own Ts G k Z) {x : Int32} {off : Int} {tgt : Nat} (hd : decode cc pc = .ok (.ifCond .eq off, 3)) (ht : (pc : Int) + off = (tgt : Int)) (kt : x = 0 → Z c0 s0 w lv tgt rest) (kf : ¬ x = 0 → Z c0 s0 w lv (pc + 3) rest) : Z c0 s0 w lv pc (.int x :: rest) := by
  obtain ⟨p, e, s, m, args, below, meth, c, Q, A, rfl, hx, hb, hml, hown, hts, hK, hA⟩ := g
  intro H locs ls hP hD hS hl
  exact lv_if_eq hx hb hd ht (fun h => kt h H locs ls hP hD hS hl) (fun h => kf h H locs ls hP hD hS hl)
theorem z_ic_eq (g : Gd l R cc nL own Ts G k Z) {x y : Int32} {off : Int} {tgt : Nat} (hd : decode cc pc = .ok (.if_icmp .eq off, 3)) (ht : (pc : Int) + off = (tgt : Int)) (kt : x = y → Z c0 s0 w lv tgt rest) (kf : ¬ x = y → Z c0 s0 w lv (pc + 3) rest) : Z c0 s0 w lv pc (.int y :: .int x :: rest) := by
  obtain ⟨p, e, s, m, args, below, meth, c, Q, A, rfl, hx, hb, hml, hown, hts, hK, hA⟩ := g
  intro H locs ls hP hD hS hl
  exact lv_icmp_eq hx hb hd ht (fun h => kt h H locs ls hP hD hS hl) (fun h => kf h H locs ls hP hD hS hl)
theorem z_if_ne (g : Gd l R cc nL own Ts G k Z) {x : Int32} {off : Int} {tgt : Nat} (hd : decode cc pc = .ok (.ifCond .ne off, 3)) (ht : (pc : Int) + off = (tgt : Int)) (kt : ¬ x = 0 → Z c0 s0 w lv tgt rest) (kf : x = 0 → Z c0 s0 w lv (pc + 3) rest) : Z c0 s0 w lv pc (.int x :: rest) := by
  obtain ⟨p, e, s, m, args, below, meth, c, Q, A, rfl, hx, hb, hml, hown, hts, hK, hA⟩ := g
  intro H locs ls hP hD hS hl
  exact lv_if_ne hx hb hd ht (fun h => kt h H locs ls hP hD hS hl) (fun h => kf h H locs ls hP hD hS hl)
theorem z_ic_ne (g : Gd l R cc nL own Ts G k Z) {x y : Int32} {off : Int} {tgt : Nat} (hd : decode cc pc = .ok (.if_icmp .ne off, 3)) (ht : (pc : Int) + off = (tgt : Int)) (kt : ¬ x = y → Z c0 s0 w lv tgt rest) (kf : x = y → Z c0 s0 w lv (pc + 3) rest) : Z c0 s0 w lv pc (.int y :: .int x :: rest) := by
  obtain ⟨p, e, s, m, args, below, meth, c, Q, A, rfl, hx, hb, hml, hown, hts, hK, hA⟩ := g
  intro H locs ls hP hD hS hl
  exact lv_icmp_ne hx hb hd ht (fun h => kt h H locs ls hP hD hS hl) (fun h => kf h H locs ls hP hD hS hl)
theorem z_if_lt (g : Gd l R cc nL own Ts G k Z) {x : Int32} {off : Int} {tgt : Nat} (hd : decode cc pc = .ok (.ifCond .lt off, 3)) (ht : (pc : Int) + off = (tgt : Int)) (kt : x < 0 → Z c0 s0 w lv tgt rest) (kf : ¬ x < 0 → Z c0 s0 w lv (pc + 3) rest) : Z c0 s0 w lv pc (.int x :: rest) := by
  obtain ⟨p, e, s, m, args, below, meth, c, Q, A, rfl, hx, hb, hml, hown, hts, hK, hA⟩ := g
  intro H locs ls hP hD hS hl
  exact lv_if_lt hx hb hd ht (fun h => kt h H locs ls hP hD hS hl) (fun h => kf h H locs ls hP hD hS hl)
theorem z_ic_lt (g : Gd l R cc nL own Ts G k Z) {x y : Int32} {off : Int} {tgt : Nat} (hd : decode cc pc = .ok (.if_icmp .lt off, 3)) (ht : (pc : Int) + off = (tgt : Int)) (kt : x < y → Z c0 s0 w lv tgt rest) (kf : ¬ x < y → Z c0 s0 w lv (pc + 3) rest) : Z c0 s0 w lv pc (.int y :: .int x :: rest) := by
  obtain ⟨p, e, s, m, args, below, meth, c, Q, A, rfl, hx, hb, hml, hown, hts, hK, hA⟩ := g
  intro H locs ls hP hD hS hl
  exact lv_icmp_lt hx hb hd ht (fun h => kt h H locs ls hP hD hS hl) (fun h => kf h H locs ls hP hD hS hl)
theorem z_if_ge (g : Gd l R cc nL own Ts G k Z) {x : Int32} {off : Int} {tgt : Nat} (hd : decode cc pc = .ok (.ifCond .ge off, 3)) (ht : (pc : Int) + off = (tgt : Int)) (kt : 0 ≤ x → Z c0 s0 w lv tgt rest) (kf : ¬ 0 ≤ x → Z c0 s0 w lv (pc + 3) rest) : Z c0 s0 w lv pc (.int x :: rest) := by
  obtain ⟨p, e, s, m, args, below, meth, c, Q, A, rfl, hx, hb, hml, hown, hts, hK, hA⟩ := g
  intro H locs ls hP hD hS hl
  exact lv_if_ge hx hb hd ht (fun h => kt h H locs ls hP hD hS hl) (fun h => kf h H locs ls hP hD hS hl)
theorem z_ic_ge (g : Gd l R cc nL own Ts G k Z) {x y : Int32} {off : Int} {tgt : Nat} (hd : decode cc pc = .ok (.if_icmp .ge off, 3)) (ht : (pc : Int) + off = (tgt : Int)) (kt : y ≤ x → Z c0 s0 w lv tgt rest) (kf : ¬ y ≤ x → Z c0 s0 w lv (pc + 3) rest) : Z c0 s0 w lv pc (.int y :: .int x :: rest) := by
  obtain ⟨p, e, s, m, args, below, meth, c, Q, A, rfl, hx, hb, hml, hown, hts, hK, hA⟩ := g
  intro H locs ls hP hD hS hl
  exact lv_icmp_ge hx hb hd ht (fun h => kt h H locs ls hP hD hS hl) (fun h => kf h H locs ls hP hD hS hl)
theorem z_if_gt (g : Gd l R cc nL own Ts G k Z) {x : Int32} {off : Int} {tgt : Nat} (hd : decode cc pc = .ok (.ifCond .gt off, 3)) (ht : (pc : Int) + off = (tgt : Int)) (kt : 0 < x → Z c0 s0 w lv tgt rest) (kf : ¬ 0 < x → Z c0 s0 w lv (pc + 3) rest) : Z c0 s0 w lv pc (.int x :: rest) := by
  obtain ⟨p, e, s, m, args, below, meth, c, Q, A, rfl, hx, hb, hml, hown, hts, hK, hA⟩ := g
  intro H locs ls hP hD hS hl
  exact lv_if_gt hx hb hd ht (fun h => kt h H locs ls hP hD hS hl) (fun h => kf h H locs ls hP hD hS hl)
theorem z_ic_gt (g : Gd l R cc nL own Ts G k Z) {x y : Int32} {off : Int} {tgt : Nat} (hd : decode cc pc = .ok (.if_icmp .gt off, 3)) (ht : (pc : Int) + off = (tgt : Int)) (kt : y < x → Z c0 s0 w lv tgt rest) (kf : ¬ y < x → Z c0 s0 w lv (pc + 3) rest) : Z c0 s0 w lv pc (.int y :: .int x :: rest) := by
  obtain ⟨p, e, s, m, args, below, meth, c, Q, A, rfl, hx, hb, hml, hown, hts, hK, hA⟩ := g
  intro H locs ls hP hD hS hl
  exact lv_icmp_gt hx hb hd ht (fun h => kt h H locs ls hP hD hS hl) (fun h => kf h H locs ls hP hD hS hl)
theorem z_if_le (g : Gd l R cc nL own Ts G k Z) {x : Int32} {off : Int} {tgt : Nat} (hd : decode cc pc = .ok (.ifCond .le off, 3)) (ht : (pc : Int) + off = (tgt : Int)) (kt : x ≤ 0 → Z c0 s0 w lv tgt rest) (kf : ¬ x ≤ 0 → Z c0 s0 w lv (pc + 3) rest) : Z c0 s0 w lv pc (.int x :: rest) := by
  obtain ⟨p, e, s, m, args, below, meth, c, Q, A, rfl, hx, hb, hml, hown, hts, hK, hA⟩ := g
  intro H locs ls hP hD hS hl
  exact lv_if_le hx hb hd ht (fun h => kt h H locs ls hP hD hS hl) (fun h => kf h H locs ls hP hD hS hl)
theorem z_ic_le (g : Gd l R cc nL own Ts G k Z) {x y : Int32} {off : Int} {tgt : Nat} (hd : decode cc pc = .ok (.if_icmp .le off, 3)) (ht : (pc : Int) + off = (tgt : Int)) (kt : x ≤ y → Z c0 s0 w lv tgt rest) (kf : ¬ x ≤ y → Z c0 s0 w lv (pc + 3) rest) : Z c0 s0 w lv pc (.int y :: .int x :: rest) := by
  obtain ⟨p, e, s, m, args, below, meth, c, Q, A, rfl, hx, hb, hml, hown, hts, hK, hA⟩ := g
  intro H locs ls hP hD hS hl
  exact lv_icmp_le hx hb hd ht (fun h => kt h H locs ls hP hD hS hl) (fun h => kf h H locs ls hP hD hS hl)
theorem z_goto (g : Gd l R cc nL own Ts G k Z) {off : Int} (tgt : Nat) (hd : decode cc pc = .ok (.goto off, 3)) (ht : (pc : Int) + off = (tgt : Int)) (kk : Z c0 s0 w lv tgt (rest)) : Z c0 s0 w lv pc (rest) := by
  obtain ⟨p, e, s, m, args, below, meth, c, Q, A, rfl, hx, hb, hml, hown, hts, hK, hA⟩ := g
  intro H locs ls hP hD hS hl
  exact lv_goto hx hb hd ht (kk H locs ls hP hD hS hl)
theorem z_tin (g : Gd l R cc nL own Ts G k Z) {dflt lo hi : Int} {offs : Array Int} {len : Nat} {x : Int32} {off : Int} (tgt : Nat) (hd : decode cc pc = .ok (.tableswitch dflt lo hi offs, len)) (h1 : ¬ x.toInt < lo) (h2 : ¬ hi < x.toInt) (ho : offs[(x.toInt - lo).toNat]? = some off) (ht : (pc : Int) + off = (tgt : Int)) (kk : Z c0 s0 w lv tgt (rest)) : Z c0 s0 w lv pc (.int x :: rest) := by
  obtain ⟨p, e, s, m, args, below, meth, c, Q, A, rfl, hx, hb, hml, hown, hts, hK, hA⟩ := g
  intro H locs ls hP hD hS hl
  exact lv_tableIn hx hb hd h1 h2 ho ht (kk H locs ls hP hD hS hl)
theorem z_tout (g : Gd l R cc nL own Ts G k Z) {dflt lo hi : Int} {offs : Array Int} {len : Nat} {x : Int32} (tgt : Nat) (hd : decode cc pc = .ok (.tableswitch dflt lo hi offs, len)) (h : x.toInt < lo ∨ hi < x.toInt) (ht : (pc : Int) + dflt = (tgt : Int)) (kk : Z c0 s0 w lv tgt (rest)) : Z c0 s0 w lv pc (.int x :: rest) := by
  obtain ⟨p, e, s, m, args, below, meth, c, Q, A, rfl, hx, hb, hml, hown, hts, hK, hA⟩ := g
  intro H locs ls hP hD hS hl
  exact lv_tableOut hx hb hd h ht (kk H locs ls hP hD hS hl)
theorem z_st {st st' : List Value} (e : st = st') (kk : Z c0 s0 w lv pc st') : Z c0 s0 w lv pc st := e ▸ kk
theorem z_ti {x y : Int32} (e : x = y) (kk : Z c0 s0 w lv pc (.int y :: rest)) : Z c0 s0 w lv pc (.int x :: rest) := e ▸ kk
theorem z_tl {x y : Int64} (e : x = y) (kk : Z c0 s0 w lv pc (.long y :: rest)) : Z c0 s0 w lv pc (.long x :: rest) := e ▸ kk
theorem z_td {x y : UInt64} (e : x = y) (kk : Z c0 s0 w lv pc (.double y :: rest)) : Z c0 s0 w lv pc (.double x :: rest) := e ▸ kk
theorem z_ni {x : Int32} (kk : ∀ y, y = x → Z c0 s0 w lv pc (.int y :: rest)) : Z c0 s0 w lv pc (.int x :: rest) := kk x rfl
theorem z_nl {x : Int64} (kk : ∀ y, y = x → Z c0 s0 w lv pc (.long y :: rest)) : Z c0 s0 w lv pc (.long x :: rest) := kk x rfl
theorem z_nd {x : UInt64} (kk : ∀ y, y = x → Z c0 s0 w lv pc (.double y :: rest)) : Z c0 s0 w lv pc (.double x :: rest) := kk x rfl
theorem z_w {w' : va_W} (e : w = w') (kk : Z c0 s0 w' lv pc rest) : Z c0 s0 w lv pc rest := e ▸ kk
theorem z_lv (e : lv = lv') (kk : Z c0 s0 w lv' pc rest) : Z c0 s0 w lv pc rest := e ▸ kk
/-- fewer cells, in any order, by their places -/
theorem z_sub (g : Gd l R cc nL own Ts G k Z) {w' : va_W} (is : List Nat) (hn : va_nd is = true) (h : is.map (fun i => w[i]?) = w'.map some) (kk : Z c0 s0 w' lv pc rest) : Z c0 s0 w lv pc rest := by
  obtain ⟨p, e, s, m, args, below, meth, c, Q, A, rfl, hx, hb, hml, hown, hts, hK, hA⟩ := g
  intro H locs ls hP hD hS hl
  exact kk H locs ls (hP.sub is (by rw [va_fm h])) (hD.sub is hn h) hS hl
/-- fewer locals -/
theorem z_locs (g : Gd l R cc nL own Ts G k Z) (ks : List Nat) (h : lv_pick lv ks = lv') (kk : Z c0 s0 w lv' pc rest) : Z c0 s0 w lv pc rest := by
  obtain ⟨p, e, s, m, args, below, meth, c, Q, A, rfl, hx, hb, hml, hown, hts, hK, hA⟩ := g
  intro H locs ls hP hD hS hl
  exact kk H locs ls hP hD hS (lv_sub hl ks h)
theorem z_widen (g : Gd l R cc nL own Ts G k Z) {c1 s1 : Nat} (h1 : c0 ≤ c1) (h2 : s0 ≤ s1) (kk : Z c1 s1 w lv pc rest) : Z c0 s0 w lv pc rest := by
  obtain ⟨p, e, s, m, args, below, meth, c, Q, A, rfl, hx, hb, hml, hown, hts, hK, hA⟩ := g
  intro H locs ls hP hD hS hl
  exact W.widen h1 h2 (kk H locs ls hP hD hS hl)
theorem z_get (g : Gd l R cc nL own Ts G k Z) {C : String} {T : u_T} {N ci ix a : Nat} {fs : List Value} {v : Value} (hin : ∀ w ∈ u_ws C T N, w ∈ Ts) (q0 : Nat) (he : w[q0]? = some (a, .inr (ci, fs))) (hc : vwCl[ci]? = some (C, T, N)) (kf : Nat) (hk : kf < N) (hlink : Cond.fieldLink own ix (T kf).1 (T kf).2.1 (T kf).2.2.1 ∈ Ts) (hv : fs[kf]? = some v) (hd : decode cc pc = .ok (.getfield ix, 3)) (kk : Z c0 s0 w lv (pc + 3) (v :: rest)) : Z c0 s0 w lv pc (.ref a :: rest) := by
  obtain ⟨p, e, s, m, args, below, meth, c, Q, A, rfl, hx, hb, hml, hown, hts, hK, hA⟩ := g
  intro H locs ls hP hD hS hl
  exact va_get (D := G) hx hb hts hin hown hK hP q0 he hc kf hk (hts _ hlink) (fun _ h9 => h9) hv hd (kk H locs ls hP hD hS hl)
theorem z_put (g : Gd l R cc nL own Ts G k Z) {C : String} {T : u_T} {N ci ix a : Nat} {fs : List Value} {v : Value} (hin : ∀ w ∈ u_ws C T N, w ∈ Ts) (ty0 : Nat → FieldType) (hty : ∀ k, k < N → parseFieldDescriptor (T k).2.2.1 = some (ty0 k)) (hnm : ∀ a, a < N → ∀ b, b < N → a ≠ b → (T a).2.1 ≠ (T b).2.1) (q0 : Nat) (he : w[q0]? = some (a, .inr (ci, fs))) (hc : vwCl[ci]? = some (C, T, N)) (kf : Nat) (hk : kf < N) (hlink : Cond.fieldLink own ix (T kf).1 (T kf).2.1 (T kf).2.2.1 ∈ Ts) (hfin : (T kf).2.2.2 = false) (hn : narrow (ty0 kf) v = v) (hfit : fits (ty0 kf) v = true) (hl9 : kf < fs.length) (hd : decode cc pc = .ok (.putfield ix, 3)) {w' : va_W} (hw : w.set q0 (a, .inr (ci, fs.set kf v)) = w') (kk : Z c0 s0 w' lv (pc + 3) rest) : Z c0 s0 w lv pc (v :: .ref a :: rest) := by
  subst hw
  obtain ⟨p, e, s, m, args, below, meth, c, Q, A, rfl, hx, hb, hml, hown, hts, hK, hA⟩ := g
  intro H locs ls hP hD hS hl
  exact va_put (D := G) hx hb hts hin ty0 hty hnm hown hK hP hD hS q0 he hc kf hk (hts _ hlink) (fun _ h9 => h9) hfin (hty kf hk) hn hfit hl9 hd (fun H locs hP hD hS => kk H locs ls hP hD hS hl)
theorem z_iald (g : Gd l R cc nL own Ts G k Z) {a n : Nat} {f : Nat → Int32} {i : Int32} (q0 : Nat) (ha : w[q0]? = some (a, .inl (k 1, n, .inl f))) (j : Nat) (hi : i = nI j) (hj : j < n) (hn : n < 2 ^ 31) (hd : decode cc pc = .ok (.iaload, 1)) (kk : Z c0 s0 w lv (pc + 1) (.int (f j) :: rest)) : Z c0 s0 w lv pc (.int i :: .ref a :: rest) := by
  obtain ⟨p, e, s, m, args, below, meth, c, Q, A, rfl, hx, hb, hml, hown, hts, hK, hA⟩ := g
  intro H locs ls hP hD hS hl
  subst hi
  have hc : (nI j).toNatClampNeg = j := nI_clamp (Nat.lt_trans hj hn)
  refine va_iald (D := G) hx hb hK hP q0 1 ha rfl (vp_in_nI hj hn) hd ?_
  rw [hc]
  exact (kk H locs ls hP hD hS hl)
theorem z_iast (g : Gd l R cc nL own Ts G k Z) {a n : Nat} {f : Nat → Int32} {i : Int32} {x : Int32} (q0 : Nat) (ha : w[q0]? = some (a, .inl (k 1, n, .inl f))) (j : Nat) (hi : i = nI j) (hj : j < n) (hn : n < 2 ^ 31) (hd : decode cc pc = .ok (.iastore, 1)) {w' : va_W} (hw : w.set q0 (a, .inl (k 1, n, .inl (upd f j x))) = w') (kk : Z c0 s0 w' lv (pc + 1) rest) : Z c0 s0 w lv pc (.int x :: .int i :: .ref a :: rest) := by
  subst hw
  obtain ⟨p, e, s, m, args, below, meth, c, Q, A, rfl, hx, hb, hml, hown, hts, hK, hA⟩ := g
  intro H locs ls hP hD hS hl
  subst hi
  have hc : (nI j).toNatClampNeg = j := nI_clamp (Nat.lt_trans hj hn)
  refine va_iast (D := G) hx hb hK hP hD hS q0 1 ha rfl (vp_in_nI hj hn) hd (fun H1 locs1 hP hD hS => ?_)
  rw [hc] at hP hD
  exact kk H1 locs1 ls hP hD hS hl
theorem z_cald (g : Gd l R cc nL own Ts G k Z) {a n : Nat} {f : Nat → Int32} {i : Int32} (q0 : Nat) (ha : w[q0]? = some (a, .inl (k 0, n, .inl f))) (j : Nat) (hi : i = nI j) (hj : j < n) (hn : n < 2 ^ 31) (hd : decode cc pc = .ok (.caload, 1)) (kk : Z c0 s0 w lv (pc + 1) (.int (f j) :: rest)) : Z c0 s0 w lv pc (.int i :: .ref a :: rest) := by
  obtain ⟨p, e, s, m, args, below, meth, c, Q, A, rfl, hx, hb, hml, hown, hts, hK, hA⟩ := g
  intro H locs ls hP hD hS hl
  subst hi
  have hc : (nI j).toNatClampNeg = j := nI_clamp (Nat.lt_trans hj hn)
  refine va_cald (D := G) hx hb hK hP q0 0 ha rfl (vp_in_nI hj hn) hd ?_
  rw [hc]
  exact (kk H locs ls hP hD hS hl)
theorem z_cast (g : Gd l R cc nL own Ts G k Z) {a n : Nat} {f : Nat → Int32} {i : Int32} {x : Int32} (q0 : Nat) (ha : w[q0]? = some (a, .inl (k 0, n, .inl f))) (j : Nat) (hi : i = nI j) (hj : j < n) (hn : n < 2 ^ 31) (hd : decode cc pc = .ok (.castore, 1)) {w' : va_W} (hw : w.set q0 (a, .inl (k 0, n, .inl (upd f j (vp_nar .char x)))) = w') (kk : Z c0 s0 w' lv (pc + 1) rest) : Z c0 s0 w lv pc (.int x :: .int i :: .ref a :: rest) := by
  subst hw
  obtain ⟨p, e, s, m, args, below, meth, c, Q, A, rfl, hx, hb, hml, hown, hts, hK, hA⟩ := g
  intro H locs ls hP hD hS hl
  subst hi
  have hc : (nI j).toNatClampNeg = j := nI_clamp (Nat.lt_trans hj hn)
  refine va_cast (D := G) hx hb hK hP hD hS q0 0 ha rfl (vp_in_nI hj hn) hd (fun H1 locs1 hP hD hS => ?_)
  rw [hc] at hP hD
  exact kk H1 locs1 ls hP hD hS hl
theorem z_lald (g : Gd l R cc nL own Ts G k Z) {a n : Nat} {f : Nat → Int64} {i : Int32} (q0 : Nat) (ha : w[q0]? = some (a, .inl (k 2, n, .inr (.inl f)))) (j : Nat) (hi : i = nI j) (hj : j < n) (hn : n < 2 ^ 31) (hd : decode cc pc = .ok (.laload, 1)) (kk : Z c0 s0 w lv (pc + 1) (.long (f j) :: rest)) : Z c0 s0 w lv pc (.int i :: .ref a :: rest) := by
  obtain ⟨p, e, s, m, args, below, meth, c, Q, A, rfl, hx, hb, hml, hown, hts, hK, hA⟩ := g
  intro H locs ls hP hD hS hl
  subst hi
  have hc : (nI j).toNatClampNeg = j := nI_clamp (Nat.lt_trans hj hn)
  refine va_lald (D := G) hx hb hK hP q0 2 ha rfl (vp_in_nI hj hn) hd ?_
  rw [hc]
  exact (kk H locs ls hP hD hS hl)
theorem z_last (g : Gd l R cc nL own Ts G k Z) {a n : Nat} {f : Nat → Int64} {i : Int32} {x : Int64} (q0 : Nat) (ha : w[q0]? = some (a, .inl (k 2, n, .inr (.inl f)))) (j : Nat) (hi : i = nI j) (hj : j < n) (hn : n < 2 ^ 31) (hd : decode cc pc = .ok (.lastore, 1)) {w' : va_W} (hw : w.set q0 (a, .inl (k 2, n, .inr (.inl (vp_updL f j x)))) = w') (kk : Z c0 s0 w' lv (pc + 1) rest) : Z c0 s0 w lv pc (.long x :: .int i :: .ref a :: rest) := by
  subst hw
  obtain ⟨p, e, s, m, args, below, meth, c, Q, A, rfl, hx, hb, hml, hown, hts, hK, hA⟩ := g
  intro H locs ls hP hD hS hl
  subst hi
  have hc : (nI j).toNatClampNeg = j := nI_clamp (Nat.lt_trans hj hn)
  refine va_last (D := G) hx hb hK hP hD hS q0 2 ha rfl (vp_in_nI hj hn) hd (fun H1 locs1 hP hD hS => ?_)
  rw [hc] at hP hD
  exact kk H1 locs1 ls hP hD hS hl
theorem z_dald (g : Gd l R cc nL own Ts G k Z) {a n : Nat} {f : Nat → UInt64} {i : Int32} (q0 : Nat) (ha : w[q0]? = some (a, .inl (k 3, n, .inr (.inr (.inr (.inl f)))))) (j : Nat) (hi : i = nI j) (hj : j < n) (hn : n < 2 ^ 31) (hd : decode cc pc = .ok (.daload, 1)) (kk : Z c0 s0 w lv (pc + 1) (.double (f j) :: rest)) : Z c0 s0 w lv pc (.int i :: .ref a :: rest) := by
  obtain ⟨p, e, s, m, args, below, meth, c, Q, A, rfl, hx, hb, hml, hown, hts, hK, hA⟩ := g
  intro H locs ls hP hD hS hl
  subst hi
  have hc : (nI j).toNatClampNeg = j := nI_clamp (Nat.lt_trans hj hn)
  refine va_dald (D := G) hx hb hK hP q0 3 ha rfl (vp_in_nI hj hn) hd ?_
  rw [hc]
  exact (kk H locs ls hP hD hS hl)
theorem z_dast (g : Gd l R cc nL own Ts G k Z) {a n : Nat} {f : Nat → UInt64} {i : Int32} {x : UInt64} (q0 : Nat) (ha : w[q0]? = some (a, .inl (k 3, n, .inr (.inr (.inr (.inl f)))))) (j : Nat) (hi : i = nI j) (hj : j < n) (hn : n < 2 ^ 31) (hd : decode cc pc = .ok (.dastore, 1)) {w' : va_W} (hw : w.set q0 (a, .inl (k 3, n, .inr (.inr (.inr (.inl (vf_upd f j x)))))) = w') (kk : Z c0 s0 w' lv (pc + 1) rest) : Z c0 s0 w lv pc (.double x :: .int i :: .ref a :: rest) := by
  subst hw
  obtain ⟨p, e, s, m, args, below, meth, c, Q, A, rfl, hx, hb, hml, hown, hts, hK, hA⟩ := g
  intro H locs ls hP hD hS hl
  subst hi
  have hc : (nI j).toNatClampNeg = j := nI_clamp (Nat.lt_trans hj hn)
  refine va_dast (D := G) hx hb hK hP hD hS q0 3 ha rfl (vp_in_nI hj hn) hd (fun H1 locs1 hP hD hS => ?_)
  rw [hc] at hP hD
  exact kk H1 locs1 ls hP hD hS hl
theorem z_alen (g : Gd l R cc nL own Ts G k Z) {a : Nat} {cA : ClassId} {x : vp_A} {ty : FieldType} (q0 t0 : Nat) (ha : w[q0]? = some (a, .inl (cA, x))) (ht : (TY k)[t0]? = some (cA, ty)) (v : Int32) (hv : Int32.ofNat x.1 = v) (hd : decode cc pc = .ok (.arraylength, 1)) (kk : Z c0 s0 w lv (pc + 1) (.int v :: rest)) : Z c0 s0 w lv pc (.ref a :: rest) := by
  obtain ⟨p, e, s, m, args, below, meth, c, Q, A, rfl, hx, hb, hml, hown, hts, hK, hA⟩ := g
  intro H locs ls hP hD hS hl
  exact va_alen (D := G) hx hb hK hP q0 t0 ha ht hv hd (kk H locs ls hP hD hS hl)
theorem z_abs (g : Gd l R cc nL own Ts G k Z) {ix : Nat} {x : Int64} (h1 : Cond.methodLink own ix Lib.MathLoose.abs_long.x ∈ Ts) (h2 : Cond.static Lib.MathLoose.abs_long.x ∈ Ts) (h3 : Cond.initialized "java/lang/Math" ∈ Ts) (h4 : Cond.code Lib.MathLoose.abs_long.x Lib.MathLoose.abs_long.code 2 (some .long) ∈ Ts) (hf : 1 ≤ R.frames) (hlo : (rest.map fun v => v.category).sum + 13 ≤ R.locals) (hc : c0 ≤ R.cells) (hs : s0 ≤ R.slots) (hd : decode cc pc = .ok (.invokestatic ix, 3)) (kk : Z c0 s0 w lv (pc + 3) (.long (if 0 < x then x else -x) :: rest)) : Z c0 s0 w lv pc (.long x :: rest) := by
  obtain ⟨p, e, s, m, args, below, meth, c, Q, A, rfl, hx, hb, hml, hown, hts, hK, hA⟩ := g
  intro H locs ls hP hD hS hl
  exact va_mabs_long hx hb (hml.trans hl.1.symm) hown (hts _ h1) (hts _ h2) (hts _ h3) (hts _ h4) hf hlo hc hs hd (kk H locs ls hP hD hS hl)
theorem z_copyi (g : Gd l R cc nL own Ts G k Z) {ix a0 a n0 n1 : Nat} {f h : Nat → Int32} {n : Int32} (h1 : Cond.methodLink own ix arraycopyName ∈ Ts) (h2 : Cond.native arraycopyName ∈ Ts) (h3 : Cond.static arraycopyName ∈ Ts) (h4 : Cond.initialized "java/lang/System" ∈ Ts) (q0 q1 : Nat) (ha0 : w[q0]? = some (a0, .inl (k 1, n0, .inl f))) (ha1 : w[q1]? = some (a, .inl (k 1, n1, .inl h))) (j : Nat) (hj : n = nI j) (hj0 : j ≤ n0) (hj1 : j ≤ n1) (hn : n0 < 2 ^ 31) (hfr : 1 ≤ R.frames) (hlo : (rest.map fun v => v.category).sum + (nativeFrameWords "java/lang/System" "arraycopy" 5 + 11) ≤ R.locals) (hd : decode cc pc = .ok (.invokestatic ix, 3)) {w' : va_W} (hw : w.set q1 (a, .inl (k 1, n1, .inl (va_cpy f h 0 0 j))) = w') (kk : Z c0 s0 w' lv (pc + 3) rest) : Z c0 s0 w lv pc (.int n :: .int 0 :: .ref a :: .int 0 :: .ref a0 :: rest) := by
  subst hw
  obtain ⟨p, e, s, m, args, below, meth, c, Q, A, rfl, hx, hb, hml, hown, hts, hK, hA⟩ := g
  intro H locs ls hP hD hS hl
  subst hj
  have hc : (nI j).toNatClampNeg = j := nI_clamp (Nat.lt_of_le_of_lt hj0 hn)
  have hz : (0 : Int32).toNatClampNeg = 0 := by decide
  refine va_copyi (D := G) hx hb (hml.trans hl.1.symm) hown (hts _ h1) (hts _ h2) (hts _ h3) (hts _ h4) hK hP hD hS q0 q1 1 1 ha0 ha1 rfl rfl rfl (sp := 0) (dp := 0) (n := nI j) (by decide) (by decide) (nI_pos (Nat.lt_of_le_of_lt hj0 hn)) (by rw [hc, hz]; omega) (by rw [hc, hz]; omega) (fun i _ => rfl) hfr hlo hd (fun H1 locs1 hP hD hS => ?_)
  rw [hc, hz] at hP hD
  exact kk H1 locs1 ls hP hD hS hl
theorem z_copyl (g : Gd l R cc nL own Ts G k Z) {ix a0 a n0 n1 : Nat} {f h : Nat → Int64} {n : Int32} (h1 : Cond.methodLink own ix arraycopyName ∈ Ts) (h2 : Cond.native arraycopyName ∈ Ts) (h3 : Cond.static arraycopyName ∈ Ts) (h4 : Cond.initialized "java/lang/System" ∈ Ts) (q0 q1 : Nat) (ha0 : w[q0]? = some (a0, .inl (k 2, n0, .inr (.inl f)))) (ha1 : w[q1]? = some (a, .inl (k 2, n1, .inr (.inl h)))) (j : Nat) (hj : n = nI j) (hj0 : j ≤ n0) (hj1 : j ≤ n1) (hn : n0 < 2 ^ 31) (hfr : 1 ≤ R.frames) (hlo : (rest.map fun v => v.category).sum + (nativeFrameWords "java/lang/System" "arraycopy" 5 + 11) ≤ R.locals) (hd : decode cc pc = .ok (.invokestatic ix, 3)) {w' : va_W} (hw : w.set q1 (a, .inl (k 2, n1, .inr (.inl (va_cpy f h 0 0 j)))) = w') (kk : Z c0 s0 w' lv (pc + 3) rest) : Z c0 s0 w lv pc (.int n :: .int 0 :: .ref a :: .int 0 :: .ref a0 :: rest) := by
  subst hw
  obtain ⟨p, e, s, m, args, below, meth, c, Q, A, rfl, hx, hb, hml, hown, hts, hK, hA⟩ := g
  intro H locs ls hP hD hS hl
  subst hj
  have hc : (nI j).toNatClampNeg = j := nI_clamp (Nat.lt_of_le_of_lt hj0 hn)
  have hz : (0 : Int32).toNatClampNeg = 0 := by decide
  refine va_copyl (D := G) hx hb (hml.trans hl.1.symm) hown (hts _ h1) (hts _ h2) (hts _ h3) (hts _ h4) hK hP hD hS q0 q1 2 2 ha0 ha1 rfl rfl rfl (sp := 0) (dp := 0) (n := nI j) (by decide) (by decide) (nI_pos (Nat.lt_of_le_of_lt hj0 hn)) (by rw [hc, hz]; omega) (by rw [hc, hz]; omega) (fun i _ => rfl) hfr hlo hd (fun H1 locs1 hP hD hS => ?_)
  rw [hc, hz] at hP hD
  exact kk H1 locs1 ls hP hD hS hl
theorem z_lc_eq (g : Gd l R cc nL own Ts G k Z) {x y : Int64} {off : Int} {tgt : Nat} (h1 : decode cc pc = .ok (.lcmp, 1)) (hd : decode cc (pc + 1) = .ok (.ifCond .eq off, 3)) (ht : ((pc + 1 : Nat) : Int) + off = (tgt : Int)) (kt : x = y → Z c0 s0 w lv tgt rest) (kf : ¬ x = y → Z c0 s0 w lv (pc + 1 + 3) rest) : Z c0 s0 w lv pc (.long y :: .long x :: rest) :=
  z_lcmp g h1 (z_if_eq g hd ht (fun h => kt ((lg_cmp_eq x y).mp h)) (fun h => kf (fun q => h ((lg_cmp_eq x y).mpr q))))
theorem z_lc_ne (g : Gd l R cc nL own Ts G k Z) {x y : Int64} {off : Int} {tgt : Nat} (h1 : decode cc pc = .ok (.lcmp, 1)) (hd : decode cc (pc + 1) = .ok (.ifCond .ne off, 3)) (ht : ((pc + 1 : Nat) : Int) + off = (tgt : Int)) (kt : ¬ x = y → Z c0 s0 w lv tgt rest) (kf : x = y → Z c0 s0 w lv (pc + 1 + 3) rest) : Z c0 s0 w lv pc (.long y :: .long x :: rest) :=
  z_lcmp g h1 (z_if_ne g hd ht (fun h => kt ((not_congr (lg_cmp_eq x y)).mp h)) (fun h => kf ((lg_cmp_eq x y).mp h)))
theorem z_lc_lt (g : Gd l R cc nL own Ts G k Z) {x y : Int64} {off : Int} {tgt : Nat} (h1 : decode cc pc = .ok (.lcmp, 1)) (hd : decode cc (pc + 1) = .ok (.ifCond .lt off, 3)) (ht : ((pc + 1 : Nat) : Int) + off = (tgt : Int)) (kt : x < y → Z c0 s0 w lv tgt rest) (kf : ¬ x < y → Z c0 s0 w lv (pc + 1 + 3) rest) : Z c0 s0 w lv pc (.long y :: .long x :: rest) :=
  z_lcmp g h1 (z_if_lt g hd ht (fun h => kt ((lg_cmp_lt x y).mp h)) (fun h => kf (fun q => h ((lg_cmp_lt x y).mpr q))))
theorem z_lc_ge (g : Gd l R cc nL own Ts G k Z) {x y : Int64} {off : Int} {tgt : Nat} (h1 : decode cc pc = .ok (.lcmp, 1)) (hd : decode cc (pc + 1) = .ok (.ifCond .ge off, 3)) (ht : ((pc + 1 : Nat) : Int) + off = (tgt : Int)) (kt : y ≤ x → Z c0 s0 w lv tgt rest) (kf : ¬ y ≤ x → Z c0 s0 w lv (pc + 1 + 3) rest) : Z c0 s0 w lv pc (.long y :: .long x :: rest) :=
  z_lcmp g h1 (z_if_ge g hd ht (fun h => kt ((lg_cmp_ge x y).mp h)) (fun h => kf (fun q => h ((lg_cmp_ge x y).mpr q))))
theorem z_lc_gt (g : Gd l R cc nL own Ts G k Z) {x y : Int64} {off : Int} {tgt : Nat} (h1 : decode cc pc = .ok (.lcmp, 1)) (hd : decode cc (pc + 1) = .ok (.ifCond .gt off, 3)) (ht : ((pc + 1 : Nat) : Int) + off = (tgt : Int)) (kt : y < x → Z c0 s0 w lv tgt rest) (kf : ¬ y < x → Z c0 s0 w lv (pc + 1 + 3) rest) : Z c0 s0 w lv pc (.long y :: .long x :: rest) :=
  z_lcmp g h1 (z_if_gt g hd ht (fun h => kt ((lg_cmp_gt x y).mp h)) (fun h => kf (fun q => h ((lg_cmp_gt x y).mpr q))))
theorem z_lc_le (g : Gd l R cc nL own Ts G k Z) {x y : Int64} {off : Int} {tgt : Nat} (h1 : decode cc pc = .ok (.lcmp, 1)) (hd : decode cc (pc + 1) = .ok (.ifCond .le off, 3)) (ht : ((pc + 1 : Nat) : Int) + off = (tgt : Int)) (kt : x ≤ y → Z c0 s0 w lv tgt rest) (kf : ¬ x ≤ y → Z c0 s0 w lv (pc + 1 + 3) rest) : Z c0 s0 w lv pc (.long y :: .long x :: rest) :=
  z_lcmp g h1 (z_if_le g hd ht (fun h => kt ((lg_cmp_le x y).mp h)) (fun h => kf (fun q => h ((lg_cmp_le x y).mpr q))))
/-- a truth as the machine has it -/
def bI (b : Bool) : Int32 := if b then 1 else 0
theorem bI_0 {b : Bool} : bI b = 0 ↔ b = false := by cases b <;> decide
theorem bI_n {b : Bool} : narrow .boolean (.int (bI b)) = .int (bI b) := by cases b <;> rfl
theorem bI_inj {a b : Bool} : bI a = bI b ↔ a = b := by cases a <;> cases b <;> decide
theorem bI_d (P : Prop) [Decidable P] : bI (decide P) = if P then 1 else 0 := by by_cases h : P <;> simp [bI, h]
theorem z_bf_eq (g : Gd l R cc nL own Ts G k Z) {b : Bool} {off : Int} {tgt : Nat} (hd : decode cc pc = .ok (.ifCond .eq off, 3)) (ht : (pc : Int) + off = (tgt : Int)) (kt : b = false → Z c0 s0 w lv tgt rest) (kf : b = true → Z c0 s0 w lv (pc + 3) rest) : Z c0 s0 w lv pc (.int (bI b) :: rest) :=
  z_if_eq g hd ht (fun h => kt (bI_0.mp h)) (fun h => kf (by cases b; exact absurd rfl h; rfl))
theorem z_bf_ne (g : Gd l R cc nL own Ts G k Z) {b : Bool} {off : Int} {tgt : Nat} (hd : decode cc pc = .ok (.ifCond .ne off, 3)) (ht : (pc : Int) + off = (tgt : Int)) (kt : b = true → Z c0 s0 w lv tgt rest) (kf : b = false → Z c0 s0 w lv (pc + 3) rest) : Z c0 s0 w lv pc (.int (bI b) :: rest) :=
  z_if_ne g hd ht (fun h => kt (by cases b; exact absurd rfl h; rfl)) (fun h => kf (bI_0.mp h))
theorem z_bd_eq (g : Gd l R cc nL own Ts G k Z) {P : Prop} [Decidable P] {off : Int} {tgt : Nat} (hd : decode cc pc = .ok (.ifCond .eq off, 3)) (ht : (pc : Int) + off = (tgt : Int)) (kt : ¬ P → Z c0 s0 w lv tgt rest) (kf : P → Z c0 s0 w lv (pc + 3) rest) : Z c0 s0 w lv pc (.int (bI (decide P)) :: rest) :=
  z_bf_eq g hd ht (fun h => kt (of_decide_eq_false h)) (fun h => kf (of_decide_eq_true h))
theorem z_bd_ne (g : Gd l R cc nL own Ts G k Z) {P : Prop} [Decidable P] {off : Int} {tgt : Nat} (hd : decode cc pc = .ok (.ifCond .ne off, 3)) (ht : (pc : Int) + off = (tgt : Int)) (kt : P → Z c0 s0 w lv tgt rest) (kf : ¬ P → Z c0 s0 w lv (pc + 3) rest) : Z c0 s0 w lv pc (.int (bI (decide P)) :: rest) :=
  z_bf_ne g hd ht (fun h => kt (of_decide_eq_true h)) (fun h => kf (of_decide_eq_false h))
theorem z_n_ge (g : Gd l R cc nL own Ts G k Z) {a b : Nat} {off : Int} {tgt : Nat} (ha : a < 2 ^ 31) (hb9 : b < 2 ^ 31) (hd : decode cc pc = .ok (.if_icmp .ge off, 3)) (ht : (pc : Int) + off = (tgt : Int)) (kt : b ≤ a → Z c0 s0 w lv tgt rest) (kf : ¬ b ≤ a → Z c0 s0 w lv (pc + 3) rest) : Z c0 s0 w lv pc (.int (nI b) :: .int (nI a) :: rest) :=
  z_ic_ge g hd ht (fun h => kt ((nI_leI hb9 ha).mp h)) (fun h => kf (fun q => h ((nI_leI hb9 ha).mpr q)))
theorem z_n_gt (g : Gd l R cc nL own Ts G k Z) {a b : Nat} {off : Int} {tgt : Nat} (ha : a < 2 ^ 31) (hb9 : b < 2 ^ 31) (hd : decode cc pc = .ok (.if_icmp .gt off, 3)) (ht : (pc : Int) + off = (tgt : Int)) (kt : b < a → Z c0 s0 w lv tgt rest) (kf : ¬ b < a → Z c0 s0 w lv (pc + 3) rest) : Z c0 s0 w lv pc (.int (nI b) :: .int (nI a) :: rest) :=
  z_ic_gt g hd ht (fun h => kt ((nI_ltI hb9 ha).mp h)) (fun h => kf (fun q => h ((nI_ltI hb9 ha).mpr q)))
theorem z_n_lt (g : Gd l R cc nL own Ts G k Z) {a b : Nat} {off : Int} {tgt : Nat} (ha : a < 2 ^ 31) (hb9 : b < 2 ^ 31) (hd : decode cc pc = .ok (.if_icmp .lt off, 3)) (ht : (pc : Int) + off = (tgt : Int)) (kt : a < b → Z c0 s0 w lv tgt rest) (kf : ¬ a < b → Z c0 s0 w lv (pc + 3) rest) : Z c0 s0 w lv pc (.int (nI b) :: .int (nI a) :: rest) :=
  z_ic_lt g hd ht (fun h => kt ((nI_ltI ha hb9).mp h)) (fun h => kf (fun q => h ((nI_ltI ha hb9).mpr q)))
theorem z_inc (g : Gd l R cc nL own Ts G k Z) {i j : Nat} (hd : decode cc pc = .ok (.iinc i 1, 3)) (q : Nat) (hq : lv[q]? = some (i, .int (nI j))) (hn : i < nL) (hl9 : (i, Value.int (nI (j + 1))) :: lv.filter (fun q => !(q.1 == i) && !(q.1 + 1 == i && q.2.category == 2)) = lv') (kk : Z c0 s0 w lv' (pc + 3) rest) : Z c0 s0 w lv pc rest :=
  z_iinc g (nI (j + 1)) hd q hq (nI_1 j) hn hl9 kk
theorem z_dec (g : Gd l R cc nL own Ts G k Z) {i j : Nat} (hd : decode cc pc = .ok (.iinc i (-1), 3)) (q : Nat) (hq : lv[q]? = some (i, .int (nI (j + 1)))) (hn : i < nL) (hl9 : (i, Value.int (nI j)) :: lv.filter (fun q => !(q.1 == i) && !(q.1 + 1 == i && q.2.category == 2)) = lv') (kk : Z c0 s0 w lv' (pc + 3) rest) : Z c0 s0 w lv pc rest :=
  z_iinc g (nI j) hd q hq (pk_m1 j) hn hl9 kk
theorem z_callVv (g : Gd l R cc nL own Ts G k Z) {y : MethodName} {ws ws' : List Cond} {rm : Room} {bytes : ByteArray} {maxL mc ms ix : Nat} {ret : Option FieldType} {C : String} {b : Nat} {As st : List Value} {wc w1 wr w' : va_W} (hM : ∀ sz, Met l y ws rm (va_Pc (.ref b :: As) (KP G k wc sz)) (va_Qv (fun (_ : Unit) => True) (KQ G w1 (va_A wc sz)) (va_A wc sz)) mc ms (va_A wc sz)) (n : Nat) (hG : GoodIn Ts (wsV own ix C y ws)) (hw : ws = Cond.code y bytes maxL ret :: ws') (hrc : rm.cells = mc) (hrs : rm.slots = ms) (hd9 : y.cls = C ∧ y.cls ≠ "java/lang/invoke/MethodHandle" ∧ y.cls ≠ "java/lang/invoke/VarHandle" ∧ (parseMethodDescriptor y.desc).map (fun d => d.parameters.length) = some n) (hR : rm.frames + 1 ≤ R.frames ∧ 8 + (maxL + 11) + rm.locals ≤ R.locals) {ci N : Nat} {T : u_T} {fs : List Value} (q0 : Nat) (he : w[q0]? = some (b, .inr (ci, fs))) (hc : vwCl[ci]? = some (C, T, N)) (isC isR is2 : List Nat) (hnC : va_nd isC = true) (hC : isC.map (fun i => w[i]?) = wc.map some) (hRr : isR.map (fun i => w[i]?) = wr.map some) (hn : va_nd isR = true) (hdis : ∀ i ∈ isR, i ∉ isC) (h2 : is2.map (fun i => (wr ++ w1)[i]?) = w'.map some) (hn2 : va_nd is2 = true) (hnA : As.length = n) (hst : st = As.reverse ++ .ref b :: rest) (hrm : (rest.map fun v => v.category).sum ≤ 8) (hd : decode cc pc = .ok (.invokevirtual ix, 3)) (hf : c0 + mc ≤ R.cells ∧ s0 + ms ≤ R.slots) (kk : Z (c0 + mc) (s0 + ms) w' lv (pc + 3) (rest)) : Z c0 s0 w lv pc st := by
  obtain ⟨p, e, s, m, args, below, meth, c, Q, A, rfl, hx, hb, hml, hown, hts, hK, hA⟩ := g
  intro H locs ls hP hD hS hl
  have hPc := hP.sub isC (va_fm hC)
  have hDc := hD.sub isC hnC hC
  have hFc := va_free (wc := wc) hD hS hA isC hC
  refine va_callv (va_runV (As := As) (rest := rest) ⟨hx, hb, hml, hown, hts⟩ (hM H.size) (cwV n hts hG hw hrc hrs hd9 hR) ⟨KP_blind, va_recv hK hP hc he, fun U hU hW => ⟨rfl, by rw [hU], by rw [hU]; exact hPc, va_K.moved hW.alike hK, hDc.weaken (fun _ _ _ _ => trivial)⟩⟩ rfl hnA hl.1 hst (lv_room hrm) hd hf) hS (fun q _ h => hFc q h) hFc (fun u t H1 locs1 ht hvm hw9 hB hz1 hk1 hS1 => ?_)
  obtain ⟨hP1, hD1⟩ := hB
  rw [ht] at hP1
  obtain ⟨hP2, hD2⟩ := va_join (wr := wr) (w1 := w1) hP hD isC isR hC hRr hn hdis hk1 hFc hP1 hD1
  exact kk H1 locs1 ls (hP2.sub is2 (va_fm h2)) (hD2.sub is2 hn2 h2) hS1 hl
theorem z_callSv (g : Gd l R cc nL own Ts G k Z) {y : MethodName} {ws ws' : List Cond} {rm : Room} {bytes : ByteArray} {maxL mc ms ix : Nat} {ret : Option FieldType} {As st : List Value} {wc w1 wr w' : va_W} (hM : ∀ sz, Met l y ws rm (va_Pc (As) (KP G k wc sz)) (va_Qv (fun (_ : Unit) => True) (KQ G w1 (va_A wc sz)) (va_A wc sz)) mc ms (va_A wc sz)) (n : Nat) (hG : GoodIn Ts (va_wsS own ix y ws)) (hw : ws = Cond.code y bytes maxL ret :: ws') (hrc : rm.cells = mc) (hrs : rm.slots = ms) (hd9 : y.cls ≠ "java/lang/invoke/MethodHandle" ∧ y.cls ≠ "java/lang/invoke/VarHandle" ∧ (parseMethodDescriptor y.desc).map (fun d => d.parameters.length) = some n) (hR : rm.frames + 1 ≤ R.frames ∧ 8 + (maxL + 11) + rm.locals ≤ R.locals) (isC isR is2 : List Nat) (hnC : va_nd isC = true) (hC : isC.map (fun i => w[i]?) = wc.map some) (hRr : isR.map (fun i => w[i]?) = wr.map some) (hn : va_nd isR = true) (hdis : ∀ i ∈ isR, i ∉ isC) (h2 : is2.map (fun i => (wr ++ w1)[i]?) = w'.map some) (hn2 : va_nd is2 = true) (hnA : As.length = n) (hst : st = As.reverse ++ rest) (hrm : (rest.map fun v => v.category).sum ≤ 8) (hd : decode cc pc = .ok (.invokestatic ix, 3)) (hf : c0 + mc ≤ R.cells ∧ s0 + ms ≤ R.slots) (kk : Z (c0 + mc) (s0 + ms) w' lv (pc + 3) (rest)) : Z c0 s0 w lv pc st := by
  obtain ⟨p, e, s, m, args, below, meth, c, Q, A, rfl, hx, hb, hml, hown, hts, hK, hA⟩ := g
  intro H locs ls hP hD hS hl
  have hPc := hP.sub isC (va_fm hC)
  have hDc := hD.sub isC hnC hC
  have hFc := va_free (wc := wc) hD hS hA isC hC
  refine va_callv (va_runS (As := As) (rest := rest) ⟨hx, hb, hml, hown, hts⟩ (hM H.size) (va_cwS n hts hG hw hrc hrs hd9 hR) ⟨KP_blind, fun U hU hW => ⟨rfl, by rw [hU], by rw [hU]; exact hPc, va_K.moved hW.alike hK, hDc.weaken (fun _ _ _ _ => trivial)⟩⟩ rfl hnA hl.1 hst (lv_room hrm) hd hf) hS (fun q _ h => hFc q h) hFc (fun u t H1 locs1 ht hvm hw9 hB hz1 hk1 hS1 => ?_)
  obtain ⟨hP1, hD1⟩ := hB
  rw [ht] at hP1
  obtain ⟨hP2, hD2⟩ := va_join (wr := wr) (w1 := w1) hP hD isC isR hC hRr hn hdis hk1 hFc hP1 hD1
  exact kk H1 locs1 ls (hP2.sub is2 (va_fm h2)) (hD2.sub is2 hn2 h2) hS1 hl
theorem z_callIv (g : Gd l R cc nL own Ts G k Z) {y : MethodName} {ws ws' : List Cond} {rm : Room} {bytes : ByteArray} {maxL mc ms ix : Nat} {b : Nat} {As st : List Value} {wc w1 wr w' : va_W} (hM : ∀ sz, Met l y ws rm (va_Pc (.ref b :: As) (KP G k wc sz)) (va_Qv (fun (_ : Unit) => True) (KQ G w1 (va_A wc sz)) (va_A wc sz)) mc ms (va_A wc sz)) (n : Nat) (hG : GoodIn Ts ws) (hw : ws = Cond.code y bytes maxL none :: ws') (hrc : rm.cells = mc) (hrs : rm.slots = ms) (hd9 : y.cls ≠ "java/lang/invoke/MethodHandle" ∧ y.cls ≠ "java/lang/invoke/VarHandle" ∧ (parseMethodDescriptor y.desc).map (fun d => d.parameters.length) = some n) (hR : rm.frames + 1 ≤ R.frames ∧ 8 + (maxL + 11) + rm.locals ≤ R.locals) (hini : Cond.initialized y.cls ∈ Ts) (hlk : Cond.methodLink own ix y ∈ Ts) (hin : Cond.instanceMethod y ∈ Ts) (hy1 : y.name = "<init>") (isC isR is2 : List Nat) (hnC : va_nd isC = true) (hC : isC.map (fun i => w[i]?) = wc.map some) (hRr : isR.map (fun i => w[i]?) = wr.map some) (hn : va_nd isR = true) (hdis : ∀ i ∈ isR, i ∉ isC) (h2 : is2.map (fun i => (wr ++ w1)[i]?) = w'.map some) (hn2 : va_nd is2 = true) (hnA : As.length = n) (hst : st = As.reverse ++ .ref b :: rest) (hrm : (rest.map fun v => v.category).sum ≤ 8) (hd : decode cc pc = .ok (.invokespecial ix, 3)) (hf : c0 + mc ≤ R.cells ∧ s0 + ms ≤ R.slots) (kk : Z (c0 + mc) (s0 + ms) w' lv (pc + 3) (rest)) : Z c0 s0 w lv pc st := by
  obtain ⟨p, e, s, m, args, below, meth, c, Q, A, rfl, hx, hb, hml, hown, hts, hK, hA⟩ := g
  intro H locs ls hP hD hS hl
  have hPc := hP.sub isC (va_fm hC)
  have hDc := hD.sub isC hnC hC
  have hFc := va_free (wc := wc) hD hS hA isC hC
  refine va_callv (va_runI (As := As) (rest := rest) ⟨hx, hb, hml, hown, hts⟩ (hM H.size) (cwI n hts hG hw hrc hrs (hts _ hini) (hts _ hlk) (hts _ hin) hy1 hd9 hR) ⟨KP_blind, fun U hU hW => ⟨rfl, by rw [hU], by rw [hU]; exact hPc, va_K.moved hW.alike hK, hDc.weaken (fun _ _ _ _ => trivial)⟩⟩ rfl hnA hl.1 hst (lv_room hrm) hd hf) hS (fun q _ h => hFc q h) hFc (fun u t H1 locs1 ht hvm hw9 hB hz1 hk1 hS1 => ?_)
  obtain ⟨hP1, hD1⟩ := hB
  rw [ht] at hP1
  obtain ⟨hP2, hD2⟩ := va_join (wr := wr) (w1 := w1) hP hD isC isR hC hRr hn hdis hk1 hFc hP1 hD1
  exact kk H1 locs1 ls (hP2.sub is2 (va_fm h2)) (hD2.sub is2 hn2 h2) hS1 hl
theorem z_callVi (g : Gd l R cc nL own Ts G k Z) {y : MethodName} {ws ws' : List Cond} {rm : Room} {bytes : ByteArray} {maxL mc ms ix : Nat} {ret : Option FieldType} {C : String} {b : Nat} {As st : List Value} {v : Int32} {wc w1 wr w' : va_W} (hM : ∀ sz, Met l y ws rm (va_Pc (.ref b :: As) (KP G k wc sz)) (va_Qi (fun r (_ : Unit) => r = v) (KQ G w1 (va_A wc sz)) (va_A wc sz)) mc ms (va_A wc sz)) (n : Nat) (hG : GoodIn Ts (wsV own ix C y ws)) (hw : ws = Cond.code y bytes maxL ret :: ws') (hrc : rm.cells = mc) (hrs : rm.slots = ms) (hd9 : y.cls = C ∧ y.cls ≠ "java/lang/invoke/MethodHandle" ∧ y.cls ≠ "java/lang/invoke/VarHandle" ∧ (parseMethodDescriptor y.desc).map (fun d => d.parameters.length) = some n) (hR : rm.frames + 1 ≤ R.frames ∧ 8 + (maxL + 11) + rm.locals ≤ R.locals) {ci N : Nat} {T : u_T} {fs : List Value} (q0 : Nat) (he : w[q0]? = some (b, .inr (ci, fs))) (hc : vwCl[ci]? = some (C, T, N)) (isC isR is2 : List Nat) (hnC : va_nd isC = true) (hC : isC.map (fun i => w[i]?) = wc.map some) (hRr : isR.map (fun i => w[i]?) = wr.map some) (hn : va_nd isR = true) (hdis : ∀ i ∈ isR, i ∉ isC) (h2 : is2.map (fun i => (wr ++ w1)[i]?) = w'.map some) (hn2 : va_nd is2 = true) (hnA : As.length = n) (hst : st = As.reverse ++ .ref b :: rest) (hrm : (rest.map fun v => v.category).sum ≤ 8) (hd : decode cc pc = .ok (.invokevirtual ix, 3)) (hf : c0 + mc ≤ R.cells ∧ s0 + ms ≤ R.slots) (kk : Z (c0 + mc) (s0 + ms) w' lv (pc + 3) (.int v :: rest)) : Z c0 s0 w lv pc st := by
  obtain ⟨p, e, s, m, args, below, meth, c, Q, A, rfl, hx, hb, hml, hown, hts, hK, hA⟩ := g
  intro H locs ls hP hD hS hl
  have hPc := hP.sub isC (va_fm hC)
  have hDc := hD.sub isC hnC hC
  have hFc := va_free (wc := wc) hD hS hA isC hC
  refine va_calli (va_runV (As := As) (rest := rest) ⟨hx, hb, hml, hown, hts⟩ (hM H.size) (cwV n hts hG hw hrc hrs hd9 hR) ⟨KP_blind, va_recv hK hP hc he, fun U hU hW => ⟨rfl, by rw [hU], by rw [hU]; exact hPc, va_K.moved hW.alike hK, hDc.weaken (fun _ _ _ _ => trivial)⟩⟩ rfl hnA hl.1 hst (lv_room hrm) hd hf) hS (fun q _ h => hFc q h) hFc (fun r u t H1 locs1 ht hvm hw9 hB hz1 hk1 hS1 => ?_)
  subst hw9
  obtain ⟨hP1, hD1⟩ := hB
  rw [ht] at hP1
  obtain ⟨hP2, hD2⟩ := va_join (wr := wr) (w1 := w1) hP hD isC isR hC hRr hn hdis hk1 hFc hP1 hD1
  exact kk H1 locs1 ls (hP2.sub is2 (va_fm h2)) (hD2.sub is2 hn2 h2) hS1 hl
theorem z_callSi (g : Gd l R cc nL own Ts G k Z) {y : MethodName} {ws ws' : List Cond} {rm : Room} {bytes : ByteArray} {maxL mc ms ix : Nat} {ret : Option FieldType} {As st : List Value} {v : Int32} {wc w1 wr w' : va_W} (hM : ∀ sz, Met l y ws rm (va_Pc (As) (KP G k wc sz)) (va_Qi (fun r (_ : Unit) => r = v) (KQ G w1 (va_A wc sz)) (va_A wc sz)) mc ms (va_A wc sz)) (n : Nat) (hG : GoodIn Ts (va_wsS own ix y ws)) (hw : ws = Cond.code y bytes maxL ret :: ws') (hrc : rm.cells = mc) (hrs : rm.slots = ms) (hd9 : y.cls ≠ "java/lang/invoke/MethodHandle" ∧ y.cls ≠ "java/lang/invoke/VarHandle" ∧ (parseMethodDescriptor y.desc).map (fun d => d.parameters.length) = some n) (hR : rm.frames + 1 ≤ R.frames ∧ 8 + (maxL + 11) + rm.locals ≤ R.locals) (isC isR is2 : List Nat) (hnC : va_nd isC = true) (hC : isC.map (fun i => w[i]?) = wc.map some) (hRr : isR.map (fun i => w[i]?) = wr.map some) (hn : va_nd isR = true) (hdis : ∀ i ∈ isR, i ∉ isC) (h2 : is2.map (fun i => (wr ++ w1)[i]?) = w'.map some) (hn2 : va_nd is2 = true) (hnA : As.length = n) (hst : st = As.reverse ++ rest) (hrm : (rest.map fun v => v.category).sum ≤ 8) (hd : decode cc pc = .ok (.invokestatic ix, 3)) (hf : c0 + mc ≤ R.cells ∧ s0 + ms ≤ R.slots) (kk : Z (c0 + mc) (s0 + ms) w' lv (pc + 3) (.int v :: rest)) : Z c0 s0 w lv pc st := by
  obtain ⟨p, e, s, m, args, below, meth, c, Q, A, rfl, hx, hb, hml, hown, hts, hK, hA⟩ := g
  intro H locs ls hP hD hS hl
  have hPc := hP.sub isC (va_fm hC)
  have hDc := hD.sub isC hnC hC
  have hFc := va_free (wc := wc) hD hS hA isC hC
  refine va_calli (va_runS (As := As) (rest := rest) ⟨hx, hb, hml, hown, hts⟩ (hM H.size) (va_cwS n hts hG hw hrc hrs hd9 hR) ⟨KP_blind, fun U hU hW => ⟨rfl, by rw [hU], by rw [hU]; exact hPc, va_K.moved hW.alike hK, hDc.weaken (fun _ _ _ _ => trivial)⟩⟩ rfl hnA hl.1 hst (lv_room hrm) hd hf) hS (fun q _ h => hFc q h) hFc (fun r u t H1 locs1 ht hvm hw9 hB hz1 hk1 hS1 => ?_)
  subst hw9
  obtain ⟨hP1, hD1⟩ := hB
  rw [ht] at hP1
  obtain ⟨hP2, hD2⟩ := va_join (wr := wr) (w1 := w1) hP hD isC isR hC hRr hn hdis hk1 hFc hP1 hD1
  exact kk H1 locs1 ls (hP2.sub is2 (va_fm h2)) (hD2.sub is2 hn2 h2) hS1 hl
theorem z_callVl (g : Gd l R cc nL own Ts G k Z) {y : MethodName} {ws ws' : List Cond} {rm : Room} {bytes : ByteArray} {maxL mc ms ix : Nat} {ret : Option FieldType} {C : String} {b : Nat} {As st : List Value} {v : Int64} {wc w1 wr w' : va_W} (hM : ∀ sz, Met l y ws rm (va_Pc (.ref b :: As) (KP G k wc sz)) (va_Ql (fun r (_ : Unit) => r = v) (KQ G w1 (va_A wc sz)) (va_A wc sz)) mc ms (va_A wc sz)) (n : Nat) (hG : GoodIn Ts (wsV own ix C y ws)) (hw : ws = Cond.code y bytes maxL ret :: ws') (hrc : rm.cells = mc) (hrs : rm.slots = ms) (hd9 : y.cls = C ∧ y.cls ≠ "java/lang/invoke/MethodHandle" ∧ y.cls ≠ "java/lang/invoke/VarHandle" ∧ (parseMethodDescriptor y.desc).map (fun d => d.parameters.length) = some n) (hR : rm.frames + 1 ≤ R.frames ∧ 8 + (maxL + 11) + rm.locals ≤ R.locals) {ci N : Nat} {T : u_T} {fs : List Value} (q0 : Nat) (he : w[q0]? = some (b, .inr (ci, fs))) (hc : vwCl[ci]? = some (C, T, N)) (isC isR is2 : List Nat) (hnC : va_nd isC = true) (hC : isC.map (fun i => w[i]?) = wc.map some) (hRr : isR.map (fun i => w[i]?) = wr.map some) (hn : va_nd isR = true) (hdis : ∀ i ∈ isR, i ∉ isC) (h2 : is2.map (fun i => (wr ++ w1)[i]?) = w'.map some) (hn2 : va_nd is2 = true) (hnA : As.length = n) (hst : st = As.reverse ++ .ref b :: rest) (hrm : (rest.map fun v => v.category).sum ≤ 8) (hd : decode cc pc = .ok (.invokevirtual ix, 3)) (hf : c0 + mc ≤ R.cells ∧ s0 + ms ≤ R.slots) (kk : Z (c0 + mc) (s0 + ms) w' lv (pc + 3) (.long v :: rest)) : Z c0 s0 w lv pc st := by
  obtain ⟨p, e, s, m, args, below, meth, c, Q, A, rfl, hx, hb, hml, hown, hts, hK, hA⟩ := g
  intro H locs ls hP hD hS hl
  have hPc := hP.sub isC (va_fm hC)
  have hDc := hD.sub isC hnC hC
  have hFc := va_free (wc := wc) hD hS hA isC hC
  refine va_calll (va_runV (As := As) (rest := rest) ⟨hx, hb, hml, hown, hts⟩ (hM H.size) (cwV n hts hG hw hrc hrs hd9 hR) ⟨KP_blind, va_recv hK hP hc he, fun U hU hW => ⟨rfl, by rw [hU], by rw [hU]; exact hPc, va_K.moved hW.alike hK, hDc.weaken (fun _ _ _ _ => trivial)⟩⟩ rfl hnA hl.1 hst (lv_room hrm) hd hf) hS (fun q _ h => hFc q h) hFc (fun r u t H1 locs1 ht hvm hw9 hB hz1 hk1 hS1 => ?_)
  subst hw9
  obtain ⟨hP1, hD1⟩ := hB
  rw [ht] at hP1
  obtain ⟨hP2, hD2⟩ := va_join (wr := wr) (w1 := w1) hP hD isC isR hC hRr hn hdis hk1 hFc hP1 hD1
  exact kk H1 locs1 ls (hP2.sub is2 (va_fm h2)) (hD2.sub is2 hn2 h2) hS1 hl
theorem z_callSl (g : Gd l R cc nL own Ts G k Z) {y : MethodName} {ws ws' : List Cond} {rm : Room} {bytes : ByteArray} {maxL mc ms ix : Nat} {ret : Option FieldType} {As st : List Value} {v : Int64} {wc w1 wr w' : va_W} (hM : ∀ sz, Met l y ws rm (va_Pc (As) (KP G k wc sz)) (va_Ql (fun r (_ : Unit) => r = v) (KQ G w1 (va_A wc sz)) (va_A wc sz)) mc ms (va_A wc sz)) (n : Nat) (hG : GoodIn Ts (va_wsS own ix y ws)) (hw : ws = Cond.code y bytes maxL ret :: ws') (hrc : rm.cells = mc) (hrs : rm.slots = ms) (hd9 : y.cls ≠ "java/lang/invoke/MethodHandle" ∧ y.cls ≠ "java/lang/invoke/VarHandle" ∧ (parseMethodDescriptor y.desc).map (fun d => d.parameters.length) = some n) (hR : rm.frames + 1 ≤ R.frames ∧ 8 + (maxL + 11) + rm.locals ≤ R.locals) (isC isR is2 : List Nat) (hnC : va_nd isC = true) (hC : isC.map (fun i => w[i]?) = wc.map some) (hRr : isR.map (fun i => w[i]?) = wr.map some) (hn : va_nd isR = true) (hdis : ∀ i ∈ isR, i ∉ isC) (h2 : is2.map (fun i => (wr ++ w1)[i]?) = w'.map some) (hn2 : va_nd is2 = true) (hnA : As.length = n) (hst : st = As.reverse ++ rest) (hrm : (rest.map fun v => v.category).sum ≤ 8) (hd : decode cc pc = .ok (.invokestatic ix, 3)) (hf : c0 + mc ≤ R.cells ∧ s0 + ms ≤ R.slots) (kk : Z (c0 + mc) (s0 + ms) w' lv (pc + 3) (.long v :: rest)) : Z c0 s0 w lv pc st := by
  obtain ⟨p, e, s, m, args, below, meth, c, Q, A, rfl, hx, hb, hml, hown, hts, hK, hA⟩ := g
  intro H locs ls hP hD hS hl
  have hPc := hP.sub isC (va_fm hC)
  have hDc := hD.sub isC hnC hC
  have hFc := va_free (wc := wc) hD hS hA isC hC
  refine va_calll (va_runS (As := As) (rest := rest) ⟨hx, hb, hml, hown, hts⟩ (hM H.size) (va_cwS n hts hG hw hrc hrs hd9 hR) ⟨KP_blind, fun U hU hW => ⟨rfl, by rw [hU], by rw [hU]; exact hPc, va_K.moved hW.alike hK, hDc.weaken (fun _ _ _ _ => trivial)⟩⟩ rfl hnA hl.1 hst (lv_room hrm) hd hf) hS (fun q _ h => hFc q h) hFc (fun r u t H1 locs1 ht hvm hw9 hB hz1 hk1 hS1 => ?_)
  subst hw9
  obtain ⟨hP1, hD1⟩ := hB
  rw [ht] at hP1
  obtain ⟨hP2, hD2⟩ := va_join (wr := wr) (w1 := w1) hP hD isC isR hC hRr hn hdis hk1 hFc hP1 hD1
  exact kk H1 locs1 ls (hP2.sub is2 (va_fm h2)) (hD2.sub is2 hn2 h2) hS1 hl
theorem z_callVd (g : Gd l R cc nL own Ts G k Z) {y : MethodName} {ws ws' : List Cond} {rm : Room} {bytes : ByteArray} {maxL mc ms ix : Nat} {ret : Option FieldType} {C : String} {b : Nat} {As st : List Value} {v : UInt64} {wc w1 wr w' : va_W} (hM : ∀ sz, Met l y ws rm (va_Pc (.ref b :: As) (KP G k wc sz)) (va_Qd (fun r (_ : Unit) => r = v) (KQ G w1 (va_A wc sz)) (va_A wc sz)) mc ms (va_A wc sz)) (n : Nat) (hG : GoodIn Ts (wsV own ix C y ws)) (hw : ws = Cond.code y bytes maxL ret :: ws') (hrc : rm.cells = mc) (hrs : rm.slots = ms) (hd9 : y.cls = C ∧ y.cls ≠ "java/lang/invoke/MethodHandle" ∧ y.cls ≠ "java/lang/invoke/VarHandle" ∧ (parseMethodDescriptor y.desc).map (fun d => d.parameters.length) = some n) (hR : rm.frames + 1 ≤ R.frames ∧ 8 + (maxL + 11) + rm.locals ≤ R.locals) {ci N : Nat} {T : u_T} {fs : List Value} (q0 : Nat) (he : w[q0]? = some (b, .inr (ci, fs))) (hc : vwCl[ci]? = some (C, T, N)) (isC isR is2 : List Nat) (hnC : va_nd isC = true) (hC : isC.map (fun i => w[i]?) = wc.map some) (hRr : isR.map (fun i => w[i]?) = wr.map some) (hn : va_nd isR = true) (hdis : ∀ i ∈ isR, i ∉ isC) (h2 : is2.map (fun i => (wr ++ w1)[i]?) = w'.map some) (hn2 : va_nd is2 = true) (hnA : As.length = n) (hst : st = As.reverse ++ .ref b :: rest) (hrm : (rest.map fun v => v.category).sum ≤ 8) (hd : decode cc pc = .ok (.invokevirtual ix, 3)) (hf : c0 + mc ≤ R.cells ∧ s0 + ms ≤ R.slots) (kk : Z (c0 + mc) (s0 + ms) w' lv (pc + 3) (.double v :: rest)) : Z c0 s0 w lv pc st := by
  obtain ⟨p, e, s, m, args, below, meth, c, Q, A, rfl, hx, hb, hml, hown, hts, hK, hA⟩ := g
  intro H locs ls hP hD hS hl
  have hPc := hP.sub isC (va_fm hC)
  have hDc := hD.sub isC hnC hC
  have hFc := va_free (wc := wc) hD hS hA isC hC
  refine va_calld (va_runV (As := As) (rest := rest) ⟨hx, hb, hml, hown, hts⟩ (hM H.size) (cwV n hts hG hw hrc hrs hd9 hR) ⟨KP_blind, va_recv hK hP hc he, fun U hU hW => ⟨rfl, by rw [hU], by rw [hU]; exact hPc, va_K.moved hW.alike hK, hDc.weaken (fun _ _ _ _ => trivial)⟩⟩ rfl hnA hl.1 hst (lv_room hrm) hd hf) hS (fun q _ h => hFc q h) hFc (fun r u t H1 locs1 ht hvm hw9 hB hz1 hk1 hS1 => ?_)
  subst hw9
  obtain ⟨hP1, hD1⟩ := hB
  rw [ht] at hP1
  obtain ⟨hP2, hD2⟩ := va_join (wr := wr) (w1 := w1) hP hD isC isR hC hRr hn hdis hk1 hFc hP1 hD1
  exact kk H1 locs1 ls (hP2.sub is2 (va_fm h2)) (hD2.sub is2 hn2 h2) hS1 hl
theorem z_callSd (g : Gd l R cc nL own Ts G k Z) {y : MethodName} {ws ws' : List Cond} {rm : Room} {bytes : ByteArray} {maxL mc ms ix : Nat} {ret : Option FieldType} {As st : List Value} {v : UInt64} {wc w1 wr w' : va_W} (hM : ∀ sz, Met l y ws rm (va_Pc (As) (KP G k wc sz)) (va_Qd (fun r (_ : Unit) => r = v) (KQ G w1 (va_A wc sz)) (va_A wc sz)) mc ms (va_A wc sz)) (n : Nat) (hG : GoodIn Ts (va_wsS own ix y ws)) (hw : ws = Cond.code y bytes maxL ret :: ws') (hrc : rm.cells = mc) (hrs : rm.slots = ms) (hd9 : y.cls ≠ "java/lang/invoke/MethodHandle" ∧ y.cls ≠ "java/lang/invoke/VarHandle" ∧ (parseMethodDescriptor y.desc).map (fun d => d.parameters.length) = some n) (hR : rm.frames + 1 ≤ R.frames ∧ 8 + (maxL + 11) + rm.locals ≤ R.locals) (isC isR is2 : List Nat) (hnC : va_nd isC = true) (hC : isC.map (fun i => w[i]?) = wc.map some) (hRr : isR.map (fun i => w[i]?) = wr.map some) (hn : va_nd isR = true) (hdis : ∀ i ∈ isR, i ∉ isC) (h2 : is2.map (fun i => (wr ++ w1)[i]?) = w'.map some) (hn2 : va_nd is2 = true) (hnA : As.length = n) (hst : st = As.reverse ++ rest) (hrm : (rest.map fun v => v.category).sum ≤ 8) (hd : decode cc pc = .ok (.invokestatic ix, 3)) (hf : c0 + mc ≤ R.cells ∧ s0 + ms ≤ R.slots) (kk : Z (c0 + mc) (s0 + ms) w' lv (pc + 3) (.double v :: rest)) : Z c0 s0 w lv pc st := by
  obtain ⟨p, e, s, m, args, below, meth, c, Q, A, rfl, hx, hb, hml, hown, hts, hK, hA⟩ := g
  intro H locs ls hP hD hS hl
  have hPc := hP.sub isC (va_fm hC)
  have hDc := hD.sub isC hnC hC
  have hFc := va_free (wc := wc) hD hS hA isC hC
  refine va_calld (va_runS (As := As) (rest := rest) ⟨hx, hb, hml, hown, hts⟩ (hM H.size) (va_cwS n hts hG hw hrc hrs hd9 hR) ⟨KP_blind, fun U hU hW => ⟨rfl, by rw [hU], by rw [hU]; exact hPc, va_K.moved hW.alike hK, hDc.weaken (fun _ _ _ _ => trivial)⟩⟩ rfl hnA hl.1 hst (lv_room hrm) hd hf) hS (fun q _ h => hFc q h) hFc (fun r u t H1 locs1 ht hvm hw9 hB hz1 hk1 hS1 => ?_)
  subst hw9
  obtain ⟨hP1, hD1⟩ := hB
  rw [ht] at hP1
  obtain ⟨hP2, hD2⟩ := va_join (wr := wr) (w1 := w1) hP hD isC isR hC hRr hn hdis hk1 hFc hP1 hD1
  exact kk H1 locs1 ls (hP2.sub is2 (va_fm h2)) (hD2.sub is2 hn2 h2) hS1 hl
theorem met_v {y : MethodName} {ws ws' : List Cond} {rm : Room} {maxL : Nat} {av : List Value} {wc w1 : va_W} {lv0 : List (Nat × Value)} (mc ms : Nat) (hy : plainName y.cls = true) (hw : ws = Cond.code y cc maxL none :: ws') (hown : y.cls = own) (hav : (lg_sl av).length ≤ maxL) (hlv : lv_args 0 av = lv0) (body : ∀ Z : ZT, Gd l rm cc maxL own ws G k Z → (∀ (w : va_W) (lv : List (Nat × Value)) (pc : Nat), decode cc pc = .ok (.return_, 1) → w = w1 → Z mc ms w lv pc []) → Z 0 0 wc lv0 0 []) : ∀ sz, Met l y ws rm (va_Pc av (KP G k wc sz)) (va_Qv (fun (_ : Unit) => True) (KQ G w1 (va_A wc sz)) (va_A wc sz)) mc ms (va_A wc sz) := by
  intro sz
  refine Met.ofW (cc := cc) (maxL := maxL) hy hw ?_
  intro p e s m args below meth c s₁ B hml hv
  obtain ⟨rfl, hsz, hP, hK, hD0⟩ := hv
  subst hsz
  subst hown
  have hD := hD0.self (sz := s.heap.size)
  have hlocks := B.notSynchronized
  rw [lg_entry_eq]
  refine body (Zd p l e rm s m av.toArray below meth c (MQ below (va_Qv (fun (_ : Unit) => True) (KQ G w1 (va_A wc s.heap.size)) (va_A wc s.heap.size)) av.toArray s mc ms (va_A wc s.heap.size)) G (va_A wc s.heap.size) maxL) ⟨p, e, s, m, _, below, meth, c, _, _, rfl, B.exec, B.bytes, hml, findClass_of_methodNamed B.named, atoms_spec B.pre, hK, fun q h => Or.inr h⟩ ?_ s.heap [] _ hP hD va_S.rf (hlv ▸ lv_entry av hav)
  intro w lv pc hd hw1 H locs ls hP hD hS hl
  subst hw1
  exact W.vret B.exec B.bytes B.returns (fun t ht hW => ⟨⟨(), rfl, trivial, by rw [ht]; exact hP, hD⟩, hS.F ht⟩) hS.2.2 hd
theorem met_i {y : MethodName} {ws ws' : List Cond} {rm : Room} {maxL : Nat} {av : List Value} {v : Int32} {wc w1 : va_W} {lv0 : List (Nat × Value)} (mc ms : Nat) (hy : plainName y.cls = true) (hw : ws = Cond.code y cc maxL (some .int) :: ws') (hown : y.cls = own) (hav : (lg_sl av).length ≤ maxL) (hlv : lv_args 0 av = lv0) (body : ∀ Z : ZT, Gd l rm cc maxL own ws G k Z → (∀ (w : va_W) (lv : List (Nat × Value)) (pc : Nat) (r : Int32), decode cc pc = .ok (.ireturn, 1) → r = v → w = w1 → Z mc ms w lv pc [.int r]) → Z 0 0 wc lv0 0 []) : ∀ sz, Met l y ws rm (va_Pc av (KP G k wc sz)) (va_Qi (fun r (_ : Unit) => r = v) (KQ G w1 (va_A wc sz)) (va_A wc sz)) mc ms (va_A wc sz) := by
  intro sz
  refine Met.ofW (cc := cc) (maxL := maxL) hy hw ?_
  intro p e s m args below meth c s₁ B hml hv
  obtain ⟨rfl, hsz, hP, hK, hD0⟩ := hv
  subst hsz
  subst hown
  have hD := hD0.self (sz := s.heap.size)
  have hlocks := B.notSynchronized
  rw [lg_entry_eq]
  refine body (Zd p l e rm s m av.toArray below meth c (MQ below (va_Qi (fun r (_ : Unit) => r = v) (KQ G w1 (va_A wc s.heap.size)) (va_A wc s.heap.size)) av.toArray s mc ms (va_A wc s.heap.size)) G (va_A wc s.heap.size) maxL) ⟨p, e, s, m, _, below, meth, c, _, _, rfl, B.exec, B.bytes, hml, findClass_of_methodNamed B.named, atoms_spec B.pre, hK, fun q h => Or.inr h⟩ ?_ s.heap [] _ hP hD va_S.rf (hlv ▸ lv_entry av hav)
  intro w lv pc r hd hr hw1 H locs ls hP hD hS hl
  subst hr; subst hw1
  exact W.iret B.exec B.bytes B.returns (fun t ht hW => ⟨⟨r, (), rfl, rfl, by rw [ht]; exact hP, hD⟩, hS.F ht⟩) hS.2.2 hd
theorem met_z {y : MethodName} {ws ws' : List Cond} {rm : Room} {maxL : Nat} {ty : FieldType} {av : List Value} {v : Int32} {wc w1 : va_W} {lv0 : List (Nat × Value)} (mc ms : Nat) (hy : plainName y.cls = true) (hw : ws = Cond.code y cc maxL (some ty) :: ws') (hown : y.cls = own) (hav : (lg_sl av).length ≤ maxL) (hlv : lv_args 0 av = lv0) (hnr : narrow ty (.int v) = .int v) (body : ∀ Z : ZT, Gd l rm cc maxL own ws G k Z → (∀ (w : va_W) (lv : List (Nat × Value)) (pc : Nat) (r : Int32), decode cc pc = .ok (.ireturn, 1) → r = v → w = w1 → Z mc ms w lv pc [.int r]) → Z 0 0 wc lv0 0 []) : ∀ sz, Met l y ws rm (va_Pc av (KP G k wc sz)) (va_Qi (fun r (_ : Unit) => r = v) (KQ G w1 (va_A wc sz)) (va_A wc sz)) mc ms (va_A wc sz) := by
  intro sz
  refine Met.ofW (cc := cc) (maxL := maxL) hy hw ?_
  intro p e s m args below meth c s₁ B hml hv
  obtain ⟨rfl, hsz, hP, hK, hD0⟩ := hv
  subst hsz
  subst hown
  have hD := hD0.self (sz := s.heap.size)
  have hlocks := B.notSynchronized
  rw [lg_entry_eq]
  refine body (Zd p l e rm s m av.toArray below meth c (MQ below (va_Qi (fun r (_ : Unit) => r = v) (KQ G w1 (va_A wc s.heap.size)) (va_A wc s.heap.size)) av.toArray s mc ms (va_A wc s.heap.size)) G (va_A wc s.heap.size) maxL) ⟨p, e, s, m, _, below, meth, c, _, _, rfl, B.exec, B.bytes, hml, findClass_of_methodNamed B.named, atoms_spec B.pre, hK, fun q h => Or.inr h⟩ ?_ s.heap [] _ hP hD va_S.rf (hlv ▸ lv_entry av hav)
  intro w lv pc r hd hr hw1 H locs ls hP hD hS hl
  subst hr; subst hw1
  exact W.zret B.exec B.bytes B.returns hnr (fun t ht hW => ⟨⟨r, (), rfl, rfl, by rw [ht]; exact hP, hD⟩, hS.F ht⟩) hS.2.2 hd
theorem met_l {y : MethodName} {ws ws' : List Cond} {rm : Room} {maxL : Nat} {av : List Value} {v : Int64} {wc w1 : va_W} {lv0 : List (Nat × Value)} (mc ms : Nat) (hy : plainName y.cls = true) (hw : ws = Cond.code y cc maxL (some .long) :: ws') (hown : y.cls = own) (hav : (lg_sl av).length ≤ maxL) (hlv : lv_args 0 av = lv0) (body : ∀ Z : ZT, Gd l rm cc maxL own ws G k Z → (∀ (w : va_W) (lv : List (Nat × Value)) (pc : Nat) (r : Int64), decode cc pc = .ok (.lreturn, 1) → r = v → w = w1 → Z mc ms w lv pc [.long r]) → Z 0 0 wc lv0 0 []) : ∀ sz, Met l y ws rm (va_Pc av (KP G k wc sz)) (va_Ql (fun r (_ : Unit) => r = v) (KQ G w1 (va_A wc sz)) (va_A wc sz)) mc ms (va_A wc sz) := by
  intro sz
  refine Met.ofW (cc := cc) (maxL := maxL) hy hw ?_
  intro p e s m args below meth c s₁ B hml hv
  obtain ⟨rfl, hsz, hP, hK, hD0⟩ := hv
  subst hsz
  subst hown
  have hD := hD0.self (sz := s.heap.size)
  have hlocks := B.notSynchronized
  rw [lg_entry_eq]
  refine body (Zd p l e rm s m av.toArray below meth c (MQ below (va_Ql (fun r (_ : Unit) => r = v) (KQ G w1 (va_A wc s.heap.size)) (va_A wc s.heap.size)) av.toArray s mc ms (va_A wc s.heap.size)) G (va_A wc s.heap.size) maxL) ⟨p, e, s, m, _, below, meth, c, _, _, rfl, B.exec, B.bytes, hml, findClass_of_methodNamed B.named, atoms_spec B.pre, hK, fun q h => Or.inr h⟩ ?_ s.heap [] _ hP hD va_S.rf (hlv ▸ lv_entry av hav)
  intro w lv pc r hd hr hw1 H locs ls hP hD hS hl
  subst hr; subst hw1
  exact W.lret B.exec B.bytes B.returns (fun t ht hW => ⟨⟨r, (), rfl, rfl, by rw [ht]; exact hP, hD⟩, hS.F ht⟩) hS.2.2 hd
theorem met_d {y : MethodName} {ws ws' : List Cond} {rm : Room} {maxL : Nat} {av : List Value} {v : UInt64} {wc w1 : va_W} {lv0 : List (Nat × Value)} (mc ms : Nat) (hy : plainName y.cls = true) (hw : ws = Cond.code y cc maxL (some .double) :: ws') (hown : y.cls = own) (hav : (lg_sl av).length ≤ maxL) (hlv : lv_args 0 av = lv0) (body : ∀ Z : ZT, Gd l rm cc maxL own ws G k Z → (∀ (w : va_W) (lv : List (Nat × Value)) (pc : Nat) (r : UInt64), decode cc pc = .ok (.dreturn, 1) → r = v → w = w1 → Z mc ms w lv pc [.double r]) → Z 0 0 wc lv0 0 []) : ∀ sz, Met l y ws rm (va_Pc av (KP G k wc sz)) (va_Qd (fun r (_ : Unit) => r = v) (KQ G w1 (va_A wc sz)) (va_A wc sz)) mc ms (va_A wc sz) := by
  intro sz
  refine Met.ofW (cc := cc) (maxL := maxL) hy hw ?_
  intro p e s m args below meth c s₁ B hml hv
  obtain ⟨rfl, hsz, hP, hK, hD0⟩ := hv
  subst hsz
  subst hown
  have hD := hD0.self (sz := s.heap.size)
  have hlocks := B.notSynchronized
  rw [lg_entry_eq]
  refine body (Zd p l e rm s m av.toArray below meth c (MQ below (va_Qd (fun r (_ : Unit) => r = v) (KQ G w1 (va_A wc s.heap.size)) (va_A wc s.heap.size)) av.toArray s mc ms (va_A wc s.heap.size)) G (va_A wc s.heap.size) maxL) ⟨p, e, s, m, _, below, meth, c, _, _, rfl, B.exec, B.bytes, hml, findClass_of_methodNamed B.named, atoms_spec B.pre, hK, fun q h => Or.inr h⟩ ?_ s.heap [] _ hP hD va_S.rf (hlv ▸ lv_entry av hav)
  intro w lv pc r hd hr hw1 H locs ls hP hD hS hl
  subst hr; subst hw1
  exact W.dret B.exec B.bytes B.returns (fun t ht hW => ⟨⟨r, (), rfl, rfl, by rw [ht]; exact hP, hD⟩, hS.F ht⟩) hS.2.2 hd
end ZR
