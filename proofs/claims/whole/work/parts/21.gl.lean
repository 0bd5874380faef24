/-! the law's own context: as GX, and the script -/
def GL (l : Launch) (R : Room) (cc : ByteArray) (nL : Nat) (own : String) (Ts : List Cond) (G : va_G) (k : Nat → ClassId) (b L : Nat) (xs : Nat → Int32) (Z : ZT) : Prop :=
  ∃ (p : Program) (e : Env) (s : State) (m : MethodId) (args : Array Value) (below : List Frame) (meth : Method) (c : Code) (Q : State → Prop) (A : Nat → Prop), Z = Zd p l e R s m args below meth c Q G A nL ∧ p.tables.exec = Jvm.exec ∧ c.code = cc ∧ c.maxLocals = nL ∧ s.vm.findClass own = some m.cls ∧ (∀ w ∈ Ts, w.before args s = true) ∧ va_K G vwCl (TY k) s ∧ (∀ q, s.heap.size ≤ q → A q) ∧ TE A s s.heap ∧ NW s ∧ va_X b L xs s s.heap ∧ b < s.heap.size ∧ ¬ A b
theorem GL.gx {l : Launch} {R : Room} {cc : ByteArray} {nL : Nat} {own : String} {Ts : List Cond} {G : va_G} {k : Nat → ClassId} {b L : Nat} {xs : Nat → Int32} {Z : ZT} (g : GL l R cc nL own Ts G k b L xs Z) : ∃ tb, GX l R cc nL own Ts G k tb Z := by
  obtain ⟨p, e, s, m, args, below, meth, c, Q, A, h1, h2, h3, h4, h5, h6, h7, h8, h9, -⟩ := g
  exact ⟨c.exceptionTable.toList, p, e, s, m, args, below, meth, c, Q, A, h1, h2, h3, h4, h5, h6, h7, h8, h9, rfl⟩
section ZL
variable {l : Launch} {R : Room} {cc : ByteArray} {nL : Nat} {own : String} {Ts : List Cond} {G : va_G} {k : Nat → ClassId} {Z : ZT} {b L : Nat} {xs : Nat → Int32}
variable {c0 s0 : Nat} {w : va_W} {lv lv' : List (Nat × Value)} {pc : Nat} {rest : List Value}
theorem z_sld (g : GL l R cc nL own Ts G k b L xs Z) {i : Int32} (j : Nat) (hi : i = nI j) (hj : j < L) (hn : L < 2 ^ 31) (hd : decode cc pc = .ok (.iaload, 1)) (kk : Z c0 s0 w lv (pc + 1) (.int (xs j) :: rest)) : Z c0 s0 w lv pc (.int i :: .ref b :: rest) := by
  obtain ⟨p, e, s, m, args, below, meth, c, Q, A, rfl, hx, hb, hml, hown, hts, hK, hA, hE, hnw, hX, hbl, hbA⟩ := g
  intro H locs ls hP hD hS hl
  subst hi
  have hc : (nI j).toNatClampNeg = j := nI_clamp (Nat.lt_trans hj hn)
  refine va_sld hx hb hX hbl hbA hS (vp_in_nI hj hn) hd ?_
  rw [hc]
  exact kk H locs ls hP hD hS hl
theorem z_slen (g : GL l R cc nL own Ts G k b L xs Z) (hd : decode cc pc = .ok (.arraylength, 1)) (kk : Z c0 s0 w lv (pc + 1) (.int (nI L) :: rest)) : Z c0 s0 w lv pc (.ref b :: rest) := by
  obtain ⟨p, e, s, m, args, below, meth, c, Q, A, rfl, hx, hb, hml, hown, hts, hK, hA, hE, hnw, hX, hbl, hbA⟩ := g
  intro H locs ls hP hD hS hl
  exact va_slen hx hb hX hbl hbA hS hd (kk H locs ls hP hD hS hl)
theorem z_callLs (g : GL l R cc nL own Ts G k b L xs Z) {y : MethodName} {ws ws' : List Cond} {rm : Room} {bytes : ByteArray} {maxL mc ms ix q : Nat} {wc wr : va_W} {WS : va_W → Prop} (hM : ∀ sz, Met l y ws rm (va_Pc [.ref q] (KPN G k wc sz)) (va_Qv (fun (_ : Unit) => True) (KQs G WS (va_A wc sz)) (va_A wc sz)) mc ms (va_A wc sz)) (hG : GoodIn Ts ws) (hw : ws = Cond.code y bytes maxL none :: ws') (hrc : rm.cells = mc) (hrs : rm.slots = ms) (hd9 : y.cls ≠ "java/lang/invoke/MethodHandle" ∧ y.cls ≠ "java/lang/invoke/VarHandle" ∧ (parseMethodDescriptor y.desc).map (fun d => d.parameters.length) = some 0) (hR : rm.frames + 1 ≤ R.frames ∧ 8 + (maxL + 11) + rm.locals ≤ R.locals) (hini : Cond.initialized y.cls ∈ Ts) (hl9 : Cond.methodLink own ix y ∈ Ts) (hin : Cond.instanceMethod y ∈ Ts) (hy1 : y.name = "<init>") (isC isR : List Nat) (hnC : va_nd isC = true) (hC : isC.map (fun i => w[i]?) = wc.map some) (hRr : isR.map (fun i => w[i]?) = wr.map some) (hn : va_nd isR = true) (hdis : ∀ i ∈ isR, i ∉ isC) (hrm : (rest.map fun v => v.category).sum ≤ 8) (hd : decode cc pc = .ok (.invokespecial ix, 3)) (hf : c0 + mc ≤ R.cells ∧ s0 + ms ≤ R.slots) (kk : ∀ w1, WS w1 → Z (c0 + mc) (s0 + ms) (wr ++ w1) lv (pc + 3) rest) : Z c0 s0 w lv pc (.ref q :: rest) := by
  obtain ⟨p, e, s, m, args, below, meth, c, Q, A, rfl, hx, hb, hml, hown, hts, hK, hA, hE, hnw, hX, hbl, hbA⟩ := g
  intro H locs ls hP hD hS hl
  have hPc := hP.sub isC (va_fm hC)
  have hDc := hD.sub isC hnC hC
  have hFc := va_free (wc := wc) hD hS hA isC hC
  refine va_callv (va_runI (As := []) (rest := rest) ⟨hx, hb, hml, hown, hts⟩ (hM H.size) (cwI 0 hts hG hw hrc hrs (hts _ hini) (hts _ hl9) (hts _ hin) hy1 hd9 hR) ⟨KPN_blind, fun U hU hW => ⟨rfl, ⟨by rw [hU], by rw [hU]; exact hPc, va_K.moved hW.alike hK, hDc.weaken (fun _ _ _ _ => trivial)⟩, NW_warm hW hnw⟩⟩ rfl rfl hl.1 rfl (lv_room hrm) hd hf) hS (fun q _ h => hFc q h) hFc (fun u t H1 locs1 ht hvm hw9 hB hz1 hk1 hS1 => ?_)
  obtain ⟨w1, hws, hP1, hD1⟩ := hB
  rw [ht] at hP1
  obtain ⟨hP2, hD2⟩ := va_join (wr := wr) (w1 := w1) hP hD isC isR hC hRr hn hdis hk1 hFc hP1 hD1
  exact kk w1 hws H1 locs1 ls hP2 hD2 hS1 hl
end ZL
theorem lw_sw (x : Int32) : x &&& 15 = 0 ∨ x &&& 15 = 1 ∨ x &&& 15 = 2 ∨ x &&& 15 = 3 ∨ x &&& 15 = 4 ∨ x &&& 15 = 5 ∨ x &&& 15 = 6 ∨ x &&& 15 = 7 ∨ x &&& 15 = 8 ∨ x &&& 15 = 9 ∨ (True ∧ ((x &&& 15).toInt < 0 ∨ 9 < (x &&& 15).toInt)) := by
  obtain ⟨j, hj, e⟩ := pk_andE x (m := 15) 4 (by decide)
  rw [e]
  rcases (show j = 0 ∨ j = 1 ∨ j = 2 ∨ j = 3 ∨ j = 4 ∨ j = 5 ∨ j = 6 ∨ j = 7 ∨ j = 8 ∨ j = 9 ∨ 9 < j by omega) with rfl | rfl | rfl | rfl | rfl | rfl | rfl | rfl | rfl | rfl | h
  all_goals first
    | exact Or.inr (Or.inr (Or.inr (Or.inr (Or.inr (Or.inr (Or.inr (Or.inr (Or.inr (Or.inr ⟨trivial, Or.inr (by rw [nI_toInt (by omega)]; omega)⟩)))))))))
    | decide
theorem lw_gt {L a : Nat} (hL : L ≤ 4000) (ha : a ≤ 4000) : nI L - 4 < nI a ↔ L < a + 4 := by
  have e : (nI L - 4).toInt = (L : Int) - 4 := by
    rw [Int32.toInt_sub, nI_toInt (by omega), show (4 : Int32).toInt = 4 from rfl]
    exact Int.bmod_eq_of_le (by omega) (by omega)
  rw [Int32.lt_iff_toInt_lt, e, nI_toInt (by omega)]
  omega
theorem lw_i4 (i : Nat) : nI (4 * i) + Int32.ofInt 4 = nI (4 * (i + 1)) := by
  rw [show Int32.ofInt 4 = nI 4 from rfl, nI_add, show 4 * i + 4 = 4 * (i + 1) by omega]
theorem upL0 (g : Nat → Int64) (v : Int64) : vp_updL g 0 v 0 = v := if_pos rfl
theorem upD0 (g : Nat → UInt64) (v : UInt64) : vf_upd g 0 v 0 = v := if_pos rfl
theorem lw_arr {args : Array Value} {s : State} {ty : FieldType} (h : (Cond.arrayClass ty).before args s = true) (hn : ∀ C, ty ≠ .object C) : ∃ cA : ClassId, ArrOfT s cA ty ∧ va_RA s cA ty := by
  obtain ⟨c, kA, comp, h1, h2, h3⟩ := Cond.arrayClass_spec h
  refine ⟨c, fun n z => ⟨fun k h => (by cases h), kA, h2, comp, h3⟩, ?_⟩
  cases ty <;> first | exact h1 | exact absurd rfl (hn _)
theorem lw_str {args : Array Value} {s : State} {own tx cls : String} {q : Nat} (h1 : (Cond.stringRef own q tx).before args s = true) (h2 : (Cond.exactly (.string own q) cls).before args s = true) : ∃ sa, vk_R own q tx sa s := by
  obtain ⟨a, -, -, -, ha, -⟩ := Cond.exactly_spec h2
  exact ⟨a, vk_R.of h1 ha⟩
theorem lw_TE {s : State} {args : Array Value} {A : Nat → Prop} (hts : ∀ w ∈ lw_tbl, w.before args s = true) (hgv : (Jvm.Cond.and given_1 narrow_1).before args s = true) (hA : ∀ a : Nat, a < s.heap.size → ¬ A a) : TE A s s.heap := by
  have hs := flat_of_before _ hgv
  refine ⟨vx_Zqof (hts _ (List.mem_append_right _ (List.mem_of_getElem? (i := 240) rfl))) (hts _ (List.mem_append_right _ (List.mem_of_getElem? (i := 8) rfl))) (hs _ (by decide +kernel)) hA, vx_Zqof (hts _ (List.mem_append_right _ (List.mem_of_getElem? (i := 242) rfl))) (hts _ (List.mem_append_right _ (List.mem_of_getElem? (i := 8) rfl))) (hs _ (by decide +kernel)) hA, ?_, ?_, va_Nc.of (hs _ (by decide +kernel))⟩
  · unfold teS
    simp only [List.forall_mem_cons]
    exact ⟨lw_str (hts _ (List.mem_append_right _ (List.mem_of_getElem? (i := 253) rfl))) (hs _ (by decide +kernel : Cond.exactly (.string "PartsDesk" 68) "java/lang/String" ∈ flatC (Jvm.Cond.and given_1 narrow_1))), lw_str (hts _ (List.mem_append_right _ (List.mem_of_getElem? (i := 307) rfl))) (hs _ (by decide +kernel : Cond.exactly (.string "PartsDesk" 84) "java/lang/String" ∈ flatC (Jvm.Cond.and given_1 narrow_1))), lw_str (hts _ (List.mem_append_right _ (List.mem_of_getElem? (i := 320) rfl))) (hs _ (by decide +kernel : Cond.exactly (.string "PartsDesk" 92) "java/lang/String" ∈ flatC (Jvm.Cond.and given_1 narrow_1))), lw_str (hts _ (List.mem_append_right _ (List.mem_of_getElem? (i := 338) rfl))) (hs _ (by decide +kernel : Cond.exactly (.string "PartsDesk" 116) "java/lang/String" ∈ flatC (Jvm.Cond.and given_1 narrow_1))), lw_str (hts _ (List.mem_append_right _ (List.mem_of_getElem? (i := 358) rfl))) (hs _ (by decide +kernel : Cond.exactly (.string "PartsDesk" 129) "java/lang/String" ∈ flatC (Jvm.Cond.and given_1 narrow_1))), lw_str (hts _ (List.mem_append_right _ (List.mem_of_getElem? (i := 366) rfl))) (hs _ (by decide +kernel : Cond.exactly (.string "PartsDesk" 135) "java/lang/String" ∈ flatC (Jvm.Cond.and given_1 narrow_1))), lw_str (hts _ (List.mem_append_right _ (List.mem_of_getElem? (i := 383) rfl))) (hs _ (by decide +kernel : Cond.exactly (.string "PartsDesk" 144) "java/lang/String" ∈ flatC (Jvm.Cond.and given_1 narrow_1))), fun _ h => nomatch h⟩
  · unfold teW
    simp only [List.forall_mem_cons]
    exact ⟨va_Nw.of rfl (hts _ (List.mem_append_right _ (List.mem_of_getElem? (i := 215) rfl))), va_Nw.of rfl (hts _ (List.mem_append_right _ (List.mem_of_getElem? (i := 313) rfl))), va_Nw.of rfl (hts _ (List.mem_append_right _ (List.mem_of_getElem? (i := 217) rfl))), va_Nw.of rfl (hts _ (List.mem_append_right _ (List.mem_of_getElem? (i := 219) rfl))), va_Nw.of rfl (hts _ (List.mem_append_right _ (List.mem_of_getElem? (i := 221) rfl))), fun _ h => nomatch h⟩
theorem lw_NW {s : State} {args : Array Value} (hts : ∀ w ∈ lw_tbl, w.before args s = true) : NW s := by
  unfold NW nsW
  simp only [List.forall_mem_cons]
  exact ⟨va_Nw.of rfl (hts _ (List.mem_append_right _ (List.mem_of_getElem? (i := 23) rfl))), va_Nw.of rfl (hts _ (List.mem_append_right _ (List.mem_of_getElem? (i := 40) rfl))), fun _ h => nomatch h⟩
set_option maxRecDepth 100000 in
theorem lw_K {s : State} {args : Array Value} (hts : ∀ w ∈ lw_tbl, w.before args s = true) : ∃ (G : va_G) (k : Nat → ClassId), va_K G vwCl (TY k) s := by
  obtain ⟨cchar, hcchar⟩ := lw_arr (ty := .char) (hts _ (List.mem_append_right _ (List.mem_of_getElem? (i := 37) rfl))) (fun _ h => by cases h)
  obtain ⟨cint, hcint⟩ := lw_arr (ty := .int) (hts _ (List.mem_append_right _ (List.mem_of_getElem? (i := 149) rfl))) (fun _ h => by cases h)
  obtain ⟨clong, hclong⟩ := lw_arr (ty := .long) (hts _ (List.mem_append_right _ (List.mem_of_getElem? (i := 48) rfl))) (fun _ h => by cases h)
  obtain ⟨cdouble, hcdouble⟩ := lw_arr (ty := .double) (hts _ (List.mem_append_right _ (List.mem_of_getElem? (i := 569) rfl))) (fun _ h => by cases h)
  obtain ⟨C0, I0, hk0⟩ := u_known (C := RX0) (T := TX0) (N := 3) hts (fun w h => wsL_law_in w (inlX0 w h)) (hts _ (List.mem_append_right _ (List.mem_of_getElem? (i := 22) rfl)))
  obtain ⟨C1, I1, hk1⟩ := u_known (C := RX1) (T := TX1) (N := 1) hts (fun w h => wsL_law_in w (inlX1 w h)) (hts _ (List.mem_append_right _ (List.mem_of_getElem? (i := 39) rfl)))
  obtain ⟨C2, I2, hk2⟩ := u_known (C := RX2) (T := TX2) (N := 11) hts (fun w h => wsL_law_in w (inlX2 w h)) (hts _ (List.mem_append_right _ (List.mem_of_getElem? (i := 14) rfl)))
  obtain ⟨C3, I3, hk3⟩ := u_known (C := RX3) (T := TX3) (N := 16) hts (fun w h => wsL_law_in w (inlX3 w h)) (hts _ (List.mem_append_right _ (List.mem_of_getElem? (i := 400) rfl)))
  refine ⟨(fun j => match j with | 0 => C0 | 1 => C1 | 2 => C2 | _ => C3, fun j => match j with | 0 => I0 | 1 => I1 | 2 => I2 | _ => I3), fun j => match j with | 0 => cchar | 1 => cint | 2 => clong | _ => cdouble, fun c q hq => ?_, fun j q hq => ?_⟩
  · have hlt := (List.getElem?_eq_some_iff.mp hq).1
    have hlt4 : c < 4 := hlt
    rcases (show c = 0 ∨ c = 1 ∨ c = 2 ∨ c = 3 by omega) with rfl | rfl | rfl | rfl
    · cases hq; exact hk0
    · cases hq; exact hk1
    · cases hq; exact hk2
    · cases hq; exact hk3
  · have hlt := (List.getElem?_eq_some_iff.mp hq).1
    have hlt4 : j < 4 := hlt
    rcases (show j = 0 ∨ j = 1 ∨ j = 2 ∨ j = 3 by omega) with rfl | rfl | rfl | rfl
    · cases hq; exact hcchar
    · cases hq; exact hcint
    · cases hq; exact hclong
    · cases hq; exact hcdouble
