theorem mi {l : List Cond} {w : Cond} (i : Nat) (h : l[i]? = some w) : w ∈ l := List.mem_of_getElem? h
theorem nIm_neg {j : Nat} (h : nI j - 1 < 0) (hj : j < 2 ^ 31) : j = 0 := by
  rcases j with _ | j
  · rfl
  · rw [nI_pred] at h
    exact absurd h (nI_pos (by omega))
theorem nIm_pos {j : Nat} (h : ¬ nI j - 1 < 0) : ∃ i, j = i + 1 := by
  rcases j with _ | j
  · exact absurd (by decide) h
  · exact ⟨j, rfl⟩
theorem nIm_dec (j : Nat) : nI (j + 1) - 1 + Int32.ofInt (-1) = nI j - 1 := by
  rw [nI_pred, Int32.sub_eq_add_neg]
  rfl
theorem nI_lt0 {j : Nat} (hj : j < 2 ^ 31) : ¬ nI j < 0 := nI_pos hj
/-- an array's contents outside its length don't matter -/
theorem vp_cell_eqL {cA : ClassId} {n : Nat} {f h : Nat → Int64} (e : ∀ j, j < n → f j = h j) : vp_cell cA (n, .inr (.inl f)) = vp_cell cA (n, .inr (.inl h)) := by
  rw [vp_cell_l, vp_cell_l]
  unfold arrV
  congr 2
  funext j
  show Value.long (f j.val) = Value.long (h j.val)
  rw [e j.val j.isLt]
theorem vp_cell_eqI {cA : ClassId} {n : Nat} {f h : Nat → Int32} (e : ∀ j, j < n → f j = h j) : vp_cell cA (n, .inl f) = vp_cell cA (n, .inl h) := by
  rw [vp_cell_i, vp_cell_i]
  unfold arrV
  congr 2
  funext j
  show Value.int (f j.val) = Value.int (h j.val)
  rw [e j.val j.isLt]
section ZE
variable {l : Launch} {R : Room} {cc : ByteArray} {nL : Nat} {own : String} {Ts : List Cond} {G : va_G} {k : Nat → ClassId} {Z : ZT}
variable {c0 s0 : Nat} {w w' : va_W} {lv lv' : List (Nat × Value)} {pc : Nat} {rest : List Value}
theorem va_setcell {D : va_G} {cl : List vw_C} {ws : va_W} {H : Heap} (hP : va_P D cl ws H) {q0 : Nat} {e e' : Nat × va_E} (he : ws[q0]? = some e) (h : va_at D cl e' H) : va_P D cl (ws.set q0 e') H := by
  intro i q hq
  by_cases hi : q0 = i
  · subst hi
    have hl : q0 < ws.length := (List.getElem?_eq_some_iff.mp he).1
    rw [List.getElem?_set_self hl] at hq
    cases hq
    exact h
  · rw [List.getElem?_set_ne hi] at hq
    exact hP i q hq
theorem z_eqL (g : Gd l R cc nL own Ts G k Z) {a n : Nat} {cA : ClassId} {f : Nat → Int64} (h : Nat → Int64) (q0 : Nat) (ha : w[q0]? = some (a, .inl (cA, n, .inr (.inl f)))) (e : ∀ j, j < n → f j = h j) (hw : w.set q0 (a, .inl (cA, n, .inr (.inl h))) = w') (kk : Z c0 s0 w' lv pc rest) : Z c0 s0 w lv pc rest := by
  subst hw
  obtain ⟨p, e9, s, m, args, below, meth, c, Q, A, rfl, hx, hb, hml, hown, hts, hK, hA⟩ := g
  intro H locs ls hP hD hS hl
  exact kk H locs ls (va_setcell hP ha (by have := hP q0 _ ha; show H[a]? = some (vp_cell _ _); rw [← vp_cell_eqL e]; exact this)) (hD.set ha) hS hl
theorem z_eqI (g : Gd l R cc nL own Ts G k Z) {a n : Nat} {cA : ClassId} {f : Nat → Int32} (h : Nat → Int32) (q0 : Nat) (ha : w[q0]? = some (a, .inl (cA, n, .inl f))) (e : ∀ j, j < n → f j = h j) (hw : w.set q0 (a, .inl (cA, n, .inl h)) = w') (kk : Z c0 s0 w' lv pc rest) : Z c0 s0 w lv pc rest := by
  subst hw
  obtain ⟨p, e9, s, m, args, below, meth, c, Q, A, rfl, hx, hb, hml, hown, hts, hK, hA⟩ := g
  intro H locs ls hP hD hS hl
  exact kk H locs ls (va_setcell hP ha (by have := hP q0 _ ha; show H[a]? = some (vp_cell _ _); rw [← vp_cell_eqI e]; exact this)) (hD.set ha) hS hl
end ZE
/-! the draft: f its characters, n how many, i how far they have been read -/
def takesP (f : Nat → Int32) (n i : Nat) (c : Int32) : Bool := if n ≤ i then false else if f i = c then true else false
def takesN (f : Nat → Int32) (n i : Nat) (c : Int32) : Nat := if takesP f n i c then i + 1 else i
/-- the digit that comes next, if it is lo .. hi -/
def dgD (f : Nat → Int32) (n i : Nat) : Int32 := if n ≤ i then -1 else f i - 48
def dgP (f : Nat → Int32) (n i : Nat) (lo hi : Int32) : Bool := if dgD f n i < lo then false else if dgD f n i ≤ hi then true else false
def dgV (f : Nat → Int32) (n i : Nat) (lo hi : Int32) : Int32 := if dgP f n i lo hi then dgD f n i else -1
def dgN (f : Nat → Int32) (n i : Nat) (lo hi : Int32) : Nat := if dgP f n i lo hi then i + 1 else i
/-- append -/
def appP (n : Nat) (c : Int32) : Bool := if 30 ≤ n then false else if c < 32 then false else if c ≤ 126 then true else false
def appF (f : Nat → Int32) (n : Nat) (c : Int32) : Nat → Int32 := if appP n c then upd f n (vp_nar .char c) else f
def appN (n : Nat) (c : Int32) : Nat := if appP n c then n + 1 else n
/-! polynomials: the coefficients of the powers 0 .. 6 -/
def getP (f : Nat → Int64) (i : Int32) : Int64 := if i < 0 then 0 else if 6 < i then 0 else f i.toNatClampNeg
def addP (f : Nat → Int64) (x : Int64) (i : Int32) : Nat → Int64 := if i < 0 then f else if 6 < i then f else vp_updL f i.toNatClampNeg (f i.toNatClampNeg + x)
def degP (f : Nat → Int64) : Nat → Nat
  | 0 => 0
  | j + 1 => if f (j + 1) = 0 then degP f j else j + 1
def oneP : Nat → Int64 := fun j => if j = 0 then 1 else 0
def mulP (f : Nat → Int64) (r : Int32) : Nat → Int64 := fun j => if j = 0 then (-r).toInt64 * f 0 else f (j - 1) - r.toInt64 * f j
/-- Horner from the highest power m on: after n powers -/
def hrn (f : Nat → Int64) (r : Int64) : Nat → Int64
  | 0 => 0
  | n + 1 => f (6 - n) + r * hrn f r n
def dvP (f : Nat → Int64) (r : Int32) : Nat → Int64 := fun j => hrn f r.toInt64 (6 - j)
def mixP (a b : Int64) (f h : Nat → Int64) : Nat → Int64 := fun j => a * f j + b * h j
def hxP (f : Nat → Int64) (t : Int64) (m : Nat) : Nat → Int64
  | 0 => 0
  | n + 1 => hxP f t m n * t + f (m - n)
def hdP (f : Nat → Int64) (x : UInt64) (m : Nat) : Nat → UInt64
  | 0 => FP.dconst0
  | n + 1 => FP.dadd (FP.dmul (hdP f x m n) x) (FP.l2d (f (m - n)))
/-- no NaN on the way -/
def hdOK (f : Nat → Int64) (x : UInt64) (m : Nat) : Prop := ∀ n, n ≤ m → vf_n64 (FP.dmul (hdP f x m n) x) ∧ vf_n64 (hdP f x m (n + 1))
theorem ix6 {i : Int32} (h1 : ¬ i < 0) (h2 : ¬ 6 < i) : i = nI i.toNatClampNeg ∧ i.toNatClampNeg < 7 := by
  obtain ⟨j, hj, rfl⟩ := nI_of2 (M := 6) (n := 6) (by decide) h1 (Int32.not_lt.mp h2)
  rw [nI_clamp (by omega)]
  exact ⟨rfl, by omega⟩
set_option maxHeartbeats 4000000 in
set_option maxRecDepth 100000 in
/-- Draft.empty() -/
theorem k_X0_empty (l : Launch) (G : va_G) (k : Nat → ClassId) (h0 h1 n i : Nat) : ∀ sz, Met l yX0_empty wsX0_empty ({ frames := 0, cells := 0, slots := 0, locals := 0 }) (va_Pc [.ref h0] (KP G k [(h0, .inr (0, [.ref h1, .int (nI n), .int (nI i)]))] sz)) (va_Qv (fun (_ : Unit) => True) (KQ G [(h0, .inr (0, [.ref h1, .int (nI 0), .int (nI 0)]))] (va_A [(h0, .inr (0, [.ref h1, .int (nI n), .int (nI i)]))] sz)) (va_A [(h0, .inr (0, [.ref h1, .int (nI n), .int (nI i)]))] sz)) 0 0 (va_A [(h0, .inr (0, [.ref h1, .int (nI n), .int (nI i)]))] sz) := by
  refine met_v 0 0 (lv0 := [(0, .ref h0)]) (own := RX0) (by decide) rfl rfl (Nat.le_of_ble_eq_true rfl) rfl (fun Z g hret => ?_)
  have hX0 : ∀ w ∈ u_ws RX0 TX0 3, w ∈ wsX0_empty := fun w h => List.mem_cons_of_mem _ (List.mem_append_right _ (h))
  refine z_aload_n g dX0_empty_0 0 rfl ?_
  refine z_ic0 g dX0_empty_1 ?_
  refine z_put (w' := [(_, .inr (0, [_, _, _]))]) g hX0 tyX0 tyX0_ok nmX0 0 rfl rfl 1 (by decide) (mi 1 rfl) rfl rfl rfl (Nat.le_of_ble_eq_true rfl) dX0_empty_2 rfl ?_
  refine z_aload_n g dX0_empty_5 0 rfl ?_
  refine z_ic0 g dX0_empty_6 ?_
  refine z_put (w' := [(_, .inr (0, [_, _, _]))]) g hX0 tyX0 tyX0_ok nmX0 0 rfl rfl 2 (by decide) (mi 2 rfl) rfl rfl rfl (Nat.le_of_ble_eq_true rfl) dX0_empty_7 rfl ?_
  exact hret _ _ _ dX0_empty_10 (rfl)
theorem nd_X0_empty : yX0_empty.cls = RX0 ∧ yX0_empty.cls ≠ "java/lang/invoke/MethodHandle" ∧ yX0_empty.cls ≠ "java/lang/invoke/VarHandle" ∧ (parseMethodDescriptor yX0_empty.desc).map (fun d => d.parameters.length) = some 0 := by decide +kernel
set_option maxHeartbeats 4000000 in
set_option maxRecDepth 100000 in
/-- Draft.isAtEnd() -/
theorem k_X0_isAtEnd (l : Launch) (G : va_G) (k : Nat → ClassId) (h0 h1 n i : Nat) (hn : n ≤ 30) (hi : i ≤ n) : ∀ sz, Met l yX0_isAtEnd wsX0_isAtEnd ({ frames := 0, cells := 0, slots := 0, locals := 0 }) (va_Pc [.ref h0] (KP G k [(h0, .inr (0, [.ref h1, .int (nI n), .int (nI i)]))] sz)) (va_Qi (fun r (_ : Unit) => r = bI (decide (n ≤ i))) (KQ G [(h0, .inr (0, [.ref h1, .int (nI n), .int (nI i)]))] (va_A [(h0, .inr (0, [.ref h1, .int (nI n), .int (nI i)]))] sz)) (va_A [(h0, .inr (0, [.ref h1, .int (nI n), .int (nI i)]))] sz)) 0 0 (va_A [(h0, .inr (0, [.ref h1, .int (nI n), .int (nI i)]))] sz) := by
  refine met_z 0 0 (lv0 := [(0, .ref h0)]) (own := RX0) (by decide) rfl rfl (Nat.le_of_ble_eq_true rfl) rfl bI_n (fun Z g hret => ?_)
  have hX0 : ∀ w ∈ u_ws RX0 TX0 3, w ∈ wsX0_isAtEnd := fun w h => List.mem_cons_of_mem _ (List.mem_append_right _ (h))
  refine z_aload_n g dX0_isAtEnd_0 0 rfl ?_
  refine z_get g hX0 0 rfl rfl 2 (by decide) (mi 1 rfl) rfl dX0_isAtEnd_1 ?_
  refine z_aload_n g dX0_isAtEnd_4 0 rfl ?_
  refine z_get g hX0 0 rfl rfl 1 (by decide) (mi 2 rfl) rfl dX0_isAtEnd_5 ?_
  refine z_n_lt g (a := i) (b := n) (tgt := 15) (by omega) (by omega) dX0_isAtEnd_8 (by decide) (fun b8 => ?_) (fun b8 => ?_)
  · refine z_ic0 g dX0_isAtEnd_15 ?_
    exact hret _ _ _ _ dX0_isAtEnd_16 ((by rw [bI_d]; first | rw [if_neg (by omega)] | rw [if_pos (by omega)])) (rfl)
  · refine z_ic1 g dX0_isAtEnd_11 ?_
    refine z_goto g 16 dX0_isAtEnd_12 (by decide) ?_
    exact hret _ _ _ _ dX0_isAtEnd_16 ((by rw [bI_d]; first | rw [if_neg (by omega)] | rw [if_pos (by omega)])) (rfl)
theorem nd_X0_isAtEnd : yX0_isAtEnd.cls = RX0 ∧ yX0_isAtEnd.cls ≠ "java/lang/invoke/MethodHandle" ∧ yX0_isAtEnd.cls ≠ "java/lang/invoke/VarHandle" ∧ (parseMethodDescriptor yX0_isAtEnd.desc).map (fun d => d.parameters.length) = some 0 := by decide +kernel
set_option maxHeartbeats 4000000 in
set_option maxRecDepth 100000 in
/-- Draft.append(c) -/
theorem k_X0_append (l : Launch) (G : va_G) (k : Nat → ClassId) (h0 h1 : Nat) (f : Nat → Int32) (n i : Nat) (p0 : Int32) (hn : n ≤ 30) (hi : i ≤ n) : ∀ sz, Met l yX0_append wsX0_append ({ frames := 0, cells := 0, slots := 0, locals := 0 }) (va_Pc [.ref h0, .int p0] (KP G k [(h0, .inr (0, [.ref h1, .int (nI n), .int (nI i)])), (h1, .inl (k 0, 30, .inl f))] sz)) (va_Qi (fun r (_ : Unit) => r = bI (appP n p0)) (KQ G [(h0, .inr (0, [.ref h1, .int (nI (appN n p0)), .int (nI i)])), (h1, .inl (k 0, 30, .inl (appF f n p0)))] (va_A [(h0, .inr (0, [.ref h1, .int (nI n), .int (nI i)])), (h1, .inl (k 0, 30, .inl f))] sz)) (va_A [(h0, .inr (0, [.ref h1, .int (nI n), .int (nI i)])), (h1, .inl (k 0, 30, .inl f))] sz)) 0 0 (va_A [(h0, .inr (0, [.ref h1, .int (nI n), .int (nI i)])), (h1, .inl (k 0, 30, .inl f))] sz) := by
  refine met_z 0 0 (lv0 := [(0, .ref h0), (1, .int p0)]) (own := RX0) (by decide) rfl rfl (Nat.le_of_ble_eq_true rfl) rfl bI_n (fun Z g hret => ?_)
  have hX0 : ∀ w ∈ u_ws RX0 TX0 3, w ∈ wsX0_append := fun w h => List.mem_cons_of_mem _ (List.mem_append_right _ (h))
  refine z_aload_n g dX0_append_0 0 rfl ?_
  refine z_get g hX0 0 rfl rfl 1 (by decide) (mi 1 rfl) rfl dX0_append_1 ?_
  refine z_bi g 30 dX0_append_4 (by decide) ?_
  refine z_n_ge g (a := n) (b := 30) (tgt := 21) (by omega) (by omega) dX0_append_6 (by decide) (fun b6 => ?_) (fun b6 => ?_)
  · refine z_ic0 g dX0_append_21 ?_
    exact hret _ _ _ _ dX0_append_22 ((by simp only [appP, if_pos b6, reduceIte, Bool.false_eq_true] <;> rfl)) ((by simp only [appF, appN, appP, if_pos b6, reduceIte, Bool.false_eq_true] <;> rfl))
  · refine z_iload_n g dX0_append_9 1 rfl ?_
    refine z_bi g 32 dX0_append_10 (by decide) ?_
    refine z_ic_lt g (tgt := 21) dX0_append_12 (by decide) (fun b12 => ?_) (fun b12 => ?_)
    · refine z_ic0 g dX0_append_21 ?_
      exact hret _ _ _ _ dX0_append_22 ((by simp only [appP, if_neg b6, if_pos b12, reduceIte, Bool.false_eq_true] <;> rfl)) ((by simp only [appF, appN, appP, if_neg b6, if_pos b12, reduceIte, Bool.false_eq_true] <;> rfl))
    · refine z_iload_n g dX0_append_15 1 rfl ?_
      refine z_bi g 126 dX0_append_16 (by decide) ?_
      refine z_ic_le g (tgt := 23) dX0_append_18 (by decide) (fun b18 => ?_) (fun b18 => ?_)
      · refine z_aload_n g dX0_append_23 0 rfl ?_
        refine z_get g hX0 0 rfl rfl 0 (by decide) (mi 2 rfl) rfl dX0_append_24 ?_
        refine z_aload_n g dX0_append_27 0 rfl ?_
        refine z_get g hX0 0 rfl rfl 1 (by decide) (mi 1 rfl) rfl dX0_append_28 ?_
        refine z_iload_n g dX0_append_31 1 rfl ?_
        refine z_cast (w' := [_, _]) g 1 rfl n rfl (by omega) (by decide) dX0_append_32 rfl ?_
        refine z_aload_n g dX0_append_33 0 rfl ?_
        refine z_dup g dX0_append_34 rfl ?_
        refine z_get g hX0 0 rfl rfl 1 (by decide) (mi 1 rfl) rfl dX0_append_35 ?_
        refine z_ic1 g dX0_append_38 ?_
        refine z_iadd g dX0_append_39 ?_
        refine z_ti (y := nI (n + 1)) (nI_1 n) ?_
        refine z_put (w' := [(_, .inr (0, [_, _, _])), _]) g hX0 tyX0 tyX0_ok nmX0 0 rfl rfl 1 (by decide) (mi 1 rfl) rfl rfl rfl (Nat.le_of_ble_eq_true rfl) dX0_append_40 rfl ?_
        refine z_ic1 g dX0_append_43 ?_
        exact hret _ _ _ _ dX0_append_44 ((by simp only [appP, if_neg b6, if_neg b12, if_pos b18, reduceIte, Bool.false_eq_true] <;> rfl)) ((by simp only [appF, appN, appP, if_neg b6, if_neg b12, if_pos b18, reduceIte, Bool.false_eq_true] <;> rfl))
      · refine z_ic0 g dX0_append_21 ?_
        exact hret _ _ _ _ dX0_append_22 ((by simp only [appP, if_neg b6, if_neg b12, if_neg b18, reduceIte, Bool.false_eq_true] <;> rfl)) ((by simp only [appF, appN, appP, if_neg b6, if_neg b12, if_neg b18, reduceIte, Bool.false_eq_true] <;> rfl))
theorem nd_X0_append : yX0_append.cls = RX0 ∧ yX0_append.cls ≠ "java/lang/invoke/MethodHandle" ∧ yX0_append.cls ≠ "java/lang/invoke/VarHandle" ∧ (parseMethodDescriptor yX0_append.desc).map (fun d => d.parameters.length) = some 1 := by decide +kernel
set_option maxHeartbeats 4000000 in
set_option maxRecDepth 100000 in
/-- Draft.takes(c) -/
theorem k_X0_takes (l : Launch) (G : va_G) (k : Nat → ClassId) (h0 h1 : Nat) (f : Nat → Int32) (n i : Nat) (p0 : Int32) (hn : n ≤ 30) (hi : i ≤ n) : ∀ sz, Met l yX0_takes wsX0_takes ({ frames := 1, cells := 0, slots := 0, locals := 20 }) (va_Pc [.ref h0, .int p0] (KP G k [(h0, .inr (0, [.ref h1, .int (nI n), .int (nI i)])), (h1, .inl (k 0, 30, .inl f))] sz)) (va_Qi (fun r (_ : Unit) => r = bI (takesP f n i p0)) (KQ G [(h0, .inr (0, [.ref h1, .int (nI n), .int (nI (takesN f n i p0))])), (h1, .inl (k 0, 30, .inl f))] (va_A [(h0, .inr (0, [.ref h1, .int (nI n), .int (nI i)])), (h1, .inl (k 0, 30, .inl f))] sz)) (va_A [(h0, .inr (0, [.ref h1, .int (nI n), .int (nI i)])), (h1, .inl (k 0, 30, .inl f))] sz)) 0 0 (va_A [(h0, .inr (0, [.ref h1, .int (nI n), .int (nI i)])), (h1, .inl (k 0, 30, .inl f))] sz) := by
  refine met_z 0 0 (lv0 := [(0, .ref h0), (1, .int p0)]) (own := RX0) (by decide) rfl rfl (Nat.le_of_ble_eq_true rfl) rfl bI_n (fun Z g hret => ?_)
  have hX0 : ∀ w ∈ u_ws RX0 TX0 3, w ∈ wsX0_takes := fun w h => List.mem_cons_of_mem _ (List.mem_append_right _ (h))
  refine z_aload_n g dX0_takes_0 0 rfl ?_
  refine z_callVi (w' := [_, _]) (wr := [_]) g (k_X0_isAtEnd l G k _ _ _ _ (by assumption) (by assumption)) 0 gX0_takes_X0_isAtEnd rfl rfl rfl nd_X0_isAtEnd ⟨by decide, by decide⟩ 0 rfl rfl [0] [1] [1, 0] rfl rfl rfl rfl (by decide) rfl rfl rfl rfl (Nat.le_of_ble_eq_true rfl) dX0_takes_1 ⟨by decide, by decide⟩ ?_
  refine z_bd_ne g (tgt := 24) dX0_takes_4 (by decide) (fun b4 => ?_) (fun b4 => ?_)
  · refine z_ic0 g dX0_takes_24 ?_
    refine z_istore_n (lv' := [(2, .int _), (0, .ref _), (1, .int _)]) g dX0_takes_25 (by decide) rfl ?_
    refine z_iload_n g dX0_takes_26 0 rfl ?_
    refine z_if_eq g (tgt := 40) dX0_takes_27 (by decide) (fun b27 => ?_) (fun b27 => ?_)
    · refine z_iload_n g dX0_takes_40 0 rfl ?_
      exact hret _ _ _ _ dX0_takes_41 ((by simp only [takesP, if_pos b4, if_pos b27, reduceIte, Bool.false_eq_true] <;> rfl)) ((by simp only [takesN, takesP, if_pos b4, if_pos b27, reduceIte, Bool.false_eq_true] <;> rfl))
    · first | exact absurd b27 (by decide) | exact absurd (by decide) b27
  · refine z_aload_n g dX0_takes_7 0 rfl ?_
    refine z_get g hX0 0 rfl rfl 0 (by decide) (mi 1 rfl) rfl dX0_takes_8 ?_
    refine z_aload_n g dX0_takes_11 0 rfl ?_
    refine z_get g hX0 0 rfl rfl 2 (by decide) (mi 2 rfl) rfl dX0_takes_12 ?_
    refine z_cald g 1 rfl i rfl (by omega) (by decide) dX0_takes_15 ?_
    refine z_iload_n g dX0_takes_16 1 rfl ?_
    refine z_ic_ne g (tgt := 24) dX0_takes_17 (by decide) (fun b17 => ?_) (fun b17 => ?_)
    · refine z_ic0 g dX0_takes_24 ?_
      refine z_istore_n (lv' := [(2, .int _), (0, .ref _), (1, .int _)]) g dX0_takes_25 (by decide) rfl ?_
      refine z_iload_n g dX0_takes_26 0 rfl ?_
      refine z_if_eq g (tgt := 40) dX0_takes_27 (by decide) (fun b27 => ?_) (fun b27 => ?_)
      · refine z_iload_n g dX0_takes_40 0 rfl ?_
        exact hret _ _ _ _ dX0_takes_41 ((by simp only [takesP, if_neg b4, if_neg b17, if_pos b27, reduceIte, Bool.false_eq_true] <;> rfl)) ((by simp only [takesN, takesP, if_neg b4, if_neg b17, if_pos b27, reduceIte, Bool.false_eq_true] <;> rfl))
      · first | exact absurd b27 (by decide) | exact absurd (by decide) b27
    · refine z_ic1 g dX0_takes_20 ?_
      refine z_goto g 25 dX0_takes_21 (by decide) ?_
      refine z_istore_n (lv' := [(2, .int _), (0, .ref _), (1, .int _)]) g dX0_takes_25 (by decide) rfl ?_
      refine z_iload_n g dX0_takes_26 0 rfl ?_
      refine z_if_eq g (tgt := 40) dX0_takes_27 (by decide) (fun b27 => ?_) (fun b27 => ?_)
      · first | exact absurd b27 (by decide) | exact absurd (by decide) b27
      · refine z_aload_n g dX0_takes_30 1 rfl ?_
        refine z_dup g dX0_takes_31 rfl ?_
        refine z_get g hX0 0 rfl rfl 2 (by decide) (mi 2 rfl) rfl dX0_takes_32 ?_
        refine z_ic1 g dX0_takes_35 ?_
        refine z_iadd g dX0_takes_36 ?_
        refine z_ti (y := nI (i + 1)) (nI_1 i) ?_
        refine z_put (w' := [(_, .inr (0, [_, _, _])), _]) g hX0 tyX0 tyX0_ok nmX0 0 rfl rfl 2 (by decide) (mi 2 rfl) rfl rfl rfl (Nat.le_of_ble_eq_true rfl) dX0_takes_37 rfl ?_
        refine z_iload_n g dX0_takes_40 0 rfl ?_
        exact hret _ _ _ _ dX0_takes_41 ((by simp only [takesP, if_neg b4, if_pos b17, if_neg b27, reduceIte, Bool.false_eq_true] <;> rfl)) ((by simp only [takesN, takesP, if_neg b4, if_pos b17, if_neg b27, reduceIte, Bool.false_eq_true] <;> rfl))
theorem nd_X0_takes : yX0_takes.cls = RX0 ∧ yX0_takes.cls ≠ "java/lang/invoke/MethodHandle" ∧ yX0_takes.cls ≠ "java/lang/invoke/VarHandle" ∧ (parseMethodDescriptor yX0_takes.desc).map (fun d => d.parameters.length) = some 1 := by decide +kernel
set_option maxHeartbeats 4000000 in
set_option maxRecDepth 100000 in
/-- Draft.takeDigit(lo, hi) -/
theorem k_X0_takeDigit (l : Launch) (G : va_G) (k : Nat → ClassId) (h0 h1 : Nat) (f : Nat → Int32) (n i : Nat) (p0 p1 : Int32) (hn : n ≤ 30) (hi : i ≤ n) : ∀ sz, Met l yX0_takeDigit wsX0_takeDigit ({ frames := 1, cells := 0, slots := 0, locals := 20 }) (va_Pc [.ref h0, .int p0, .int p1] (KP G k [(h0, .inr (0, [.ref h1, .int (nI n), .int (nI i)])), (h1, .inl (k 0, 30, .inl f))] sz)) (va_Qi (fun r (_ : Unit) => r = dgV f n i p0 p1) (KQ G [(h0, .inr (0, [.ref h1, .int (nI n), .int (nI (dgN f n i p0 p1))])), (h1, .inl (k 0, 30, .inl f))] (va_A [(h0, .inr (0, [.ref h1, .int (nI n), .int (nI i)])), (h1, .inl (k 0, 30, .inl f))] sz)) (va_A [(h0, .inr (0, [.ref h1, .int (nI n), .int (nI i)])), (h1, .inl (k 0, 30, .inl f))] sz)) 0 0 (va_A [(h0, .inr (0, [.ref h1, .int (nI n), .int (nI i)])), (h1, .inl (k 0, 30, .inl f))] sz) := by
  refine met_i 0 0 (lv0 := [(0, .ref h0), (1, .int p0), (2, .int p1)]) (own := RX0) (by decide) rfl rfl (Nat.le_of_ble_eq_true rfl) rfl (fun Z g hret => ?_)
  have hX0 : ∀ w ∈ u_ws RX0 TX0 3, w ∈ wsX0_takeDigit := fun w h => List.mem_cons_of_mem _ (List.mem_append_right _ (h))
  refine z_aload_n g dX0_takeDigit_0 0 rfl ?_
  refine z_callVi (w' := [_, _]) (wr := [_]) g (k_X0_isAtEnd l G k _ _ _ _ (by assumption) (by assumption)) 0 gX0_takeDigit_X0_isAtEnd rfl rfl rfl nd_X0_isAtEnd ⟨by decide, by decide⟩ 0 rfl rfl [0] [1] [1, 0] rfl rfl rfl rfl (by decide) rfl rfl rfl rfl (Nat.le_of_ble_eq_true rfl) dX0_takeDigit_1 ⟨by decide, by decide⟩ ?_
  refine z_bd_eq g (tgt := 11) dX0_takeDigit_4 (by decide) (fun b4 => ?_) (fun b4 => ?_)
  · refine z_aload_n g dX0_takeDigit_11 0 rfl ?_
    refine z_get g hX0 0 rfl rfl 0 (by decide) (mi 1 rfl) rfl dX0_takeDigit_12 ?_
    refine z_aload_n g dX0_takeDigit_15 0 rfl ?_
    refine z_get g hX0 0 rfl rfl 2 (by decide) (mi 2 rfl) rfl dX0_takeDigit_16 ?_
    refine z_cald g 1 rfl i rfl (by omega) (by decide) dX0_takeDigit_19 ?_
    refine z_bi g 48 dX0_takeDigit_20 (by decide) ?_
    refine z_isub g dX0_takeDigit_22 ?_
    refine z_istore_n (lv' := [(3, .int _), (0, .ref _), (1, .int _), (2, .int _)]) g dX0_takeDigit_23 (by decide) rfl ?_
    refine z_iload_n g dX0_takeDigit_24 0 rfl ?_
    refine z_iload_n g dX0_takeDigit_25 2 rfl ?_
    refine z_ic_lt g (tgt := 34) dX0_takeDigit_26 (by decide) (fun b26 => ?_) (fun b26 => ?_)
    · refine z_icm1 g dX0_takeDigit_34 ?_
      exact hret _ _ _ _ dX0_takeDigit_35 ((by simp only [dgV, dgP, dgD, if_neg b4, if_pos b26, reduceIte, Bool.false_eq_true] <;> rfl)) ((by simp only [dgN, dgP, dgD, if_neg b4, if_pos b26, reduceIte, Bool.false_eq_true] <;> rfl))
    · refine z_iload_n g dX0_takeDigit_29 0 rfl ?_
      refine z_iload_n g dX0_takeDigit_30 3 rfl ?_
      refine z_ic_le g (tgt := 36) dX0_takeDigit_31 (by decide) (fun b31 => ?_) (fun b31 => ?_)
      · refine z_aload_n g dX0_takeDigit_36 1 rfl ?_
        refine z_dup g dX0_takeDigit_37 rfl ?_
        refine z_get g hX0 0 rfl rfl 2 (by decide) (mi 2 rfl) rfl dX0_takeDigit_38 ?_
        refine z_ic1 g dX0_takeDigit_41 ?_
        refine z_iadd g dX0_takeDigit_42 ?_
        refine z_ti (y := nI (i + 1)) (nI_1 i) ?_
        refine z_put (w' := [(_, .inr (0, [_, _, _])), _]) g hX0 tyX0 tyX0_ok nmX0 0 rfl rfl 2 (by decide) (mi 2 rfl) rfl rfl rfl (Nat.le_of_ble_eq_true rfl) dX0_takeDigit_43 rfl ?_
        refine z_iload_n g dX0_takeDigit_46 0 rfl ?_
        exact hret _ _ _ _ dX0_takeDigit_47 ((by simp only [dgV, dgP, dgD, if_neg b4, if_neg b26, if_pos b31, reduceIte, Bool.false_eq_true] <;> rfl)) ((by simp only [dgN, dgP, dgD, if_neg b4, if_neg b26, if_pos b31, reduceIte, Bool.false_eq_true] <;> rfl))
      · refine z_icm1 g dX0_takeDigit_34 ?_
        exact hret _ _ _ _ dX0_takeDigit_35 ((by simp only [dgV, dgP, dgD, if_neg b4, if_neg b26, if_neg b31, reduceIte, Bool.false_eq_true] <;> rfl)) ((by simp only [dgN, dgP, dgD, if_neg b4, if_neg b26, if_neg b31, reduceIte, Bool.false_eq_true] <;> rfl))
  · refine z_icm1 g dX0_takeDigit_7 ?_
    refine z_goto g 23 dX0_takeDigit_8 (by decide) ?_
    refine z_istore_n (lv' := [(3, .int _), (0, .ref _), (1, .int _), (2, .int _)]) g dX0_takeDigit_23 (by decide) rfl ?_
    refine z_iload_n g dX0_takeDigit_24 0 rfl ?_
    refine z_iload_n g dX0_takeDigit_25 2 rfl ?_
    refine z_ic_lt g (tgt := 34) dX0_takeDigit_26 (by decide) (fun b26 => ?_) (fun b26 => ?_)
    · refine z_icm1 g dX0_takeDigit_34 ?_
      exact hret _ _ _ _ dX0_takeDigit_35 ((by simp only [dgV, dgP, dgD, if_pos b4, if_pos b26, reduceIte, Bool.false_eq_true] <;> rfl)) ((by simp only [dgN, dgP, dgD, if_pos b4, if_pos b26, reduceIte, Bool.false_eq_true] <;> rfl))
    · refine z_iload_n g dX0_takeDigit_29 0 rfl ?_
      refine z_iload_n g dX0_takeDigit_30 3 rfl ?_
      refine z_ic_le g (tgt := 36) dX0_takeDigit_31 (by decide) (fun b31 => ?_) (fun b31 => ?_)
      · refine z_aload_n g dX0_takeDigit_36 1 rfl ?_
        refine z_dup g dX0_takeDigit_37 rfl ?_
        refine z_get g hX0 0 rfl rfl 2 (by decide) (mi 2 rfl) rfl dX0_takeDigit_38 ?_
        refine z_ic1 g dX0_takeDigit_41 ?_
        refine z_iadd g dX0_takeDigit_42 ?_
        refine z_ti (y := nI (i + 1)) (nI_1 i) ?_
        refine z_put (w' := [(_, .inr (0, [_, _, _])), _]) g hX0 tyX0 tyX0_ok nmX0 0 rfl rfl 2 (by decide) (mi 2 rfl) rfl rfl rfl (Nat.le_of_ble_eq_true rfl) dX0_takeDigit_43 rfl ?_
        refine z_iload_n g dX0_takeDigit_46 0 rfl ?_
        exact hret _ _ _ _ dX0_takeDigit_47 ((by simp only [dgV, dgP, dgD, if_pos b4, if_neg b26, if_pos b31, reduceIte, Bool.false_eq_true] <;> rfl)) ((by simp only [dgN, dgP, dgD, if_pos b4, if_neg b26, if_pos b31, reduceIte, Bool.false_eq_true] <;> rfl))
      · refine z_icm1 g dX0_takeDigit_34 ?_
        exact hret _ _ _ _ dX0_takeDigit_35 ((by simp only [dgV, dgP, dgD, if_pos b4, if_neg b26, if_neg b31, reduceIte, Bool.false_eq_true] <;> rfl)) ((by simp only [dgN, dgP, dgD, if_pos b4, if_neg b26, if_neg b31, reduceIte, Bool.false_eq_true] <;> rfl))
theorem nd_X0_takeDigit : yX0_takeDigit.cls = RX0 ∧ yX0_takeDigit.cls ≠ "java/lang/invoke/MethodHandle" ∧ yX0_takeDigit.cls ≠ "java/lang/invoke/VarHandle" ∧ (parseMethodDescriptor yX0_takeDigit.desc).map (fun d => d.parameters.length) = some 2 := by decide +kernel
set_option maxHeartbeats 4000000 in
set_option maxRecDepth 100000 in
/-- Arrays.fill(long[], long) -/
theorem k_J7_fill_d0a16 (l : Launch) (G : va_G) (k : Nat → ClassId) (h0 n : Nat) (f : Nat → Int64) (p0 : Int64) (hn : n < 2 ^ 31) : ∀ sz, Met l yJ7_fill_d0a16 wsJ7_fill_d0a16 ({ frames := 0, cells := 0, slots := 0, locals := 0 }) (va_Pc [.ref h0, .long p0] (KP G k [(h0, .inl (k 2, n, .inr (.inl f)))] sz)) (va_Qv (fun (_ : Unit) => True) (KQ G [(h0, .inl (k 2, n, .inr (.inl (fun _ => p0))))] (va_A [(h0, .inl (k 2, n, .inr (.inl f)))] sz)) (va_A [(h0, .inl (k 2, n, .inr (.inl f)))] sz)) 0 0 (va_A [(h0, .inl (k 2, n, .inr (.inl f)))] sz) := by
  refine met_v 0 0 (lv0 := [(0, .ref h0), (1, .long p0)]) (own := RJ7) (by decide) rfl rfl (Nat.le_of_ble_eq_true rfl) rfl (fun Z g hret => ?_)
  refine z_ic0 g dJ7_fill_d0a16_0 ?_
  refine z_istore_n (lv' := [(3, .int _), (0, .ref _), (1, .long _)]) g dJ7_fill_d0a16_1 (by decide) rfl ?_
  refine z_aload_n g dJ7_fill_d0a16_2 1 rfl ?_
  refine z_alen g 0 2 rfl rfl (nI n) rfl dJ7_fill_d0a16_3 ?_
  refine z_istore (lv' := [(4, .int _), (3, .int _), (0, .ref _), (1, .long _)]) g dJ7_fill_d0a16_4 (by decide) rfl ?_
  have cut_6 : ∀ (N6 : Nat) (j : Nat) (f' : Nat → Int64), n - j < N6 → (j ≤ n) → (∀ i, i < j → f' i = p0) → Z 0 0 [(h0, .inl (k 2, n, .inr (.inl f')))] [(0, .ref h0), (1, .long p0), (3, .int (nI j)), (4, .int (nI n))] 6 [] := by
    intro N6
    induction N6 with
    | zero => intro j f' hms; exact absurd hms (Nat.not_lt_zero _)
    | succ N6 ih6 =>
      intro j f' hms6 hj hI
      refine z_iload_n g dJ7_fill_d0a16_6 2 rfl ?_
      refine z_iload g dJ7_fill_d0a16_7 3 rfl ?_
      refine z_n_ge g (a := j) (b := n) (tgt := 22) (by omega) (by omega) dJ7_fill_d0a16_9 (by decide) (fun b9 => ?_) (fun b9 => ?_)
      · refine z_eqL (w' := [_]) g (fun _ => p0) 0 rfl (fun i h => hI i (by omega)) rfl ?_
        exact hret _ _ _ dJ7_fill_d0a16_22 (rfl)
      · refine z_aload_n g dJ7_fill_d0a16_12 0 rfl ?_
        refine z_iload_n g dJ7_fill_d0a16_13 2 rfl ?_
        refine z_lload_n g dJ7_fill_d0a16_14 1 rfl ?_
        refine z_last (w' := [_]) g 0 rfl j rfl (by omega) (by assumption) dJ7_fill_d0a16_15 rfl ?_
        refine z_inc (lv' := [(3, .int _), (0, .ref _), (1, .long _), (4, .int _)]) g dJ7_fill_d0a16_16 2 rfl (by decide) rfl ?_
        refine z_goto g 6 dJ7_fill_d0a16_19 (by decide) ?_
        refine z_locs (lv' := [(0, .ref _), (1, .long _), (3, .int _), (4, .int _)]) g [1, 2, 0, 3] rfl ?_
        exact ih6 _ _ (by omega) (by omega) (fun i h => by unfold vp_updL; split; rfl; exact hI i (by omega))
  refine z_locs (lv' := [(0, .ref _), (1, .long _), (3, .int _), (4, .int _)]) g [2, 3, 1, 0] rfl ?_
  exact cut_6 _ _ _ (Nat.lt_succ_self _) (Nat.zero_le _) (fun i h => absurd h (Nat.not_lt_zero _))
theorem nd_J7_fill_d0a16 : yJ7_fill_d0a16.cls ≠ "java/lang/invoke/MethodHandle" ∧ yJ7_fill_d0a16.cls ≠ "java/lang/invoke/VarHandle" ∧ (parseMethodDescriptor yJ7_fill_d0a16.desc).map (fun d => d.parameters.length) = some 2 := by decide +kernel
set_option maxHeartbeats 4000000 in
set_option maxRecDepth 100000 in
/-- Polynomial.becomeZero() -/
theorem k_X1_becomeZero (l : Launch) (G : va_G) (k : Nat → ClassId) (h0 h1 : Nat) (f : Nat → Int64) : ∀ sz, Met l yX1_becomeZero wsX1_becomeZero ({ frames := 1, cells := 0, slots := 0, locals := 24 }) (va_Pc [.ref h0] (KP G k [(h0, .inr (1, [.ref h1])), (h1, .inl (k 2, 7, .inr (.inl f)))] sz)) (va_Qv (fun (_ : Unit) => True) (KQ G [(h0, .inr (1, [.ref h1])), (h1, .inl (k 2, 7, .inr (.inl (fun _ => 0))))] (va_A [(h0, .inr (1, [.ref h1])), (h1, .inl (k 2, 7, .inr (.inl f)))] sz)) (va_A [(h0, .inr (1, [.ref h1])), (h1, .inl (k 2, 7, .inr (.inl f)))] sz)) 0 0 (va_A [(h0, .inr (1, [.ref h1])), (h1, .inl (k 2, 7, .inr (.inl f)))] sz) := by
  refine met_v 0 0 (lv0 := [(0, .ref h0)]) (own := RX1) (by decide) rfl rfl (Nat.le_of_ble_eq_true rfl) rfl (fun Z g hret => ?_)
  have hX1 : ∀ w ∈ u_ws RX1 TX1 1, w ∈ wsX1_becomeZero := fun w h => List.mem_cons_of_mem _ (List.mem_append_right _ (h))
  refine z_aload_n g dX1_becomeZero_0 0 rfl ?_
  refine z_get g hX1 0 rfl rfl 0 (by decide) (mi 1 rfl) rfl dX1_becomeZero_1 ?_
  refine z_lc0 g dX1_becomeZero_4 ?_
  refine z_callSv (w' := [_, _]) (wr := [_]) g (k_J7_fill_d0a16 l G k _ _ _ _ (by decide)) 2 gX1_becomeZero_J7_fill_d0a16 rfl rfl rfl nd_J7_fill_d0a16 ⟨by decide, by decide⟩ [1] [0] [0, 1] rfl rfl rfl rfl (by decide) rfl rfl rfl rfl (Nat.le_of_ble_eq_true rfl) dX1_becomeZero_5 ⟨by decide, by decide⟩ ?_
  exact hret _ _ _ dX1_becomeZero_8 (rfl)
theorem nd_X1_becomeZero : yX1_becomeZero.cls = RX1 ∧ yX1_becomeZero.cls ≠ "java/lang/invoke/MethodHandle" ∧ yX1_becomeZero.cls ≠ "java/lang/invoke/VarHandle" ∧ (parseMethodDescriptor yX1_becomeZero.desc).map (fun d => d.parameters.length) = some 0 := by decide +kernel
set_option maxHeartbeats 4000000 in
set_option maxRecDepth 100000 in
/-- Polynomial.becomeOne() -/
theorem k_X1_becomeOne (l : Launch) (G : va_G) (k : Nat → ClassId) (h0 h1 : Nat) (f : Nat → Int64) : ∀ sz, Met l yX1_becomeOne wsX1_becomeOne ({ frames := 2, cells := 0, slots := 0, locals := 44 }) (va_Pc [.ref h0] (KP G k [(h0, .inr (1, [.ref h1])), (h1, .inl (k 2, 7, .inr (.inl f)))] sz)) (va_Qv (fun (_ : Unit) => True) (KQ G [(h0, .inr (1, [.ref h1])), (h1, .inl (k 2, 7, .inr (.inl oneP)))] (va_A [(h0, .inr (1, [.ref h1])), (h1, .inl (k 2, 7, .inr (.inl f)))] sz)) (va_A [(h0, .inr (1, [.ref h1])), (h1, .inl (k 2, 7, .inr (.inl f)))] sz)) 0 0 (va_A [(h0, .inr (1, [.ref h1])), (h1, .inl (k 2, 7, .inr (.inl f)))] sz) := by
  refine met_v 0 0 (lv0 := [(0, .ref h0)]) (own := RX1) (by decide) rfl rfl (Nat.le_of_ble_eq_true rfl) rfl (fun Z g hret => ?_)
  have hX1 : ∀ w ∈ u_ws RX1 TX1 1, w ∈ wsX1_becomeOne := fun w h => List.mem_cons_of_mem _ (List.mem_append_right _ (h))
  refine z_aload_n g dX1_becomeOne_0 0 rfl ?_
  refine z_callVv (w' := [_, _]) (wr := []) g (k_X1_becomeZero l G k _ _ _) 0 gX1_becomeOne_X1_becomeZero rfl rfl rfl nd_X1_becomeZero ⟨by decide, by decide⟩ 0 rfl rfl [0, 1] [] [0, 1] rfl rfl rfl rfl (by decide) rfl rfl rfl rfl (Nat.le_of_ble_eq_true rfl) dX1_becomeOne_1 ⟨by decide, by decide⟩ ?_
  refine z_aload_n g dX1_becomeOne_4 0 rfl ?_
  refine z_get g hX1 0 rfl rfl 0 (by decide) (mi 1 rfl) rfl dX1_becomeOne_5 ?_
  refine z_ic0 g dX1_becomeOne_8 ?_
  refine z_lc1 g dX1_becomeOne_9 ?_
  refine z_last (w' := [_, _]) g 1 rfl 0 rfl (by decide) (by decide) dX1_becomeOne_10 rfl ?_
  refine z_eqL (w' := [_, _]) g oneP 1 rfl (fun i h => rfl) rfl ?_
  exact hret _ _ _ dX1_becomeOne_11 (rfl)
theorem nd_X1_becomeOne : yX1_becomeOne.cls = RX1 ∧ yX1_becomeOne.cls ≠ "java/lang/invoke/MethodHandle" ∧ yX1_becomeOne.cls ≠ "java/lang/invoke/VarHandle" ∧ (parseMethodDescriptor yX1_becomeOne.desc).map (fun d => d.parameters.length) = some 0 := by decide +kernel
set_option maxHeartbeats 4000000 in
set_option maxRecDepth 100000 in
/-- Polynomial.become(other) -/
theorem k_X1_become (l : Launch) (G : va_G) (k : Nat → ClassId) (h0 h1 : Nat) (f : Nat → Int64) (h2 h3 : Nat) (h : Nat → Int64) : ∀ sz, Met l yX1_become wsX1_become ({ frames := 1, cells := 0, slots := 0, locals := 40 }) (va_Pc [.ref h0, .ref h2] (KP G k [(h0, .inr (1, [.ref h1])), (h1, .inl (k 2, 7, .inr (.inl f))), (h2, .inr (1, [.ref h3])), (h3, .inl (k 2, 7, .inr (.inl h)))] sz)) (va_Qv (fun (_ : Unit) => True) (KQ G [(h0, .inr (1, [.ref h1])), (h1, .inl (k 2, 7, .inr (.inl h))), (h2, .inr (1, [.ref h3])), (h3, .inl (k 2, 7, .inr (.inl h)))] (va_A [(h0, .inr (1, [.ref h1])), (h1, .inl (k 2, 7, .inr (.inl f))), (h2, .inr (1, [.ref h3])), (h3, .inl (k 2, 7, .inr (.inl h)))] sz)) (va_A [(h0, .inr (1, [.ref h1])), (h1, .inl (k 2, 7, .inr (.inl f))), (h2, .inr (1, [.ref h3])), (h3, .inl (k 2, 7, .inr (.inl h)))] sz)) 0 0 (va_A [(h0, .inr (1, [.ref h1])), (h1, .inl (k 2, 7, .inr (.inl f))), (h2, .inr (1, [.ref h3])), (h3, .inl (k 2, 7, .inr (.inl h)))] sz) := by
  refine met_v 0 0 (lv0 := [(0, .ref h0), (1, .ref h2)]) (own := RX1) (by decide) rfl rfl (Nat.le_of_ble_eq_true rfl) rfl (fun Z g hret => ?_)
  have hX1 : ∀ w ∈ u_ws RX1 TX1 1, w ∈ wsX1_become := fun w h => List.mem_cons_of_mem _ (List.mem_append_right _ (h))
  refine z_aload_n g dX1_become_0 1 rfl ?_
  refine z_get g hX1 2 rfl rfl 0 (by decide) (mi 1 rfl) rfl dX1_become_1 ?_
  refine z_ic0 g dX1_become_4 ?_
  refine z_aload_n g dX1_become_5 0 rfl ?_
  refine z_get g hX1 0 rfl rfl 0 (by decide) (mi 1 rfl) rfl dX1_become_6 ?_
  refine z_ic0 g dX1_become_9 ?_
  refine z_bi g 7 dX1_become_10 (by decide) ?_
  refine z_copyl (w' := [_, _, _, _]) g (mi 2 rfl) (mi 3 rfl) (mi 4 rfl) (mi 5 rfl) 3 1 rfl rfl 7 rfl (by decide) (by decide) (by decide) (by decide) (by decide) dX1_become_12 rfl ?_
  refine z_eqL (w' := [_, _, _, _]) g h 1 rfl (fun i hi => by rw [pk_cpy_in (Nat.zero_le _) (by omega)]; simp) rfl ?_
  exact hret _ _ _ dX1_become_15 (rfl)
theorem nd_X1_become : yX1_become.cls = RX1 ∧ yX1_become.cls ≠ "java/lang/invoke/MethodHandle" ∧ yX1_become.cls ≠ "java/lang/invoke/VarHandle" ∧ (parseMethodDescriptor yX1_become.desc).map (fun d => d.parameters.length) = some 1 := by decide +kernel
set_option maxHeartbeats 4000000 in
set_option maxRecDepth 100000 in
/-- Polynomial.get(power) -/
theorem k_X1_get (l : Launch) (G : va_G) (k : Nat → ClassId) (h0 h1 : Nat) (f : Nat → Int64) (p0 : Int32) : ∀ sz, Met l yX1_get wsX1_get ({ frames := 0, cells := 0, slots := 0, locals := 0 }) (va_Pc [.ref h0, .int p0] (KP G k [(h0, .inr (1, [.ref h1])), (h1, .inl (k 2, 7, .inr (.inl f)))] sz)) (va_Ql (fun r (_ : Unit) => r = getP f p0) (KQ G [(h0, .inr (1, [.ref h1])), (h1, .inl (k 2, 7, .inr (.inl f)))] (va_A [(h0, .inr (1, [.ref h1])), (h1, .inl (k 2, 7, .inr (.inl f)))] sz)) (va_A [(h0, .inr (1, [.ref h1])), (h1, .inl (k 2, 7, .inr (.inl f)))] sz)) 0 0 (va_A [(h0, .inr (1, [.ref h1])), (h1, .inl (k 2, 7, .inr (.inl f)))] sz) := by
  refine met_l 0 0 (lv0 := [(0, .ref h0), (1, .int p0)]) (own := RX1) (by decide) rfl rfl (Nat.le_of_ble_eq_true rfl) rfl (fun Z g hret => ?_)
  have hX1 : ∀ w ∈ u_ws RX1 TX1 1, w ∈ wsX1_get := fun w h => List.mem_cons_of_mem _ (List.mem_append_right _ (h))
  refine z_iload_n g dX1_get_0 1 rfl ?_
  refine z_if_lt g (tgt := 19) dX1_get_1 (by decide) (fun b1 => ?_) (fun b1 => ?_)
  · refine z_lc0 g dX1_get_19 ?_
    exact hret _ _ _ _ dX1_get_20 ((by simp only [getP, if_pos b1, reduceIte, Bool.false_eq_true] <;> rfl)) (rfl)
  · refine z_iload_n g dX1_get_4 1 rfl ?_
    refine z_bi g 6 dX1_get_5 (by decide) ?_
    refine z_ic_gt g (tgt := 19) dX1_get_7 (by decide) (fun b7 => ?_) (fun b7 => ?_)
    · refine z_lc0 g dX1_get_19 ?_
      exact hret _ _ _ _ dX1_get_20 ((by simp only [getP, if_neg b1, if_pos b7, reduceIte, Bool.false_eq_true] <;> rfl)) (rfl)
    · refine z_aload_n g dX1_get_10 0 rfl ?_
      refine z_get g hX1 0 rfl rfl 0 (by decide) (mi 1 rfl) rfl dX1_get_11 ?_
      refine z_iload_n g dX1_get_14 1 rfl ?_
      refine z_lald g 1 rfl p0.toNatClampNeg (ix6 b1 b7).1 (ix6 b1 b7).2 (by decide) dX1_get_15 ?_
      refine z_goto g 20 dX1_get_16 (by decide) ?_
      exact hret _ _ _ _ dX1_get_20 ((by simp only [getP, if_neg b1, if_neg b7, reduceIte, Bool.false_eq_true] <;> rfl)) (rfl)
theorem nd_X1_get : yX1_get.cls = RX1 ∧ yX1_get.cls ≠ "java/lang/invoke/MethodHandle" ∧ yX1_get.cls ≠ "java/lang/invoke/VarHandle" ∧ (parseMethodDescriptor yX1_get.desc).map (fun d => d.parameters.length) = some 1 := by decide +kernel
set_option maxHeartbeats 4000000 in
set_option maxRecDepth 100000 in
/-- Polynomial.add(amount, power) -/
theorem k_X1_add (l : Launch) (G : va_G) (k : Nat → ClassId) (h0 h1 : Nat) (f : Nat → Int64) (p0 : Int64) (p1 : Int32) : ∀ sz, Met l yX1_add wsX1_add ({ frames := 0, cells := 0, slots := 0, locals := 0 }) (va_Pc [.ref h0, .long p0, .int p1] (KP G k [(h0, .inr (1, [.ref h1])), (h1, .inl (k 2, 7, .inr (.inl f)))] sz)) (va_Qv (fun (_ : Unit) => True) (KQ G [(h0, .inr (1, [.ref h1])), (h1, .inl (k 2, 7, .inr (.inl (addP f p0 p1))))] (va_A [(h0, .inr (1, [.ref h1])), (h1, .inl (k 2, 7, .inr (.inl f)))] sz)) (va_A [(h0, .inr (1, [.ref h1])), (h1, .inl (k 2, 7, .inr (.inl f)))] sz)) 0 0 (va_A [(h0, .inr (1, [.ref h1])), (h1, .inl (k 2, 7, .inr (.inl f)))] sz) := by
  refine met_v 0 0 (lv0 := [(0, .ref h0), (1, .long p0), (3, .int p1)]) (own := RX1) (by decide) rfl rfl (Nat.le_of_ble_eq_true rfl) rfl (fun Z g hret => ?_)
  have hX1 : ∀ w ∈ u_ws RX1 TX1 1, w ∈ wsX1_add := fun w h => List.mem_cons_of_mem _ (List.mem_append_right _ (h))
  refine z_iload_n g dX1_add_0 2 rfl ?_
  refine z_if_lt g (tgt := 20) dX1_add_1 (by decide) (fun b1 => ?_) (fun b1 => ?_)
  · exact hret _ _ _ dX1_add_20 ((by simp only [addP, if_pos b1, reduceIte, Bool.false_eq_true] <;> rfl))
  · refine z_iload_n g dX1_add_4 2 rfl ?_
    refine z_bi g 6 dX1_add_5 (by decide) ?_
    refine z_ic_gt g (tgt := 20) dX1_add_7 (by decide) (fun b7 => ?_) (fun b7 => ?_)
    · exact hret _ _ _ dX1_add_20 ((by simp only [addP, if_neg b1, if_pos b7, reduceIte, Bool.false_eq_true] <;> rfl))
    · refine z_aload_n g dX1_add_10 0 rfl ?_
      refine z_get g hX1 0 rfl rfl 0 (by decide) (mi 1 rfl) rfl dX1_add_11 ?_
      refine z_iload_n g dX1_add_14 2 rfl ?_
      refine z_dup2 g dX1_add_15 rfl rfl ?_
      refine z_lald g 1 rfl p1.toNatClampNeg (ix6 b1 b7).1 (ix6 b1 b7).2 (by decide) dX1_add_16 ?_
      refine z_lload_n g dX1_add_17 1 rfl ?_
      refine z_ladd g dX1_add_18 ?_
      refine z_last (w' := [_, _]) g 1 rfl p1.toNatClampNeg (ix6 b1 b7).1 (ix6 b1 b7).2 (by decide) dX1_add_19 rfl ?_
      exact hret _ _ _ dX1_add_20 ((by simp only [addP, if_neg b1, if_neg b7, reduceIte, Bool.false_eq_true] <;> rfl))
theorem nd_X1_add : yX1_add.cls = RX1 ∧ yX1_add.cls ≠ "java/lang/invoke/MethodHandle" ∧ yX1_add.cls ≠ "java/lang/invoke/VarHandle" ∧ (parseMethodDescriptor yX1_add.desc).map (fun d => d.parameters.length) = some 2 := by decide +kernel
set_option maxHeartbeats 4000000 in
set_option maxRecDepth 100000 in
/-- Polynomial.degree() -/
theorem k_X1_degree (l : Launch) (G : va_G) (k : Nat → ClassId) (h0 h1 : Nat) (f : Nat → Int64) : ∀ sz, Met l yX1_degree wsX1_degree ({ frames := 0, cells := 0, slots := 0, locals := 0 }) (va_Pc [.ref h0] (KP G k [(h0, .inr (1, [.ref h1])), (h1, .inl (k 2, 7, .inr (.inl f)))] sz)) (va_Qi (fun r (_ : Unit) => r = nI (degP f 6)) (KQ G [(h0, .inr (1, [.ref h1])), (h1, .inl (k 2, 7, .inr (.inl f)))] (va_A [(h0, .inr (1, [.ref h1])), (h1, .inl (k 2, 7, .inr (.inl f)))] sz)) (va_A [(h0, .inr (1, [.ref h1])), (h1, .inl (k 2, 7, .inr (.inl f)))] sz)) 0 0 (va_A [(h0, .inr (1, [.ref h1])), (h1, .inl (k 2, 7, .inr (.inl f)))] sz) := by
  refine met_i 0 0 (lv0 := [(0, .ref h0)]) (own := RX1) (by decide) rfl rfl (Nat.le_of_ble_eq_true rfl) rfl (fun Z g hret => ?_)
  have hX1 : ∀ w ∈ u_ws RX1 TX1 1, w ∈ wsX1_degree := fun w h => List.mem_cons_of_mem _ (List.mem_append_right _ (h))
  refine z_bi g 6 dX1_degree_0 (by decide) ?_
  refine z_istore_n (lv' := [(1, .int _), (0, .ref _)]) g dX1_degree_2 (by decide) rfl ?_
  have cut_3 : ∀ (N3 : Nat) (j : Nat), j < N3 → (j ≤ 6) → (degP f j = degP f 6) → Z 0 0 [(h0, .inr (1, [.ref h1])), (h1, .inl (k 2, 7, .inr (.inl f)))] [(0, .ref h0), (1, .int (nI j))] 3 [] := by
    intro N3
    induction N3 with
    | zero => intro j hms; exact absurd hms (Nat.not_lt_zero _)
    | succ N3 ih3 =>
      intro j hms3 hj hI
      refine z_iload_n g dX1_degree_3 1 rfl ?_
      refine z_if_le g (tgt := 24) dX1_degree_4 (by decide) (fun b4 => ?_) (fun b4 => ?_)
      · refine z_iload_n g dX1_degree_24 1 rfl ?_
        exact hret _ _ _ _ dX1_degree_25 ((by first | (rw [← hI]; simp [degP, *]; done) | (rcases j with _ | j; (rw [← hI]; rfl); exact absurd b4 (nI_nle (by omega) (by omega))))) (rfl)
      · obtain ⟨j, rfl⟩ : ∃ i, j = i + 1 := ⟨j - 1, by rcases j with _ | j; exact absurd (by decide) b4; rfl⟩
        refine z_aload_n g dX1_degree_7 0 rfl ?_
        refine z_get g hX1 0 rfl rfl 0 (by decide) (mi 1 rfl) rfl dX1_degree_8 ?_
        refine z_iload_n g dX1_degree_11 1 rfl ?_
        refine z_lald g 1 rfl (j + 1) rfl (by omega) (by decide) dX1_degree_12 ?_
        refine z_lc0 g dX1_degree_13 ?_
        refine z_lc_ne g (tgt := 24) dX1_degree_14 dX1_degree_15 (by decide) (fun b14 => ?_) (fun b14 => ?_)
        · refine z_iload_n g dX1_degree_24 1 rfl ?_
          exact hret _ _ _ _ dX1_degree_25 ((by first | (rw [← hI]; simp [degP, *]; done) | (rcases j with _ | j; (rw [← hI]; rfl); exact absurd b4 (nI_nle (by omega) (by omega))))) (rfl)
        · refine z_dec (lv' := [(1, .int _), (0, .ref _)]) g dX1_degree_18 1 rfl (by decide) rfl ?_
          refine z_goto g 3 dX1_degree_21 (by decide) ?_
          refine z_locs (lv' := [(0, .ref _), (1, .int _)]) g [1, 0] rfl ?_
          exact ih3 _ (by omega) (by omega) (by rw [← hI]; simp [degP, *])
  refine z_locs (lv' := [(0, .ref _), (1, .int _)]) g [1, 0] rfl ?_
  exact cut_3 _ 6 (Nat.lt_succ_self _) (by decide) rfl
theorem nd_X1_degree : yX1_degree.cls = RX1 ∧ yX1_degree.cls ≠ "java/lang/invoke/MethodHandle" ∧ yX1_degree.cls ≠ "java/lang/invoke/VarHandle" ∧ (parseMethodDescriptor yX1_degree.desc).map (fun d => d.parameters.length) = some 0 := by decide +kernel
set_option maxHeartbeats 4000000 in
set_option maxRecDepth 100000 in
/-- Polynomial.multiplyByFactorOf(root) -/
theorem k_X1_multiplyByFactorOf (l : Launch) (G : va_G) (k : Nat → ClassId) (h0 h1 : Nat) (f : Nat → Int64) (p0 : Int32) : ∀ sz, Met l yX1_multiplyByFactorOf wsX1_multiplyByFactorOf ({ frames := 0, cells := 0, slots := 0, locals := 0 }) (va_Pc [.ref h0, .int p0] (KP G k [(h0, .inr (1, [.ref h1])), (h1, .inl (k 2, 7, .inr (.inl f)))] sz)) (va_Qv (fun (_ : Unit) => True) (KQ G [(h0, .inr (1, [.ref h1])), (h1, .inl (k 2, 7, .inr (.inl (mulP f p0))))] (va_A [(h0, .inr (1, [.ref h1])), (h1, .inl (k 2, 7, .inr (.inl f)))] sz)) (va_A [(h0, .inr (1, [.ref h1])), (h1, .inl (k 2, 7, .inr (.inl f)))] sz)) 0 0 (va_A [(h0, .inr (1, [.ref h1])), (h1, .inl (k 2, 7, .inr (.inl f)))] sz) := by
  refine met_v 0 0 (lv0 := [(0, .ref h0), (1, .int p0)]) (own := RX1) (by decide) rfl rfl (Nat.le_of_ble_eq_true rfl) rfl (fun Z g hret => ?_)
  have hX1 : ∀ w ∈ u_ws RX1 TX1 1, w ∈ wsX1_multiplyByFactorOf := fun w h => List.mem_cons_of_mem _ (List.mem_append_right _ (h))
  refine z_bi g 6 dX1_multiplyByFactorOf_0 (by decide) ?_
  refine z_istore_n (lv' := [(2, .int _), (0, .ref _), (1, .int _)]) g dX1_multiplyByFactorOf_2 (by decide) rfl ?_
  have cut_3 : ∀ (N3 : Nat) (j : Nat) (f' : Nat → Int64), j < N3 → (j ≤ 6) → (∀ i, i < 7 → f' i = if j < i then f (i - 1) - p0.toInt64 * f i else f i) → Z 0 0 [(h0, .inr (1, [.ref h1])), (h1, .inl (k 2, 7, .inr (.inl f')))] [(0, .ref h0), (1, .int p0), (2, .int (nI j))] 3 [] := by
    intro N3
    induction N3 with
    | zero => intro j f' hms; exact absurd hms (Nat.not_lt_zero _)
    | succ N3 ih3 =>
      intro j f' hms3 hj hI
      refine z_iload_n g dX1_multiplyByFactorOf_3 2 rfl ?_
      refine z_if_le g (tgt := 37) dX1_multiplyByFactorOf_4 (by decide) (fun b4 => ?_) (fun b4 => ?_)
      · obtain rfl : j = 0 := by rcases j with _ | j; rfl; exact absurd b4 (nI_nle (by omega) (by omega))
        refine z_aload_n g dX1_multiplyByFactorOf_37 0 rfl ?_
        refine z_get g hX1 0 rfl rfl 0 (by decide) (mi 1 rfl) rfl dX1_multiplyByFactorOf_38 ?_
        refine z_ic0 g dX1_multiplyByFactorOf_41 ?_
        refine z_iload_n g dX1_multiplyByFactorOf_42 1 rfl ?_
        refine z_ineg g dX1_multiplyByFactorOf_43 ?_
        refine z_i2l g dX1_multiplyByFactorOf_44 ?_
        refine z_aload_n g dX1_multiplyByFactorOf_45 0 rfl ?_
        refine z_get g hX1 0 rfl rfl 0 (by decide) (mi 1 rfl) rfl dX1_multiplyByFactorOf_46 ?_
        refine z_ic0 g dX1_multiplyByFactorOf_49 ?_
        refine z_lald g 1 rfl 0 rfl (by decide) (by decide) dX1_multiplyByFactorOf_50 ?_
        refine z_lmul g dX1_multiplyByFactorOf_51 ?_
        refine z_last (w' := [_, _]) g 1 rfl 0 rfl (by decide) (by decide) dX1_multiplyByFactorOf_52 rfl ?_
        refine z_eqL (w' := [_, _]) g (mulP f p0) 1 rfl (fun i h => by unfold vp_updL mulP; split; (next e => subst e; rw [hI 0 (by omega), if_neg (by omega)]); (next e => rw [hI i h, if_pos (by omega)])) rfl ?_
        exact hret _ _ _ dX1_multiplyByFactorOf_53 (rfl)
      · obtain ⟨j, rfl⟩ : ∃ i, j = i + 1 := ⟨j - 1, by rcases j with _ | j; exact absurd (by decide) b4; rfl⟩
        refine z_aload_n g dX1_multiplyByFactorOf_7 0 rfl ?_
        refine z_get g hX1 0 rfl rfl 0 (by decide) (mi 1 rfl) rfl dX1_multiplyByFactorOf_8 ?_
        refine z_iload_n g dX1_multiplyByFactorOf_11 2 rfl ?_
        refine z_aload_n g dX1_multiplyByFactorOf_12 0 rfl ?_
        refine z_get g hX1 0 rfl rfl 0 (by decide) (mi 1 rfl) rfl dX1_multiplyByFactorOf_13 ?_
        refine z_iload_n g dX1_multiplyByFactorOf_16 2 rfl ?_
        refine z_ic1 g dX1_multiplyByFactorOf_17 ?_
        refine z_isub g dX1_multiplyByFactorOf_18 ?_
        refine z_lald g 1 rfl j (nI_pred j) (by omega) (by decide) dX1_multiplyByFactorOf_19 ?_
        refine z_iload_n g dX1_multiplyByFactorOf_20 1 rfl ?_
        refine z_i2l g dX1_multiplyByFactorOf_21 ?_
        refine z_aload_n g dX1_multiplyByFactorOf_22 0 rfl ?_
        refine z_get g hX1 0 rfl rfl 0 (by decide) (mi 1 rfl) rfl dX1_multiplyByFactorOf_23 ?_
        refine z_iload_n g dX1_multiplyByFactorOf_26 2 rfl ?_
        refine z_lald g 1 rfl (j + 1) rfl (by omega) (by decide) dX1_multiplyByFactorOf_27 ?_
        refine z_lmul g dX1_multiplyByFactorOf_28 ?_
        refine z_lsub g dX1_multiplyByFactorOf_29 ?_
        refine z_last (w' := [_, _]) g 1 rfl (j + 1) rfl (by omega) (by decide) dX1_multiplyByFactorOf_30 rfl ?_
        refine z_dec (lv' := [(2, .int _), (0, .ref _), (1, .int _)]) g dX1_multiplyByFactorOf_31 2 rfl (by decide) rfl ?_
        refine z_goto g 3 dX1_multiplyByFactorOf_34 (by decide) ?_
        refine z_locs (lv' := [(0, .ref _), (1, .int _), (2, .int _)]) g [1, 2, 0] rfl ?_
        exact ih3 _ _ (by omega) (by omega) (fun i h => by unfold vp_updL; split; (next e => subst e; rw [hI j (by omega), hI (j + 1) h, if_neg (by omega), if_neg (by omega), if_pos (by omega)]; rfl); (next e => rw [hI i h]; by_cases e2 : j + 1 < i; (rw [if_pos e2, if_pos (by omega)]); (rw [if_neg e2, if_neg (by omega)])))
  refine z_locs (lv' := [(0, .ref _), (1, .int _), (2, .int _)]) g [1, 2, 0] rfl ?_
  exact cut_3 _ 6 f (Nat.lt_succ_self _) (by decide) (fun i h => by rw [if_neg (by omega)])
theorem nd_X1_multiplyByFactorOf : yX1_multiplyByFactorOf.cls = RX1 ∧ yX1_multiplyByFactorOf.cls ≠ "java/lang/invoke/MethodHandle" ∧ yX1_multiplyByFactorOf.cls ≠ "java/lang/invoke/VarHandle" ∧ (parseMethodDescriptor yX1_multiplyByFactorOf.desc).map (fun d => d.parameters.length) = some 1 := by decide +kernel
set_option maxHeartbeats 4000000 in
set_option maxRecDepth 100000 in
/-- Polynomial.divideByFactorOf(root) -/
theorem k_X1_divideByFactorOf (l : Launch) (G : va_G) (k : Nat → ClassId) (h0 h1 : Nat) (f : Nat → Int64) (p0 : Int32) : ∀ sz, Met l yX1_divideByFactorOf wsX1_divideByFactorOf ({ frames := 0, cells := 0, slots := 0, locals := 0 }) (va_Pc [.ref h0, .int p0] (KP G k [(h0, .inr (1, [.ref h1])), (h1, .inl (k 2, 7, .inr (.inl f)))] sz)) (va_Ql (fun r (_ : Unit) => r = hrn f p0.toInt64 7) (KQ G [(h0, .inr (1, [.ref h1])), (h1, .inl (k 2, 7, .inr (.inl (dvP f p0))))] (va_A [(h0, .inr (1, [.ref h1])), (h1, .inl (k 2, 7, .inr (.inl f)))] sz)) (va_A [(h0, .inr (1, [.ref h1])), (h1, .inl (k 2, 7, .inr (.inl f)))] sz)) 0 0 (va_A [(h0, .inr (1, [.ref h1])), (h1, .inl (k 2, 7, .inr (.inl f)))] sz) := by
  refine met_l 0 0 (lv0 := [(0, .ref h0), (1, .int p0)]) (own := RX1) (by decide) rfl rfl (Nat.le_of_ble_eq_true rfl) rfl (fun Z g hret => ?_)
  have hX1 : ∀ w ∈ u_ws RX1 TX1 1, w ∈ wsX1_divideByFactorOf := fun w h => List.mem_cons_of_mem _ (List.mem_append_right _ (h))
  refine z_lc0 g dX1_divideByFactorOf_0 ?_
  refine z_lstore_n (lv' := [(2, .long _), (0, .ref _), (1, .int _)]) g dX1_divideByFactorOf_1 (by decide) rfl ?_
  refine z_bi g 6 dX1_divideByFactorOf_2 (by decide) ?_
  refine z_istore (lv' := [(4, .int _), (2, .long _), (0, .ref _), (1, .int _)]) g dX1_divideByFactorOf_4 (by decide) rfl ?_
  have cut_6 : ∀ (N6 : Nat) (j : Nat) (c : Int64) (f' : Nat → Int64), j < N6 → (j ≤ 7) → (c = hrn f p0.toInt64 (7 - j)) → (∀ i, i < 7 → f' i = if j ≤ i then hrn f p0.toInt64 (6 - i) else f i) → Z 0 0 [(h0, .inr (1, [.ref h1])), (h1, .inl (k 2, 7, .inr (.inl f')))] [(0, .ref h0), (1, .int p0), (2, .long c), (4, .int (nI j - 1))] 6 [] := by
    intro N6
    induction N6 with
    | zero => intro j c f' hms; exact absurd hms (Nat.not_lt_zero _)
    | succ N6 ih6 =>
      intro j c f' hms6 hj hc hI
      refine z_iload g dX1_divideByFactorOf_6 3 rfl ?_
      refine z_if_lt g (tgt := 42) dX1_divideByFactorOf_8 (by decide) (fun b8 => ?_) (fun b8 => ?_)
      · obtain rfl := nIm_neg b8 (by omega)
        refine z_lload_n g dX1_divideByFactorOf_42 2 rfl ?_
        refine z_eqL (w' := [_, _]) g (dvP f p0) 1 rfl (fun i h => by rw [hI i h, if_pos (by omega)]; rfl) rfl ?_
        exact hret _ _ _ _ dX1_divideByFactorOf_43 (hc) (rfl)
      · obtain ⟨j, rfl⟩ := nIm_pos b8
        refine z_aload_n g dX1_divideByFactorOf_11 0 rfl ?_
        refine z_get g hX1 0 rfl rfl 0 (by decide) (mi 1 rfl) rfl dX1_divideByFactorOf_12 ?_
        refine z_iload g dX1_divideByFactorOf_15 3 rfl ?_
        refine z_lald g 1 rfl j (nI_pred j) (by omega) (by decide) dX1_divideByFactorOf_17 ?_
        refine z_iload_n g dX1_divideByFactorOf_18 1 rfl ?_
        refine z_i2l g dX1_divideByFactorOf_19 ?_
        refine z_lload_n g dX1_divideByFactorOf_20 2 rfl ?_
        refine z_lmul g dX1_divideByFactorOf_21 ?_
        refine z_ladd g dX1_divideByFactorOf_22 ?_
        refine z_lstore (lv' := [(5, .long _), (0, .ref _), (1, .int _), (2, .long _), (4, .int _)]) g dX1_divideByFactorOf_23 (by decide) rfl ?_
        refine z_aload_n g dX1_divideByFactorOf_25 1 rfl ?_
        refine z_get g hX1 0 rfl rfl 0 (by decide) (mi 1 rfl) rfl dX1_divideByFactorOf_26 ?_
        refine z_iload g dX1_divideByFactorOf_29 4 rfl ?_
        refine z_lload_n g dX1_divideByFactorOf_31 3 rfl ?_
        refine z_last (w' := [_, _]) g 1 rfl j (nI_pred j) (by omega) (by decide) dX1_divideByFactorOf_32 rfl ?_
        refine z_lload g dX1_divideByFactorOf_33 0 rfl ?_
        refine z_lstore_n (lv' := [(2, .long _), (5, .long _), (0, .ref _), (1, .int _), (4, .int _)]) g dX1_divideByFactorOf_35 (by decide) rfl ?_
        refine z_iinc (lv' := [(4, .int _), (2, .long _), (5, .long _), (0, .ref _), (1, .int _)]) g (nI j - 1) dX1_divideByFactorOf_36 4 rfl (nIm_dec j) (by decide) rfl ?_
        refine z_goto g 6 dX1_divideByFactorOf_39 (by decide) ?_
        refine z_locs (lv' := [(0, .ref _), (1, .int _), (2, .long _), (4, .int _)]) g [3, 4, 1, 0] rfl ?_
        exact ih6 _ _ _ (by omega) (by omega) (by rw [show 7 - j = (7 - (j + 1)) + 1 by omega]; show _ = f (6 - (7 - (j + 1))) + _ * hrn f _ (7 - (j + 1)); rw [← hc, hI j (by omega), if_neg (by omega), show 6 - (7 - (j + 1)) = j by omega]) (fun i h => by unfold vp_updL; split; (next e => subst e; rw [if_pos (by omega), hc, show 7 - (i + 1) = 6 - i by omega]); (next e => rw [hI i h]; by_cases e2 : j + 1 ≤ i; (rw [if_pos e2, if_pos (by omega)]); (rw [if_neg e2, if_neg (by omega)])))
  refine z_locs (lv' := [(0, .ref _), (1, .int _), (2, .long _), (4, .int _)]) g [2, 3, 1, 0] rfl ?_
  exact cut_6 _ 7 0 f (Nat.lt_succ_self _) (by decide) rfl (fun i h => by rw [if_neg (by omega)])
theorem nd_X1_divideByFactorOf : yX1_divideByFactorOf.cls = RX1 ∧ yX1_divideByFactorOf.cls ≠ "java/lang/invoke/MethodHandle" ∧ yX1_divideByFactorOf.cls ≠ "java/lang/invoke/VarHandle" ∧ (parseMethodDescriptor yX1_divideByFactorOf.desc).map (fun d => d.parameters.length) = some 1 := by decide +kernel
set_option maxHeartbeats 4000000 in
set_option maxRecDepth 100000 in
/-- Polynomial.mix(own, others, other) -/
theorem k_X1_mix (l : Launch) (G : va_G) (k : Nat → ClassId) (h0 h1 : Nat) (f : Nat → Int64) (p0 p1 : Int64) (h2 h3 : Nat) (h : Nat → Int64) : ∀ sz, Met l yX1_mix wsX1_mix ({ frames := 0, cells := 0, slots := 0, locals := 0 }) (va_Pc [.ref h0, .long p0, .long p1, .ref h2] (KP G k [(h0, .inr (1, [.ref h1])), (h1, .inl (k 2, 7, .inr (.inl f))), (h2, .inr (1, [.ref h3])), (h3, .inl (k 2, 7, .inr (.inl h)))] sz)) (va_Qv (fun (_ : Unit) => True) (KQ G [(h0, .inr (1, [.ref h1])), (h1, .inl (k 2, 7, .inr (.inl (mixP p0 p1 f h)))), (h2, .inr (1, [.ref h3])), (h3, .inl (k 2, 7, .inr (.inl h)))] (va_A [(h0, .inr (1, [.ref h1])), (h1, .inl (k 2, 7, .inr (.inl f))), (h2, .inr (1, [.ref h3])), (h3, .inl (k 2, 7, .inr (.inl h)))] sz)) (va_A [(h0, .inr (1, [.ref h1])), (h1, .inl (k 2, 7, .inr (.inl f))), (h2, .inr (1, [.ref h3])), (h3, .inl (k 2, 7, .inr (.inl h)))] sz)) 0 0 (va_A [(h0, .inr (1, [.ref h1])), (h1, .inl (k 2, 7, .inr (.inl f))), (h2, .inr (1, [.ref h3])), (h3, .inl (k 2, 7, .inr (.inl h)))] sz) := by
  refine met_v 0 0 (lv0 := [(0, .ref h0), (1, .long p0), (3, .long p1), (5, .ref h2)]) (own := RX1) (by decide) rfl rfl (Nat.le_of_ble_eq_true rfl) rfl (fun Z g hret => ?_)
  have hX1 : ∀ w ∈ u_ws RX1 TX1 1, w ∈ wsX1_mix := fun w h => List.mem_cons_of_mem _ (List.mem_append_right _ (h))
  refine z_ic0 g dX1_mix_0 ?_
  refine z_istore (lv' := [(6, .int _), (0, .ref _), (1, .long _), (3, .long _), (5, .ref _)]) g dX1_mix_1 (by decide) rfl ?_
  have cut_3 : ∀ (N3 : Nat) (j : Nat) (f' : Nat → Int64), 7 - j < N3 → (j ≤ 7) → (∀ i, i < 7 → f' i = if i < j then p0 * f i + p1 * h i else f i) → Z 0 0 [(h0, .inr (1, [.ref h1])), (h1, .inl (k 2, 7, .inr (.inl f'))), (h2, .inr (1, [.ref h3])), (h3, .inl (k 2, 7, .inr (.inl h)))] [(0, .ref h0), (1, .long p0), (3, .long p1), (5, .ref h2), (6, .int (nI j))] 3 [] := by
    intro N3
    induction N3 with
    | zero => intro j f' hms; exact absurd hms (Nat.not_lt_zero _)
    | succ N3 ih3 =>
      intro j f' hms3 hj hI
      refine z_iload g dX1_mix_3 4 rfl ?_
      refine z_bi g 6 dX1_mix_5 (by decide) ?_
      refine z_n_gt g (a := j) (b := 6) (tgt := 43) (by omega) (by omega) dX1_mix_7 (by decide) (fun b7 => ?_) (fun b7 => ?_)
      · refine z_eqL (w' := [_, _, _, _]) g (mixP p0 p1 f h) 1 rfl (fun i h9 => by rw [hI i h9, if_pos (by omega)]; rfl) rfl ?_
        exact hret _ _ _ dX1_mix_43 (rfl)
      · refine z_aload_n g dX1_mix_10 0 rfl ?_
        refine z_get g hX1 0 rfl rfl 0 (by decide) (mi 1 rfl) rfl dX1_mix_11 ?_
        refine z_iload g dX1_mix_14 4 rfl ?_
        refine z_lload_n g dX1_mix_16 1 rfl ?_
        refine z_aload_n g dX1_mix_17 0 rfl ?_
        refine z_get g hX1 0 rfl rfl 0 (by decide) (mi 1 rfl) rfl dX1_mix_18 ?_
        refine z_iload g dX1_mix_21 4 rfl ?_
        refine z_lald g 1 rfl j rfl (by omega) (by decide) dX1_mix_23 ?_
        refine z_lmul g dX1_mix_24 ?_
        refine z_lload_n g dX1_mix_25 2 rfl ?_
        refine z_aload g dX1_mix_26 3 rfl ?_
        refine z_get g hX1 2 rfl rfl 0 (by decide) (mi 1 rfl) rfl dX1_mix_28 ?_
        refine z_iload g dX1_mix_31 4 rfl ?_
        refine z_lald g 3 rfl j rfl (by omega) (by decide) dX1_mix_33 ?_
        refine z_lmul g dX1_mix_34 ?_
        refine z_ladd g dX1_mix_35 ?_
        refine z_last (w' := [_, _, _, _]) g 1 rfl j rfl (by omega) (by decide) dX1_mix_36 rfl ?_
        refine z_inc (lv' := [(6, .int _), (0, .ref _), (1, .long _), (3, .long _), (5, .ref _)]) g dX1_mix_37 4 rfl (by decide) rfl ?_
        refine z_goto g 3 dX1_mix_40 (by decide) ?_
        refine z_locs (lv' := [(0, .ref _), (1, .long _), (3, .long _), (5, .ref _), (6, .int _)]) g [1, 2, 3, 4, 0] rfl ?_
        exact ih3 _ _ (by omega) (by omega) (fun i h9 => by unfold vp_updL; split; (next e => subst e; rw [hI i h9, if_neg (by omega), if_pos (by omega)]); (next e => rw [hI i h9]; by_cases e2 : i < j; (rw [if_pos e2, if_pos (by omega)]); (rw [if_neg e2, if_neg (by omega)])))
  refine z_locs (lv' := [(0, .ref _), (1, .long _), (3, .long _), (5, .ref _), (6, .int _)]) g [1, 2, 3, 4, 0] rfl ?_
  exact cut_3 _ 0 f (Nat.lt_succ_self _) (by decide) (fun i h => by rw [if_neg (by omega)])
theorem nd_X1_mix : yX1_mix.cls = RX1 ∧ yX1_mix.cls ≠ "java/lang/invoke/MethodHandle" ∧ yX1_mix.cls ≠ "java/lang/invoke/VarHandle" ∧ (parseMethodDescriptor yX1_mix.desc).map (fun d => d.parameters.length) = some 3 := by decide +kernel
set_option maxHeartbeats 4000000 in
set_option maxRecDepth 100000 in
/-- Polynomial.exactlyAt(t) -/
theorem k_X1_exactlyAt (l : Launch) (G : va_G) (k : Nat → ClassId) (h0 h1 : Nat) (f : Nat → Int64) (p0 : Int32) : ∀ sz, Met l yX1_exactlyAt wsX1_exactlyAt ({ frames := 0, cells := 0, slots := 0, locals := 0 }) (va_Pc [.ref h0, .int p0] (KP G k [(h0, .inr (1, [.ref h1])), (h1, .inl (k 2, 7, .inr (.inl f)))] sz)) (va_Ql (fun r (_ : Unit) => r = hxP f p0.toInt64 6 7) (KQ G [(h0, .inr (1, [.ref h1])), (h1, .inl (k 2, 7, .inr (.inl f)))] (va_A [(h0, .inr (1, [.ref h1])), (h1, .inl (k 2, 7, .inr (.inl f)))] sz)) (va_A [(h0, .inr (1, [.ref h1])), (h1, .inl (k 2, 7, .inr (.inl f)))] sz)) 0 0 (va_A [(h0, .inr (1, [.ref h1])), (h1, .inl (k 2, 7, .inr (.inl f)))] sz) := by
  refine met_l 0 0 (lv0 := [(0, .ref h0), (1, .int p0)]) (own := RX1) (by decide) rfl rfl (Nat.le_of_ble_eq_true rfl) rfl (fun Z g hret => ?_)
  have hX1 : ∀ w ∈ u_ws RX1 TX1 1, w ∈ wsX1_exactlyAt := fun w h => List.mem_cons_of_mem _ (List.mem_append_right _ (h))
  refine z_lc0 g dX1_exactlyAt_0 ?_
  refine z_lstore_n (lv' := [(2, .long _), (0, .ref _), (1, .int _)]) g dX1_exactlyAt_1 (by decide) rfl ?_
  refine z_bi g 6 dX1_exactlyAt_2 (by decide) ?_
  refine z_istore (lv' := [(4, .int _), (2, .long _), (0, .ref _), (1, .int _)]) g dX1_exactlyAt_4 (by decide) rfl ?_
  have cut_6 : ∀ (N6 : Nat) (j : Nat) (c : Int64), j < N6 → (j ≤ 7) → (c = hxP f p0.toInt64 6 (7 - j)) → Z 0 0 [(h0, .inr (1, [.ref h1])), (h1, .inl (k 2, 7, .inr (.inl f)))] [(0, .ref h0), (1, .int p0), (2, .long c), (4, .int (nI j - 1))] 6 [] := by
    intro N6
    induction N6 with
    | zero => intro j c hms; exact absurd hms (Nat.not_lt_zero _)
    | succ N6 ih6 =>
      intro j c hms6 hj hc
      refine z_iload g dX1_exactlyAt_6 3 rfl ?_
      refine z_if_lt g (tgt := 30) dX1_exactlyAt_8 (by decide) (fun b8 => ?_) (fun b8 => ?_)
      · obtain rfl := nIm_neg b8 (by omega)
        refine z_lload_n g dX1_exactlyAt_30 2 rfl ?_
        exact hret _ _ _ _ dX1_exactlyAt_31 (hc) (rfl)
      · obtain ⟨j, rfl⟩ := nIm_pos b8
        refine z_lload_n g dX1_exactlyAt_11 2 rfl ?_
        refine z_iload_n g dX1_exactlyAt_12 1 rfl ?_
        refine z_i2l g dX1_exactlyAt_13 ?_
        refine z_lmul g dX1_exactlyAt_14 ?_
        refine z_aload_n g dX1_exactlyAt_15 0 rfl ?_
        refine z_get g hX1 0 rfl rfl 0 (by decide) (mi 1 rfl) rfl dX1_exactlyAt_16 ?_
        refine z_iload g dX1_exactlyAt_19 3 rfl ?_
        refine z_lald g 1 rfl j (nI_pred j) (by omega) (by decide) dX1_exactlyAt_21 ?_
        refine z_ladd g dX1_exactlyAt_22 ?_
        refine z_lstore_n (lv' := [(2, .long _), (0, .ref _), (1, .int _), (4, .int _)]) g dX1_exactlyAt_23 (by decide) rfl ?_
        refine z_iinc (lv' := [(4, .int _), (2, .long _), (0, .ref _), (1, .int _)]) g (nI j - 1) dX1_exactlyAt_24 3 rfl (nIm_dec j) (by decide) rfl ?_
        refine z_goto g 6 dX1_exactlyAt_27 (by decide) ?_
        refine z_locs (lv' := [(0, .ref _), (1, .int _), (2, .long _), (4, .int _)]) g [2, 3, 1, 0] rfl ?_
        exact ih6 _ _ (by omega) (by omega) (by rw [show 7 - j = (7 - (j + 1)) + 1 by omega]; show _ = hxP f _ 6 (7 - (j + 1)) * _ + f (6 - (7 - (j + 1))); rw [← hc, show 6 - (7 - (j + 1)) = j by omega])
  refine z_locs (lv' := [(0, .ref _), (1, .int _), (2, .long _), (4, .int _)]) g [2, 3, 1, 0] rfl ?_
  exact cut_6 _ 7 0 (Nat.lt_succ_self _) (by decide) rfl
theorem nd_X1_exactlyAt : yX1_exactlyAt.cls = RX1 ∧ yX1_exactlyAt.cls ≠ "java/lang/invoke/MethodHandle" ∧ yX1_exactlyAt.cls ≠ "java/lang/invoke/VarHandle" ∧ (parseMethodDescriptor yX1_exactlyAt.desc).map (fun d => d.parameters.length) = some 1 := by decide +kernel
set_option maxHeartbeats 4000000 in
set_option maxRecDepth 100000 in
/-- Polynomial.inDoublesAt(x) -/
theorem k_X1_inDoublesAt (l : Launch) (G : va_G) (k : Nat → ClassId) (h0 h1 : Nat) (f : Nat → Int64) (p0 : UInt64) (hok : hdOK f p0 6) : ∀ sz, Met l yX1_inDoublesAt wsX1_inDoublesAt ({ frames := 0, cells := 0, slots := 0, locals := 0 }) (va_Pc [.ref h0, .double p0] (KP G k [(h0, .inr (1, [.ref h1])), (h1, .inl (k 2, 7, .inr (.inl f)))] sz)) (va_Qd (fun r (_ : Unit) => r = hdP f p0 6 7) (KQ G [(h0, .inr (1, [.ref h1])), (h1, .inl (k 2, 7, .inr (.inl f)))] (va_A [(h0, .inr (1, [.ref h1])), (h1, .inl (k 2, 7, .inr (.inl f)))] sz)) (va_A [(h0, .inr (1, [.ref h1])), (h1, .inl (k 2, 7, .inr (.inl f)))] sz)) 0 0 (va_A [(h0, .inr (1, [.ref h1])), (h1, .inl (k 2, 7, .inr (.inl f)))] sz) := by
  refine met_d 0 0 (lv0 := [(0, .ref h0), (1, .double p0)]) (own := RX1) (by decide) rfl rfl (Nat.le_of_ble_eq_true rfl) rfl (fun Z g hret => ?_)
  have hX1 : ∀ w ∈ u_ws RX1 TX1 1, w ∈ wsX1_inDoublesAt := fun w h => List.mem_cons_of_mem _ (List.mem_append_right _ (h))
  refine z_dc0 g dX1_inDoublesAt_0 ?_
  refine z_dstore_n (lv' := [(3, .double _), (0, .ref _), (1, .double _)]) g dX1_inDoublesAt_1 (by decide) rfl ?_
  refine z_bi g 6 dX1_inDoublesAt_2 (by decide) ?_
  refine z_istore (lv' := [(5, .int _), (3, .double _), (0, .ref _), (1, .double _)]) g dX1_inDoublesAt_4 (by decide) rfl ?_
  have cut_6 : ∀ (N6 : Nat) (j : Nat) (c : UInt64), j < N6 → (j ≤ 7) → (c = hdP f p0 6 (7 - j)) → Z 0 0 [(h0, .inr (1, [.ref h1])), (h1, .inl (k 2, 7, .inr (.inl f)))] [(0, .ref h0), (1, .double p0), (3, .double c), (5, .int (nI j - 1))] 6 [] := by
    intro N6
    induction N6 with
    | zero => intro j c hms; exact absurd hms (Nat.not_lt_zero _)
    | succ N6 ih6 =>
      intro j c hms6 hj hc
      refine z_iload g dX1_inDoublesAt_6 3 rfl ?_
      refine z_if_lt g (tgt := 30) dX1_inDoublesAt_8 (by decide) (fun b8 => ?_) (fun b8 => ?_)
      · obtain rfl := nIm_neg b8 (by omega)
        refine z_dload_n g dX1_inDoublesAt_30 2 rfl ?_
        exact hret _ _ _ _ dX1_inDoublesAt_31 (hc) (rfl)
      · obtain ⟨j, rfl⟩ := nIm_pos b8
        refine z_dload_n g dX1_inDoublesAt_11 2 rfl ?_
        refine z_dload_n g dX1_inDoublesAt_12 1 rfl ?_
        refine z_dmul g dX1_inDoublesAt_13 (by rw [hc]; exact (hok _ (by omega)).1) ?_
        refine z_aload_n g dX1_inDoublesAt_14 0 rfl ?_
        refine z_get g hX1 0 rfl rfl 0 (by decide) (mi 1 rfl) rfl dX1_inDoublesAt_15 ?_
        refine z_iload g dX1_inDoublesAt_18 3 rfl ?_
        refine z_lald g 1 rfl j (nI_pred j) (by omega) (by decide) dX1_inDoublesAt_20 ?_
        refine z_l2d g dX1_inDoublesAt_21 ?_
        refine z_dadd g dX1_inDoublesAt_22 (by rw [hc]; have h9 := (hok (7 - (j + 1)) (by omega)).2; unfold hdP at h9; rwa [show 6 - (7 - (j + 1)) = j by omega] at h9) ?_
        refine z_dstore_n (lv' := [(3, .double _), (0, .ref _), (1, .double _), (5, .int _)]) g dX1_inDoublesAt_23 (by decide) rfl ?_
        refine z_iinc (lv' := [(5, .int _), (3, .double _), (0, .ref _), (1, .double _)]) g (nI j - 1) dX1_inDoublesAt_24 3 rfl (nIm_dec j) (by decide) rfl ?_
        refine z_goto g 6 dX1_inDoublesAt_27 (by decide) ?_
        refine z_locs (lv' := [(0, .ref _), (1, .double _), (3, .double _), (5, .int _)]) g [2, 3, 1, 0] rfl ?_
        exact ih6 _ _ (by omega) (by omega) (by rw [show 7 - j = (7 - (j + 1)) + 1 by omega]; show _ = FP.dadd (FP.dmul (hdP f _ 6 (7 - (j + 1))) _) (FP.l2d (f (6 - (7 - (j + 1))))); rw [← hc, show 6 - (7 - (j + 1)) = j by omega])
  refine z_locs (lv' := [(0, .ref _), (1, .double _), (3, .double _), (5, .int _)]) g [2, 3, 1, 0] rfl ?_
  exact cut_6 _ 7 FP.dconst0 (Nat.lt_succ_self _) (by decide) rfl
theorem nd_X1_inDoublesAt : yX1_inDoublesAt.cls = RX1 ∧ yX1_inDoublesAt.cls ≠ "java/lang/invoke/MethodHandle" ∧ yX1_inDoublesAt.cls ≠ "java/lang/invoke/VarHandle" ∧ (parseMethodDescriptor yX1_inDoublesAt.desc).map (fun d => d.parameters.length) = some 1 := by decide +kernel
