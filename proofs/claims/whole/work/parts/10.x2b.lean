/-! reading: where the draft f (n characters) stands at i -/
theorem takesN_le {f : Nat → Int32} {n i : Nat} {c : Int32} (h : i ≤ n) : takesN f n i c ≤ n := by
  unfold takesN
  split
  · next e =>
    have h2 : ¬ n ≤ i := fun h2 => by unfold takesP at e; rw [if_pos h2] at e; cases e
    omega
  · exact h
theorem dgN_le {f : Nat → Int32} {n i : Nat} {lo hi : Int32} (hlo : (-1 : Int32) < lo) (h : i ≤ n) : dgN f n i lo hi ≤ n := by
  unfold dgN
  split
  · next e =>
    by_cases h2 : n ≤ i
    · unfold dgP dgD at e
      rw [if_pos h2, if_pos hlo] at e
      cases e
    · omega
  · exact h
def rnV (f : Nat → Int32) (n i : Nat) : Int32 :=
  if 0 ≤ dgV f n i 0 9 then (if 0 ≤ dgV f n (dgN f n i 0 9) 0 9 then 10 * dgV f n i 0 9 + dgV f n (dgN f n i 0 9) 0 9 else dgV f n i 0 9) else dgV f n i 0 9
def rnN (f : Nat → Int32) (n i : Nat) : Nat := if 0 ≤ dgV f n i 0 9 then dgN f n (dgN f n i 0 9) 0 9 else dgN f n i 0 9
theorem rnN_le {f : Nat → Int32} {n i : Nat} (h : i ≤ n) : rnN f n i ≤ n := by
  unfold rnN
  split
  · exact dgN_le (by decide) (dgN_le (by decide) h)
  · exact dgN_le (by decide) h
def rpV (f : Nat → Int32) (n i : Nat) : Int32 := if takesP f n i 94 then dgV f n (takesN f n i 94) 0 6 else 1
def rpN (f : Nat → Int32) (n i : Nat) : Nat := if takesP f n i 94 then dgN f n (takesN f n i 94) 0 6 else takesN f n i 94
theorem rpN_le {f : Nat → Int32} {n i : Nat} (h : i ≤ n) : rpN f n i ≤ n := by
  unfold rpN
  split
  · exact dgN_le (by decide) (takesN_le h)
  · exact takesN_le h
def sgOK (f : Nat → Int32) (n i : Nat) (p0 : Int32) : Bool := if takesP f n i 45 then true else if takesP f n (takesN f n i 45) 43 then true else if p0 = 0 then false else true
def sgN (f : Nat → Int32) (n i : Nat) : Nat := if takesP f n i 45 then takesN f n i 45 else takesN f n (takesN f n i 45) 43
theorem sgN_le {f : Nat → Int32} {n i : Nat} (h : i ≤ n) : sgN f n i ≤ n := by
  unfold sgN
  split
  · exact takesN_le h
  · exact takesN_le (takesN_le h)
def rtC (minus : Bool) (num : Int32) (hasX : Bool) (pw : Int32) (i : Nat) (T : Nat → Int64) : Bool × Nat × (Nat → Int64) :=
  if 0 ≤ num then (if 0 ≤ pw then (true, i, addP T (if minus then (-num).toInt64 else num.toInt64) pw) else (false, i, T))
  else if hasX then (if 0 ≤ pw then (true, i, addP T (if minus then (-(1 : Int32)).toInt64 else (1 : Int32).toInt64) pw) else (false, i, T)) else (false, i, T)
def rtB (f : Nat → Int32) (n : Nat) (minus : Bool) (num : Int32) (hasX : Bool) (i : Nat) (T : Nat → Int64) : Bool × Nat × (Nat → Int64) :=
  rtC minus num hasX (if hasX then rpV f n i else 0) (if hasX then rpN f n i else i) T
def rtA (f : Nat → Int32) (n : Nat) (minus : Bool) (i : Nat) (T : Nat → Int64) : Bool × Nat × (Nat → Int64) :=
  rtB f n minus (rnV f n i) (takesP f n (rnN f n i) 120) (takesN f n (rnN f n i) 120) T
def rtS (f : Nat → Int32) (n i : Nat) (p0 : Int32) (T : Nat → Int64) : Bool × Nat × (Nat → Int64) :=
  if sgOK f n i p0 then rtA f n (takesP f n i 45) (sgN f n i) T else (false, sgN f n i, T)
theorem rtC_n (minus : Bool) (num : Int32) (hasX : Bool) (pw : Int32) (i : Nat) (T : Nat → Int64) : (rtC minus num hasX pw i T).2.1 = i := by
  unfold rtC
  repeat' split
  all_goals rfl
theorem rtA_le {f : Nat → Int32} {n i : Nat} {minus : Bool} {T : Nat → Int64} (h : i ≤ n) : (rtA f n minus i T).2.1 ≤ n := by
  unfold rtA rtB
  rw [rtC_n]
  split
  · exact rpN_le (takesN_le (rnN_le h))
  · exact takesN_le (rnN_le h)
theorem rtS_le {f : Nat → Int32} {n i : Nat} {p0 : Int32} {T : Nat → Int64} (h : i ≤ n) : (rtS f n i p0 T).2.1 ≤ n := by
  unfold rtS
  split
  · exact rtA_le (sgN_le h)
  · exact sgN_le h
def rlS (f : Nat → Int32) (n : Nat) : Nat → Bool → Nat → (Nat → Int64) → Bool × Nat × (Nat → Int64)
  | 0, g, i, T => (g, i, T)
  | c + 1, g, i, T => if g then (if n ≤ i then (g, i, T) else rlS f n c (rtS f n i 0 T).1 (rtS f n i 0 T).2.1 (rtS f n i 0 T).2.2) else (g, i, T)
def rpS (f : Nat → Int32) (n i : Nat) : Bool × Nat × (Nat → Int64) := rlS f n 29 (rtS f n i 1 (fun _ => 0)).1 (rtS f n i 1 (fun _ => 0)).2.1 (rtS f n i 1 (fun _ => 0)).2.2
def rpB (n : Nat) (r : Bool × Nat × (Nat → Int64)) : Bool := if r.1 then (if n ≤ r.2.1 then true else false) else false
/-! products -/
def rrV (f : Nat → Int32) (n i : Nat) : Int32 :=
  if takesP f n i 45 then (if 0 ≤ dgV f n (takesN f n i 45) 1 3 then dgV f n (takesN f n i 45) 1 3 else 4)
  else if takesP f n (takesN f n i 45) 43 then (if 0 ≤ dgV f n (takesN f n (takesN f n i 45) 43) 1 3 then -dgV f n (takesN f n (takesN f n i 45) 43) 1 3 else 4) else 0
def rrN (f : Nat → Int32) (n i : Nat) : Nat :=
  if takesP f n i 45 then dgN f n (takesN f n i 45) 1 3
  else if takesP f n (takesN f n i 45) 43 then dgN f n (takesN f n (takesN f n i 45) 43) 1 3 else takesN f n (takesN f n i 45) 43
theorem rrN_le {f : Nat → Int32} {n i : Nat} (h : i ≤ n) : rrN f n i ≤ n := by
  unfold rrN
  repeat' split
  · exact dgN_le (by decide) (takesN_le h)
  · exact dgN_le (by decide) (takesN_le (takesN_le h))
  · exact takesN_le (takesN_le h)
/-- behind ')': perhaps ^ and a digit -/
def rfC (f : Nat → Int32) (n : Nat) (r : Int32) (i : Nat) (T : Nat → Int32) : Bool × Nat × (Nat → Int32) :=
  if takesP f n i 94 then (if 0 ≤ dgV f n (takesN f n i 94) 1 3 then (true, dgN f n (takesN f n i 94) 1 3, upd T (rix r) (T (rix r) + dgV f n (takesN f n i 94) 1 3)) else (false, dgN f n (takesN f n i 94) 1 3, T))
  else (true, takesN f n i 94, upd T (rix r) (T (rix r) + 1))
def rfB (f : Nat → Int32) (n i : Nat) (T : Nat → Int32) : Bool × Nat × (Nat → Int32) :=
  if poss (rrV f n i) then (if takesP f n (rrN f n i) 41 then rfC f n (rrV f n i) (takesN f n (rrN f n i) 41) T else (false, takesN f n (rrN f n i) 41, T)) else (false, rrN f n i, T)
def rfS (f : Nat → Int32) (n i : Nat) (T : Nat → Int32) : Bool × Nat × (Nat → Int32) :=
  if takesP f n i 40 then (if takesP f n (takesN f n i 40) 120 then rfB f n (takesN f n (takesN f n i 40) 120) T else (false, takesN f n (takesN f n i 40) 120, T)) else (false, takesN f n i 40, T)
theorem rfC_le {f : Nat → Int32} {n i : Nat} {r : Int32} {T : Nat → Int32} (h : i ≤ n) : (rfC f n r i T).2.1 ≤ n := by
  unfold rfC
  repeat' split
  · exact dgN_le (by decide) (takesN_le h)
  · exact dgN_le (by decide) (takesN_le h)
  · exact takesN_le h
theorem rfS_le {f : Nat → Int32} {n i : Nat} {T : Nat → Int32} (h : i ≤ n) : (rfS f n i T).2.1 ≤ n := by
  unfold rfS rfB
  repeat' split
  · exact rfC_le (takesN_le (rrN_le (takesN_le (takesN_le h))))
  · exact takesN_le (rrN_le (takesN_le (takesN_le h)))
  · exact rrN_le (takesN_le (takesN_le h))
  · exact takesN_le (takesN_le h)
  · exact takesN_le h
def flS (f : Nat → Int32) (n : Nat) : Nat → Bool → Nat → (Nat → Int32) → Bool × Nat × (Nat → Int32)
  | 0, g, i, T => (g, i, T)
  | c + 1, g, i, T => if g then (if n ≤ i then (g, i, T) else flS f n c (rfS f n i T).1 (rfS f n i T).2.1 (rfS f n i T).2.2) else (g, i, T)
def fpS (f : Nat → Int32) (n i : Nat) : Bool × Nat × (Nat → Int32) := flS f n 29 (rfS f n i (fun _ => 0)).1 (rfS f n i (fun _ => 0)).2.1 (rfS f n i (fun _ => 0)).2.2
def fpB (n : Nat) (r : Bool × Nat × (Nat → Int32)) : Bool := if r.1 then (if n ≤ r.2.1 then true else false) else false
def sumP (T : Nat → Int32) : Nat → Int32
  | 0 => 0
  | j + 1 => sumP T j + T j
set_option maxHeartbeats 4000000 in
set_option maxRecDepth 100000 in
/-- readNumber() -/
theorem k_X2_readNumber (l : Launch) (G : va_G) (k : Nat → ClassId) (h0 a0 a1 a2 a3 a4 a5 a6 a7 a8 a9 a10 : Nat) (c0 : Nat) (f : Nat → Int32) (n i : Nat) (hn : n ≤ 30) (hi : i ≤ n) : ∀ sz, Met l yX2_readNumber wsX2_readNumber ({ frames := 2, cells := 0, slots := 0, locals := 43 }) (va_Pc [.ref h0] (KP G k [(h0, .inr (2, [.ref a0, .ref a1, .ref a2, .ref a3, .ref a4, .ref a5, .ref a6, .ref a7, .ref a8, .ref a9, .ref a10])), (a0, .inr (0, [.ref c0, .int (nI n), .int (nI i)])), (c0, .inl (k 0, 30, .inl f))] sz)) (va_Qi (fun r (_ : Unit) => r = rnV f n i) (KQ G [(h0, .inr (2, [.ref a0, .ref a1, .ref a2, .ref a3, .ref a4, .ref a5, .ref a6, .ref a7, .ref a8, .ref a9, .ref a10])), (a0, .inr (0, [.ref c0, .int (nI n), .int (nI (rnN f n i))])), (c0, .inl (k 0, 30, .inl f))] (va_A [(h0, .inr (2, [.ref a0, .ref a1, .ref a2, .ref a3, .ref a4, .ref a5, .ref a6, .ref a7, .ref a8, .ref a9, .ref a10])), (a0, .inr (0, [.ref c0, .int (nI n), .int (nI i)])), (c0, .inl (k 0, 30, .inl f))] sz)) (va_A [(h0, .inr (2, [.ref a0, .ref a1, .ref a2, .ref a3, .ref a4, .ref a5, .ref a6, .ref a7, .ref a8, .ref a9, .ref a10])), (a0, .inr (0, [.ref c0, .int (nI n), .int (nI i)])), (c0, .inl (k 0, 30, .inl f))] sz)) 0 0 (va_A [(h0, .inr (2, [.ref a0, .ref a1, .ref a2, .ref a3, .ref a4, .ref a5, .ref a6, .ref a7, .ref a8, .ref a9, .ref a10])), (a0, .inr (0, [.ref c0, .int (nI n), .int (nI i)])), (c0, .inl (k 0, 30, .inl f))] sz) := by
  refine met_i 0 0 (lv0 := [(0, .ref h0)]) (own := RX2) (by decide) rfl rfl (Nat.le_of_ble_eq_true rfl) rfl (fun Z g hret => ?_)
  have hX2 : ∀ w ∈ u_ws RX2 TX2 11, w ∈ wsX2_readNumber := fun w h => List.mem_cons_of_mem _ (List.mem_append_left _ (List.mem_append_right _ (h)))
  refine z_aload_n g dX2_readNumber_0 0 rfl ?_
  refine z_get g hX2 0 rfl rfl 0 (by decide) (mi 1 rfl) rfl dX2_readNumber_1 ?_
  refine z_ic0 g dX2_readNumber_4 ?_
  refine z_bi g 9 dX2_readNumber_5 (by decide) ?_
  refine z_callVi (w' := [_, _, _]) (wr := [_]) g (k_X0_takeDigit l G k _ _ _ _ _ _ _ (by assumption) (by repeat (first | assumption | apply takesN_le | apply rnN_le | apply rpN_le | apply sgN_le | apply rrN_le | (apply dgN_le (by decide)) | apply rtS_le | apply rfS_le))) 2 gX2_readNumber_X0_takeDigit rfl rfl rfl nd_X0_takeDigit ⟨by decide, by decide⟩ 1 rfl rfl [1, 2] [0] [0, 1, 2] rfl rfl rfl rfl (by decide) rfl rfl rfl rfl (Nat.le_of_ble_eq_true rfl) dX2_readNumber_7 ⟨by decide, by decide⟩ ?_
  refine z_istore_n (lv' := [(1, .int _), (0, .ref _)]) g dX2_readNumber_10 (by decide) rfl ?_
  refine z_iload_n g dX2_readNumber_11 0 rfl ?_
  refine z_if_ge g (tgt := 19) dX2_readNumber_12 (by decide) (fun b12 => ?_) (fun b12 => ?_)
  · refine z_aload_n g dX2_readNumber_19 1 rfl ?_
    refine z_get g hX2 0 rfl rfl 0 (by decide) (mi 1 rfl) rfl dX2_readNumber_20 ?_
    refine z_ic0 g dX2_readNumber_23 ?_
    refine z_bi g 9 dX2_readNumber_24 (by decide) ?_
    refine z_callVi (w' := [_, _, _]) (wr := [_]) g (k_X0_takeDigit l G k _ _ _ _ _ _ _ (by assumption) (by repeat (first | assumption | apply takesN_le | apply rnN_le | apply rpN_le | apply sgN_le | apply rrN_le | (apply dgN_le (by decide)) | apply rtS_le | apply rfS_le))) 2 gX2_readNumber_X0_takeDigit rfl rfl rfl nd_X0_takeDigit ⟨by decide, by decide⟩ 1 rfl rfl [1, 2] [0] [0, 1, 2] rfl rfl rfl rfl (by decide) rfl rfl rfl rfl (Nat.le_of_ble_eq_true rfl) dX2_readNumber_26 ⟨by decide, by decide⟩ ?_
    refine z_istore_n (lv' := [(2, .int _), (1, .int _), (0, .ref _)]) g dX2_readNumber_29 (by decide) rfl ?_
    refine z_iload_n g dX2_readNumber_30 0 rfl ?_
    refine z_if_ge g (tgt := 38) dX2_readNumber_31 (by decide) (fun b31 => ?_) (fun b31 => ?_)
    · refine z_bi g 10 dX2_readNumber_38 (by decide) ?_
      refine z_iload_n g dX2_readNumber_40 1 rfl ?_
      refine z_imul g dX2_readNumber_41 ?_
      refine z_iload_n g dX2_readNumber_42 0 rfl ?_
      refine z_iadd g dX2_readNumber_43 ?_
      exact hret _ _ _ _ dX2_readNumber_44 ((by simp only [rnV, if_pos b12, if_pos b31, reduceIte, Bool.false_eq_true] <;> rfl)) ((by simp only [rnN, if_pos b12, if_pos b31, reduceIte, Bool.false_eq_true] <;> rfl))
    · refine z_iload_n g dX2_readNumber_34 1 rfl ?_
      refine z_goto g 44 dX2_readNumber_35 (by decide) ?_
      exact hret _ _ _ _ dX2_readNumber_44 ((by simp only [rnV, if_pos b12, if_neg b31, reduceIte, Bool.false_eq_true] <;> rfl)) ((by simp only [rnN, if_pos b12, if_neg b31, reduceIte, Bool.false_eq_true] <;> rfl))
  · refine z_icm1 g dX2_readNumber_15 ?_
    refine z_goto g 29 dX2_readNumber_16 (by decide) ?_
    refine z_istore_n (lv' := [(2, .int _), (1, .int _), (0, .ref _)]) g dX2_readNumber_29 (by decide) rfl ?_
    refine z_iload_n g dX2_readNumber_30 0 rfl ?_
    refine z_if_ge g (tgt := 38) dX2_readNumber_31 (by decide) (fun b31 => ?_) (fun b31 => ?_)
    · first | exact absurd b31 (by decide) | exact absurd (by decide) b31
    · refine z_iload_n g dX2_readNumber_34 1 rfl ?_
      refine z_goto g 44 dX2_readNumber_35 (by decide) ?_
      exact hret _ _ _ _ dX2_readNumber_44 ((by simp only [rnV, if_neg b12, if_neg b31, reduceIte, Bool.false_eq_true] <;> rfl)) ((by simp only [rnN, if_neg b12, if_neg b31, reduceIte, Bool.false_eq_true] <;> rfl))
theorem nd_X2_readNumber : yX2_readNumber.cls = RX2 ∧ yX2_readNumber.cls ≠ "java/lang/invoke/MethodHandle" ∧ yX2_readNumber.cls ≠ "java/lang/invoke/VarHandle" ∧ (parseMethodDescriptor yX2_readNumber.desc).map (fun d => d.parameters.length) = some 0 := by decide +kernel
set_option maxHeartbeats 4000000 in
set_option maxRecDepth 100000 in
/-- readPowerOfX() -/
theorem k_X2_readPowerOfX (l : Launch) (G : va_G) (k : Nat → ClassId) (h0 a0 a1 a2 a3 a4 a5 a6 a7 a8 a9 a10 : Nat) (c0 : Nat) (f : Nat → Int32) (n i : Nat) (hn : n ≤ 30) (hi : i ≤ n) : ∀ sz, Met l yX2_readPowerOfX wsX2_readPowerOfX ({ frames := 2, cells := 0, slots := 0, locals := 43 }) (va_Pc [.ref h0] (KP G k [(h0, .inr (2, [.ref a0, .ref a1, .ref a2, .ref a3, .ref a4, .ref a5, .ref a6, .ref a7, .ref a8, .ref a9, .ref a10])), (a0, .inr (0, [.ref c0, .int (nI n), .int (nI i)])), (c0, .inl (k 0, 30, .inl f))] sz)) (va_Qi (fun r (_ : Unit) => r = rpV f n i) (KQ G [(h0, .inr (2, [.ref a0, .ref a1, .ref a2, .ref a3, .ref a4, .ref a5, .ref a6, .ref a7, .ref a8, .ref a9, .ref a10])), (a0, .inr (0, [.ref c0, .int (nI n), .int (nI (rpN f n i))])), (c0, .inl (k 0, 30, .inl f))] (va_A [(h0, .inr (2, [.ref a0, .ref a1, .ref a2, .ref a3, .ref a4, .ref a5, .ref a6, .ref a7, .ref a8, .ref a9, .ref a10])), (a0, .inr (0, [.ref c0, .int (nI n), .int (nI i)])), (c0, .inl (k 0, 30, .inl f))] sz)) (va_A [(h0, .inr (2, [.ref a0, .ref a1, .ref a2, .ref a3, .ref a4, .ref a5, .ref a6, .ref a7, .ref a8, .ref a9, .ref a10])), (a0, .inr (0, [.ref c0, .int (nI n), .int (nI i)])), (c0, .inl (k 0, 30, .inl f))] sz)) 0 0 (va_A [(h0, .inr (2, [.ref a0, .ref a1, .ref a2, .ref a3, .ref a4, .ref a5, .ref a6, .ref a7, .ref a8, .ref a9, .ref a10])), (a0, .inr (0, [.ref c0, .int (nI n), .int (nI i)])), (c0, .inl (k 0, 30, .inl f))] sz) := by
  refine met_i 0 0 (lv0 := [(0, .ref h0)]) (own := RX2) (by decide) rfl rfl (Nat.le_of_ble_eq_true rfl) rfl (fun Z g hret => ?_)
  have hX2 : ∀ w ∈ u_ws RX2 TX2 11, w ∈ wsX2_readPowerOfX := fun w h => List.mem_cons_of_mem _ (List.mem_append_left _ (List.mem_append_right _ (h)))
  refine z_aload_n g dX2_readPowerOfX_0 0 rfl ?_
  refine z_get g hX2 0 rfl rfl 0 (by decide) (mi 1 rfl) rfl dX2_readPowerOfX_1 ?_
  refine z_bi g 94 dX2_readPowerOfX_4 (by decide) ?_
  refine z_callVi (w' := [_, _, _]) (wr := [_]) g (k_X0_takes l G k _ _ _ _ _ _ (by assumption) (by repeat (first | assumption | apply takesN_le | apply rnN_le | apply rpN_le | apply sgN_le | apply rrN_le | (apply dgN_le (by decide)) | apply rtS_le | apply rfS_le))) 1 gX2_readPowerOfX_X0_takes rfl rfl rfl nd_X0_takes ⟨by decide, by decide⟩ 1 rfl rfl [1, 2] [0] [0, 1, 2] rfl rfl rfl rfl (by decide) rfl rfl rfl rfl (Nat.le_of_ble_eq_true rfl) dX2_readPowerOfX_6 ⟨by decide, by decide⟩ ?_
  refine z_bf_eq g (tgt := 25) dX2_readPowerOfX_9 (by decide) (fun b9 => ?_) (fun b9 => ?_)
  · refine z_ic1 g dX2_readPowerOfX_25 ?_
    exact hret _ _ _ _ dX2_readPowerOfX_26 ((by simp only [rpV, if_neg (Bool.eq_false_iff.mp b9), reduceIte, Bool.false_eq_true] <;> rfl)) ((by simp only [rpN, if_neg (Bool.eq_false_iff.mp b9), reduceIte, Bool.false_eq_true] <;> rfl))
  · refine z_aload_n g dX2_readPowerOfX_12 0 rfl ?_
    refine z_get g hX2 0 rfl rfl 0 (by decide) (mi 1 rfl) rfl dX2_readPowerOfX_13 ?_
    refine z_ic0 g dX2_readPowerOfX_16 ?_
    refine z_bi g 6 dX2_readPowerOfX_17 (by decide) ?_
    refine z_callVi (w' := [_, _, _]) (wr := [_]) g (k_X0_takeDigit l G k _ _ _ _ _ _ _ (by assumption) (by repeat (first | assumption | apply takesN_le | apply rnN_le | apply rpN_le | apply sgN_le | apply rrN_le | (apply dgN_le (by decide)) | apply rtS_le | apply rfS_le))) 2 gX2_readPowerOfX_X0_takeDigit rfl rfl rfl nd_X0_takeDigit ⟨by decide, by decide⟩ 1 rfl rfl [1, 2] [0] [0, 1, 2] rfl rfl rfl rfl (by decide) rfl rfl rfl rfl (Nat.le_of_ble_eq_true rfl) dX2_readPowerOfX_19 ⟨by decide, by decide⟩ ?_
    refine z_goto g 26 dX2_readPowerOfX_22 (by decide) ?_
    exact hret _ _ _ _ dX2_readPowerOfX_26 ((by simp only [rpV, if_pos b9, reduceIte, Bool.false_eq_true] <;> rfl)) ((by simp only [rpN, if_pos b9, reduceIte, Bool.false_eq_true] <;> rfl))
theorem nd_X2_readPowerOfX : yX2_readPowerOfX.cls = RX2 ∧ yX2_readPowerOfX.cls ≠ "java/lang/invoke/MethodHandle" ∧ yX2_readPowerOfX.cls ≠ "java/lang/invoke/VarHandle" ∧ (parseMethodDescriptor yX2_readPowerOfX.desc).map (fun d => d.parameters.length) = some 0 := by decide +kernel
set_option maxHeartbeats 4000000 in
set_option maxRecDepth 100000 in
/-- readTerm(isFirst) -/
theorem k_X2_readTerm (l : Launch) (G : va_G) (k : Nat → ClassId) (h0 a0 a1 a2 a3 a4 a5 a6 a7 a8 a9 a10 : Nat) (c0 : Nat) (f : Nat → Int32) (n i : Nat) (b7 : Nat) (T : Nat → Int64) (p0 : Int32) (hn : n ≤ 30) (hi : i ≤ n) : ∀ sz, Met l yX2_readTerm wsX2_readTerm ({ frames := 3, cells := 0, slots := 0, locals := 65 }) (va_Pc [.ref h0, .int p0] (KP G k [(h0, .inr (2, [.ref a0, .ref a1, .ref a2, .ref a3, .ref a4, .ref a5, .ref a6, .ref a7, .ref a8, .ref a9, .ref a10])), (a0, .inr (0, [.ref c0, .int (nI n), .int (nI i)])), (c0, .inl (k 0, 30, .inl f)), (a7, .inr (1, [.ref b7])), (b7, .inl (k 2, 7, .inr (.inl T)))] sz)) (va_Qi (fun r (_ : Unit) => r = bI (rtS f n i p0 T).1) (KQ G [(h0, .inr (2, [.ref a0, .ref a1, .ref a2, .ref a3, .ref a4, .ref a5, .ref a6, .ref a7, .ref a8, .ref a9, .ref a10])), (a0, .inr (0, [.ref c0, .int (nI n), .int (nI ((rtS f n i p0 T).2.1))])), (c0, .inl (k 0, 30, .inl f)), (a7, .inr (1, [.ref b7])), (b7, .inl (k 2, 7, .inr (.inl ((rtS f n i p0 T).2.2))))] (va_A [(h0, .inr (2, [.ref a0, .ref a1, .ref a2, .ref a3, .ref a4, .ref a5, .ref a6, .ref a7, .ref a8, .ref a9, .ref a10])), (a0, .inr (0, [.ref c0, .int (nI n), .int (nI i)])), (c0, .inl (k 0, 30, .inl f)), (a7, .inr (1, [.ref b7])), (b7, .inl (k 2, 7, .inr (.inl T)))] sz)) (va_A [(h0, .inr (2, [.ref a0, .ref a1, .ref a2, .ref a3, .ref a4, .ref a5, .ref a6, .ref a7, .ref a8, .ref a9, .ref a10])), (a0, .inr (0, [.ref c0, .int (nI n), .int (nI i)])), (c0, .inl (k 0, 30, .inl f)), (a7, .inr (1, [.ref b7])), (b7, .inl (k 2, 7, .inr (.inl T)))] sz)) 0 0 (va_A [(h0, .inr (2, [.ref a0, .ref a1, .ref a2, .ref a3, .ref a4, .ref a5, .ref a6, .ref a7, .ref a8, .ref a9, .ref a10])), (a0, .inr (0, [.ref c0, .int (nI n), .int (nI i)])), (c0, .inl (k 0, 30, .inl f)), (a7, .inr (1, [.ref b7])), (b7, .inl (k 2, 7, .inr (.inl T)))] sz) := by
  refine met_z 0 0 (lv0 := [(0, .ref h0), (1, .int p0)]) (own := RX2) (by decide) rfl rfl (Nat.le_of_ble_eq_true rfl) rfl bI_n (fun Z g hret => ?_)
  have hX2 : ∀ w ∈ u_ws RX2 TX2 11, w ∈ wsX2_readTerm := fun w h => List.mem_cons_of_mem _ (List.mem_append_left _ (List.mem_append_left _ (List.mem_append_right _ (h))))
  refine z_aload_n g dX2_readTerm_0 0 rfl ?_
  refine z_get g hX2 0 rfl rfl 0 (by decide) (mi 1 rfl) rfl dX2_readTerm_1 ?_
  refine z_bi g 45 dX2_readTerm_4 (by decide) ?_
  refine z_callVi (w' := [_, _, _, _, _]) (wr := [_, _, _]) g (k_X0_takes l G k _ _ _ _ _ _ (by assumption) (by repeat (first | assumption | apply takesN_le | apply rnN_le | apply rpN_le | apply sgN_le | apply rrN_le | (apply dgN_le (by decide)) | apply rtS_le | apply rfS_le))) 1 gX2_readTerm_X0_takes rfl rfl rfl nd_X0_takes ⟨by decide, by decide⟩ 1 rfl rfl [1, 2] [0, 3, 4] [0, 3, 4, 1, 2] rfl rfl rfl rfl (by decide) rfl rfl rfl rfl (Nat.le_of_ble_eq_true rfl) dX2_readTerm_6 ⟨by decide, by decide⟩ ?_
  refine z_istore_n (lv' := [(2, .int _), (0, .ref _), (1, .int _)]) g dX2_readTerm_9 (by decide) rfl ?_
  have cut_32 : ∀ (i' : Nat), (i' ≤ n) → (rtA f n (takesP f n i 45) i' T = rtS f n i p0 T) → Z 0 0 [(h0, .inr (2, [.ref a0, .ref a1, .ref a2, .ref a3, .ref a4, .ref a5, .ref a6, .ref a7, .ref a8, .ref a9, .ref a10])), (a0, .inr (0, [.ref c0, .int (nI n), .int (nI i')])), (c0, .inl (k 0, 30, .inl f)), (a7, .inr (1, [.ref b7])), (b7, .inl (k 2, 7, .inr (.inl T)))] [(0, .ref h0), (1, .int p0), (2, .int (bI (takesP f n i 45)))] 32 [] := by
    intro i' hi1 hI1
    refine z_aload_n g dX2_readTerm_32 0 rfl ?_
    refine z_callVi (w' := [_, _, _, _, _]) (wr := [_, _]) g (k_X2_readNumber l G k _ _ _ _ _ _ _ _ _ _ _ _ _ _ _ _ (by assumption) (by repeat (first | assumption | apply takesN_le | apply rnN_le | apply rpN_le | apply sgN_le | apply rrN_le | (apply dgN_le (by decide)) | apply rtS_le | apply rfS_le))) 0 gX2_readTerm_X2_readNumber rfl rfl rfl nd_X2_readNumber ⟨by decide, by decide⟩ 0 rfl rfl [0, 1, 2] [3, 4] [2, 3, 4, 0, 1] rfl rfl rfl rfl (by decide) rfl rfl rfl rfl (Nat.le_of_ble_eq_true rfl) dX2_readTerm_33 ⟨by decide, by decide⟩ ?_
    refine z_istore_n (lv' := [(3, .int _), (0, .ref _), (1, .int _), (2, .int _)]) g dX2_readTerm_36 (by decide) rfl ?_
    refine z_aload_n g dX2_readTerm_37 1 rfl ?_
    refine z_get g hX2 0 rfl rfl 0 (by decide) (mi 1 rfl) rfl dX2_readTerm_38 ?_
    refine z_bi g 120 dX2_readTerm_41 (by decide) ?_
    refine z_callVi (w' := [_, _, _, _, _]) (wr := [_, _, _]) g (k_X0_takes l G k _ _ _ _ _ _ (by assumption) (by repeat (first | assumption | apply takesN_le | apply rnN_le | apply rpN_le | apply sgN_le | apply rrN_le | (apply dgN_le (by decide)) | apply rtS_le | apply rfS_le))) 1 gX2_readTerm_X0_takes rfl rfl rfl nd_X0_takes ⟨by decide, by decide⟩ 1 rfl rfl [1, 2] [0, 3, 4] [0, 3, 4, 1, 2] rfl rfl rfl rfl (by decide) rfl rfl rfl rfl (Nat.le_of_ble_eq_true rfl) dX2_readTerm_43 ⟨by decide, by decide⟩ ?_
    refine z_istore (lv' := [(4, .int _), (3, .int _), (0, .ref _), (1, .int _), (2, .int _)]) g dX2_readTerm_46 (by decide) rfl ?_
    refine z_iload g dX2_readTerm_48 0 rfl ?_
    have cut_61 : ∀ (pw : Int32) (i2 : Nat), (i2 ≤ n) → (rtC (takesP f n i 45) (rnV f n i') (takesP f n (rnN f n i') 120) pw i2 T = rtS f n i p0 T) → Z 0 0 [(h0, .inr (2, [.ref a0, .ref a1, .ref a2, .ref a3, .ref a4, .ref a5, .ref a6, .ref a7, .ref a8, .ref a9, .ref a10])), (a0, .inr (0, [.ref c0, .int (nI n), .int (nI i2)])), (c0, .inl (k 0, 30, .inl f)), (a7, .inr (1, [.ref b7])), (b7, .inl (k 2, 7, .inr (.inl T)))] [(0, .ref h0), (1, .int p0), (2, .int (bI (takesP f n i 45))), (3, .int (rnV f n i')), (4, .int (bI (takesP f n (rnN f n i') 120)))] 61 [.int pw] := by
      intro pw i2 hi2 hI2
      refine z_istore (lv' := [(5, .int _), (0, .ref _), (1, .int _), (2, .int _), (3, .int _), (4, .int _)]) g dX2_readTerm_61 (by decide) rfl ?_
      have cut_72 : (0 ≤ rnV f n i' ∨ takesP f n (rnN f n i') 120 = true) → Z 0 0 [(h0, .inr (2, [.ref a0, .ref a1, .ref a2, .ref a3, .ref a4, .ref a5, .ref a6, .ref a7, .ref a8, .ref a9, .ref a10])), (a0, .inr (0, [.ref c0, .int (nI n), .int (nI i2)])), (c0, .inl (k 0, 30, .inl f)), (a7, .inr (1, [.ref b7])), (b7, .inl (k 2, 7, .inr (.inl T)))] [(0, .ref h0), (1, .int p0), (2, .int (bI (takesP f n i 45))), (3, .int (rnV f n i')), (4, .int (bI (takesP f n (rnN f n i') 120))), (5, .int pw)] 72 [] := by
        intro  hq
        refine z_iload g dX2_readTerm_72 5 rfl ?_
        refine z_if_ge g (tgt := 79) dX2_readTerm_74 (by decide) (fun b74 => ?_) (fun b74 => ?_)
        · have cut_108 : ∀ (x : Int64), (rtC (takesP f n i 45) (rnV f n i') (takesP f n (rnN f n i') 120) pw i2 T = (true, i2, addP T x pw)) → Z 0 0 [(h0, .inr (2, [.ref a0, .ref a1, .ref a2, .ref a3, .ref a4, .ref a5, .ref a6, .ref a7, .ref a8, .ref a9, .ref a10])), (a0, .inr (0, [.ref c0, .int (nI n), .int (nI i2)])), (c0, .inl (k 0, 30, .inl f)), (a7, .inr (1, [.ref b7])), (b7, .inl (k 2, 7, .inr (.inl T)))] [(5, .int pw)] 108 [.long x, .ref a7] := by
            intro x hx9
            refine z_iload g dX2_readTerm_108 0 rfl ?_
            refine z_callVv (w' := [_, _, _, _, _]) (wr := [_, _, _]) g (k_X1_add l G k _ _ _ _ _) 2 gX2_readTerm_X1_add rfl rfl rfl nd_X1_add ⟨by decide, by decide⟩ 3 rfl rfl [3, 4] [0, 1, 2] [0, 1, 2, 3, 4] rfl rfl rfl rfl (by decide) rfl rfl rfl rfl (Nat.le_of_ble_eq_true rfl) dX2_readTerm_110 ⟨by decide, by decide⟩ ?_
            refine z_ic1 g dX2_readTerm_113 ?_
            exact hret _ _ _ _ dX2_readTerm_114 ((by rw [← hI2, hx9]; rfl)) ((by rw [← hI2, hx9]))
          refine z_iload_n g dX2_readTerm_79 3 rfl ?_
          refine z_if_ge g (tgt := 87) dX2_readTerm_80 (by decide) (fun b80 => ?_) (fun b80 => ?_)
          · refine z_iload_n g dX2_readTerm_87 3 rfl ?_
            refine z_istore (lv' := [(6, .int _), (0, .ref _), (1, .int _), (2, .int _), (3, .int _), (4, .int _), (5, .int _)]) g dX2_readTerm_88 (by decide) rfl ?_
            refine z_aload_n g dX2_readTerm_90 1 rfl ?_
            refine z_get g hX2 0 rfl rfl 7 (by decide) (mi 2 rfl) rfl dX2_readTerm_91 ?_
            refine z_iload_n g dX2_readTerm_94 3 rfl ?_
            refine z_bf_eq g (tgt := 105) dX2_readTerm_95 (by decide) (fun b95 => ?_) (fun b95 => ?_)
            · refine z_iload g dX2_readTerm_105 0 rfl ?_
              refine z_i2l g dX2_readTerm_107 ?_
              refine z_locs (lv' := [(5, .int _)]) g [6] rfl ?_
              exact cut_108 _ (by unfold rtC; first | (simp only [reduceIte, if_pos b74, if_pos b80, if_neg (Bool.eq_false_iff.mp b95)]; done) | (rw [if_neg b80, if_pos (hq.resolve_left b80)]; simp only [reduceIte, if_pos b74, if_pos b80, if_neg (Bool.eq_false_iff.mp b95)]; done))
            · refine z_iload g dX2_readTerm_98 0 rfl ?_
              refine z_ineg g dX2_readTerm_100 ?_
              refine z_i2l g dX2_readTerm_101 ?_
              refine z_goto g 108 dX2_readTerm_102 (by decide) ?_
              refine z_locs (lv' := [(5, .int _)]) g [6] rfl ?_
              exact cut_108 _ (by unfold rtC; first | (simp only [reduceIte, if_pos b74, if_pos b80, if_pos b95]; done) | (rw [if_neg b80, if_pos (hq.resolve_left b80)]; simp only [reduceIte, if_pos b74, if_pos b80, if_pos b95]; done))
          · refine z_ic1 g dX2_readTerm_83 ?_
            refine z_goto g 88 dX2_readTerm_84 (by decide) ?_
            refine z_istore (lv' := [(6, .int _), (0, .ref _), (1, .int _), (2, .int _), (3, .int _), (4, .int _), (5, .int _)]) g dX2_readTerm_88 (by decide) rfl ?_
            refine z_aload_n g dX2_readTerm_90 1 rfl ?_
            refine z_get g hX2 0 rfl rfl 7 (by decide) (mi 2 rfl) rfl dX2_readTerm_91 ?_
            refine z_iload_n g dX2_readTerm_94 3 rfl ?_
            refine z_bf_eq g (tgt := 105) dX2_readTerm_95 (by decide) (fun b95 => ?_) (fun b95 => ?_)
            · refine z_iload g dX2_readTerm_105 0 rfl ?_
              refine z_i2l g dX2_readTerm_107 ?_
              refine z_locs (lv' := [(5, .int _)]) g [6] rfl ?_
              exact cut_108 _ (by unfold rtC; first | (simp only [reduceIte, if_pos b74, if_neg b80, if_neg (Bool.eq_false_iff.mp b95)]; done) | (rw [if_neg b80, if_pos (hq.resolve_left b80)]; simp only [reduceIte, if_pos b74, if_neg b80, if_neg (Bool.eq_false_iff.mp b95)]; done))
            · refine z_iload g dX2_readTerm_98 0 rfl ?_
              refine z_ineg g dX2_readTerm_100 ?_
              refine z_i2l g dX2_readTerm_101 ?_
              refine z_goto g 108 dX2_readTerm_102 (by decide) ?_
              refine z_locs (lv' := [(5, .int _)]) g [6] rfl ?_
              exact cut_108 _ (by unfold rtC; first | (simp only [reduceIte, if_pos b74, if_neg b80, if_pos b95]; done) | (rw [if_neg b80, if_pos (hq.resolve_left b80)]; simp only [reduceIte, if_pos b74, if_neg b80, if_pos b95]; done))
        · refine z_ic0 g dX2_readTerm_77 ?_
          exact hret _ _ _ _ dX2_readTerm_78 ((by rw [← hI2]; unfold rtC; first | (simp only [reduceIte, if_neg b74, Bool.false_eq_true]; rfl) | (by_cases h9 : 0 ≤ rnV f n i' <;> simp only [reduceIte, h9, b74, ite_self] <;> rfl))) ((by rw [← hI2]; unfold rtC; first | (simp only [reduceIte, if_neg b74, Bool.false_eq_true]; done) | (by_cases h9 : 0 ≤ rnV f n i' <;> simp only [reduceIte, h9, b74, ite_self])))
      refine z_iload_n g dX2_readTerm_63 4 rfl ?_
      refine z_if_ge g (tgt := 72) dX2_readTerm_64 (by decide) (fun b64 => ?_) (fun b64 => ?_)
      · refine z_locs (lv' := [(0, .ref _), (1, .int _), (2, .int _), (3, .int _), (4, .int _), (5, .int _)]) g [1, 2, 3, 4, 5, 0] rfl ?_
        exact cut_72 (by first | exact Or.inl b64 | exact Or.inr b69)
      · refine z_iload g dX2_readTerm_67 5 rfl ?_
        refine z_bf_eq g (tgt := 77) dX2_readTerm_69 (by decide) (fun b69 => ?_) (fun b69 => ?_)
        · refine z_ic0 g dX2_readTerm_77 ?_
          exact hret _ _ _ _ dX2_readTerm_78 ((by rw [← hI2]; unfold rtC; first | (simp only [reduceIte, if_neg b64, if_neg (Bool.eq_false_iff.mp b69), Bool.false_eq_true]; rfl) | (by_cases h9 : 0 ≤ rnV f n i' <;> simp only [reduceIte, h9, b74, ite_self] <;> rfl))) ((by rw [← hI2]; unfold rtC; first | (simp only [reduceIte, if_neg b64, if_neg (Bool.eq_false_iff.mp b69), Bool.false_eq_true]; done) | (by_cases h9 : 0 ≤ rnV f n i' <;> simp only [reduceIte, h9, b74, ite_self])))
        · refine z_locs (lv' := [(0, .ref _), (1, .int _), (2, .int _), (3, .int _), (4, .int _), (5, .int _)]) g [1, 2, 3, 4, 5, 0] rfl ?_
          exact cut_72 (by first | exact Or.inl b64 | exact Or.inr b69)
    refine z_bf_eq g (tgt := 60) dX2_readTerm_50 (by decide) (fun b50 => ?_) (fun b50 => ?_)
    · refine z_ic0 g dX2_readTerm_60 ?_
      refine z_locs (lv' := [(0, .ref _), (1, .int _), (2, .int _), (3, .int _), (4, .int _)]) g [2, 3, 4, 1, 0] rfl ?_
      exact cut_61 _ _ (by repeat (first | assumption | apply takesN_le | apply rnN_le | apply rpN_le | apply sgN_le | apply rrN_le | (apply dgN_le (by decide)) | apply rtS_le | apply rfS_le)) (by rw [← hI1]; unfold rtA rtB; simp only [reduceIte, if_neg (Bool.eq_false_iff.mp b50)])
    · refine z_aload_n g dX2_readTerm_53 2 rfl ?_
      refine z_callVi (w' := [_, _, _, _, _]) (wr := [_, _]) g (k_X2_readPowerOfX l G k _ _ _ _ _ _ _ _ _ _ _ _ _ _ _ _ (by assumption) (by repeat (first | assumption | apply takesN_le | apply rnN_le | apply rpN_le | apply sgN_le | apply rrN_le | (apply dgN_le (by decide)) | apply rtS_le | apply rfS_le))) 0 gX2_readTerm_X2_readPowerOfX rfl rfl rfl nd_X2_readPowerOfX ⟨by decide, by decide⟩ 0 rfl rfl [0, 1, 2] [3, 4] [2, 3, 4, 0, 1] rfl rfl rfl rfl (by decide) rfl rfl rfl rfl (Nat.le_of_ble_eq_true rfl) dX2_readTerm_54 ⟨by decide, by decide⟩ ?_
      refine z_goto g 61 dX2_readTerm_57 (by decide) ?_
      refine z_locs (lv' := [(0, .ref _), (1, .int _), (2, .int _), (3, .int _), (4, .int _)]) g [2, 3, 4, 1, 0] rfl ?_
      exact cut_61 _ _ (by repeat (first | assumption | apply takesN_le | apply rnN_le | apply rpN_le | apply sgN_le | apply rrN_le | (apply dgN_le (by decide)) | apply rtS_le | apply rfS_le)) (by rw [← hI1]; unfold rtA rtB; simp only [reduceIte, if_pos b50])
  refine z_iload_n g dX2_readTerm_10 0 rfl ?_
  refine z_bf_ne g (tgt := 32) dX2_readTerm_11 (by decide) (fun b11 => ?_) (fun b11 => ?_)
  · refine z_locs (lv' := [(0, .ref _), (1, .int _), (2, .int _)]) g [1, 2, 0] rfl ?_
    exact cut_32 _ (by repeat (first | assumption | apply takesN_le | apply rnN_le | apply rpN_le | apply sgN_le | apply rrN_le | (apply dgN_le (by decide)) | apply rtS_le | apply rfS_le)) (by unfold rtS sgOK sgN; simp only [reduceIte, if_pos b11])
  · refine z_aload_n g dX2_readTerm_14 1 rfl ?_
    refine z_get g hX2 0 rfl rfl 0 (by decide) (mi 1 rfl) rfl dX2_readTerm_15 ?_
    refine z_bi g 43 dX2_readTerm_18 (by decide) ?_
    refine z_callVi (w' := [_, _, _, _, _]) (wr := [_, _, _]) g (k_X0_takes l G k _ _ _ _ _ _ (by assumption) (by repeat (first | assumption | apply takesN_le | apply rnN_le | apply rpN_le | apply sgN_le | apply rrN_le | (apply dgN_le (by decide)) | apply rtS_le | apply rfS_le))) 1 gX2_readTerm_X0_takes rfl rfl rfl nd_X0_takes ⟨by decide, by decide⟩ 1 rfl rfl [1, 2] [0, 3, 4] [0, 3, 4, 1, 2] rfl rfl rfl rfl (by decide) rfl rfl rfl rfl (Nat.le_of_ble_eq_true rfl) dX2_readTerm_20 ⟨by decide, by decide⟩ ?_
    refine z_bf_ne g (tgt := 32) dX2_readTerm_23 (by decide) (fun b23 => ?_) (fun b23 => ?_)
    · refine z_locs (lv' := [(0, .ref _), (1, .int _), (2, .int _)]) g [1, 2, 0] rfl ?_
      exact cut_32 _ (by repeat (first | assumption | apply takesN_le | apply rnN_le | apply rpN_le | apply sgN_le | apply rrN_le | (apply dgN_le (by decide)) | apply rtS_le | apply rfS_le)) (by unfold rtS sgOK sgN; simp only [reduceIte, if_neg (Bool.eq_false_iff.mp b11), if_pos b23])
    · refine z_iload_n g dX2_readTerm_26 2 rfl ?_
      refine z_if_ne g (tgt := 32) dX2_readTerm_27 (by decide) (fun b27 => ?_) (fun b27 => ?_)
      · refine z_locs (lv' := [(0, .ref _), (1, .int _), (2, .int _)]) g [1, 2, 0] rfl ?_
        exact cut_32 _ (by repeat (first | assumption | apply takesN_le | apply rnN_le | apply rpN_le | apply sgN_le | apply rrN_le | (apply dgN_le (by decide)) | apply rtS_le | apply rfS_le)) (by unfold rtS sgOK sgN; simp only [reduceIte, if_neg (Bool.eq_false_iff.mp b11), if_neg (Bool.eq_false_iff.mp b23), if_neg b27])
      · refine z_ic0 g dX2_readTerm_30 ?_
        exact hret _ _ _ _ dX2_readTerm_31 ((by unfold rtS sgOK sgN; simp only [reduceIte, if_neg (Bool.eq_false_iff.mp b11), if_neg (Bool.eq_false_iff.mp b23), if_pos b27, Bool.false_eq_true]; rfl)) ((by unfold rtS sgOK sgN; simp only [reduceIte, if_neg (Bool.eq_false_iff.mp b11), if_neg (Bool.eq_false_iff.mp b23), if_pos b27, Bool.false_eq_true]))
theorem nd_X2_readTerm : yX2_readTerm.cls = RX2 ∧ yX2_readTerm.cls ≠ "java/lang/invoke/MethodHandle" ∧ yX2_readTerm.cls ≠ "java/lang/invoke/VarHandle" ∧ (parseMethodDescriptor yX2_readTerm.desc).map (fun d => d.parameters.length) = some 1 := by decide +kernel
set_option maxHeartbeats 4000000 in
set_option maxRecDepth 100000 in
/-- readPolynomial() -/
theorem k_X2_readPolynomial (l : Launch) (G : va_G) (k : Nat → ClassId) (h0 a0 a1 a2 a3 a4 a5 a6 a7 a8 a9 a10 : Nat) (c0 : Nat) (f : Nat → Int32) (n i : Nat) (b7 : Nat) (T : Nat → Int64) (hn : n ≤ 30) (hi : i ≤ n) : ∀ sz, Met l yX2_readPolynomial wsX2_readPolynomial ({ frames := 4, cells := 0, slots := 0, locals := 91 }) (va_Pc [.ref h0] (KP G k [(h0, .inr (2, [.ref a0, .ref a1, .ref a2, .ref a3, .ref a4, .ref a5, .ref a6, .ref a7, .ref a8, .ref a9, .ref a10])), (a0, .inr (0, [.ref c0, .int (nI n), .int (nI i)])), (c0, .inl (k 0, 30, .inl f)), (a7, .inr (1, [.ref b7])), (b7, .inl (k 2, 7, .inr (.inl T)))] sz)) (va_Qi (fun r (_ : Unit) => r = bI (rpB n (rpS f n i))) (KQ G [(h0, .inr (2, [.ref a0, .ref a1, .ref a2, .ref a3, .ref a4, .ref a5, .ref a6, .ref a7, .ref a8, .ref a9, .ref a10])), (a0, .inr (0, [.ref c0, .int (nI n), .int (nI ((rpS f n i).2.1))])), (c0, .inl (k 0, 30, .inl f)), (a7, .inr (1, [.ref b7])), (b7, .inl (k 2, 7, .inr (.inl ((rpS f n i).2.2))))] (va_A [(h0, .inr (2, [.ref a0, .ref a1, .ref a2, .ref a3, .ref a4, .ref a5, .ref a6, .ref a7, .ref a8, .ref a9, .ref a10])), (a0, .inr (0, [.ref c0, .int (nI n), .int (nI i)])), (c0, .inl (k 0, 30, .inl f)), (a7, .inr (1, [.ref b7])), (b7, .inl (k 2, 7, .inr (.inl T)))] sz)) (va_A [(h0, .inr (2, [.ref a0, .ref a1, .ref a2, .ref a3, .ref a4, .ref a5, .ref a6, .ref a7, .ref a8, .ref a9, .ref a10])), (a0, .inr (0, [.ref c0, .int (nI n), .int (nI i)])), (c0, .inl (k 0, 30, .inl f)), (a7, .inr (1, [.ref b7])), (b7, .inl (k 2, 7, .inr (.inl T)))] sz)) 0 0 (va_A [(h0, .inr (2, [.ref a0, .ref a1, .ref a2, .ref a3, .ref a4, .ref a5, .ref a6, .ref a7, .ref a8, .ref a9, .ref a10])), (a0, .inr (0, [.ref c0, .int (nI n), .int (nI i)])), (c0, .inl (k 0, 30, .inl f)), (a7, .inr (1, [.ref b7])), (b7, .inl (k 2, 7, .inr (.inl T)))] sz) := by
  refine met_z 0 0 (lv0 := [(0, .ref h0)]) (own := RX2) (by decide) rfl rfl (Nat.le_of_ble_eq_true rfl) rfl bI_n (fun Z g hret => ?_)
  have hX2 : ∀ w ∈ u_ws RX2 TX2 11, w ∈ wsX2_readPolynomial := fun w h => List.mem_cons_of_mem _ (List.mem_append_left _ (List.mem_append_left _ (List.mem_append_right _ (h))))
  refine z_aload_n g dX2_readPolynomial_0 0 rfl ?_
  refine z_get g hX2 0 rfl rfl 7 (by decide) (mi 1 rfl) rfl dX2_readPolynomial_1 ?_
  refine z_callVv (w' := [_, _, _, _, _]) (wr := [_, _, _]) g (k_X1_becomeZero l G k _ _ _) 0 gX2_readPolynomial_X1_becomeZero rfl rfl rfl nd_X1_becomeZero ⟨by decide, by decide⟩ 3 rfl rfl [3, 4] [0, 1, 2] [0, 1, 2, 3, 4] rfl rfl rfl rfl (by decide) rfl rfl rfl rfl (Nat.le_of_ble_eq_true rfl) dX2_readPolynomial_4 ⟨by decide, by decide⟩ ?_
  refine z_aload_n g dX2_readPolynomial_7 0 rfl ?_
  refine z_ic1 g dX2_readPolynomial_8 ?_
  refine z_callVi (w' := [_, _, _, _, _]) (wr := []) g (k_X2_readTerm l G k _ _ _ _ _ _ _ _ _ _ _ _ _ _ _ _ _ _ _ (by assumption) (by repeat (first | assumption | apply takesN_le | apply rnN_le | apply rpN_le | apply sgN_le | apply rrN_le | (apply dgN_le (by decide)) | apply rtS_le | apply rfS_le))) 1 gX2_readPolynomial_X2_readTerm rfl rfl rfl nd_X2_readTerm ⟨by decide, by decide⟩ 0 rfl rfl [0, 1, 2, 3, 4] [] [0, 1, 2, 3, 4] rfl rfl rfl rfl (by decide) rfl rfl rfl rfl (Nat.le_of_ble_eq_true rfl) dX2_readPolynomial_9 ⟨by decide, by decide⟩ ?_
  refine z_istore_n (lv' := [(1, .int _), (0, .ref _)]) g dX2_readPolynomial_12 (by decide) rfl ?_
  refine z_ic1 g dX2_readPolynomial_13 ?_
  refine z_istore_n (lv' := [(2, .int _), (1, .int _), (0, .ref _)]) g dX2_readPolynomial_14 (by decide) rfl ?_
  have cut_15 : ∀ (N15 : Nat) (s : Nat) (gd : Bool) (i' : Nat) (T' : Nat → Int64), 30 - s < N15 → (s ≤ 30) → (i' ≤ n) → (rlS f n (30 - s) gd i' T' = rpS f n i) → Z 0 0 [(h0, .inr (2, [.ref a0, .ref a1, .ref a2, .ref a3, .ref a4, .ref a5, .ref a6, .ref a7, .ref a8, .ref a9, .ref a10])), (a0, .inr (0, [.ref c0, .int (nI n), .int (nI i')])), (c0, .inl (k 0, 30, .inl f)), (a7, .inr (1, [.ref b7])), (b7, .inl (k 2, 7, .inr (.inl T')))] [(0, .ref h0), (1, .int (bI gd)), (2, .int (nI s))] 15 [] := by
    intro N15
    induction N15 with
    | zero => intro s gd i' T' hms; exact absurd hms (Nat.not_lt_zero _)
    | succ N15 ih15 =>
      intro s gd i' T' hms15 hs hi1 hI
      have cut_47 : (rpS f n i = (gd, i', T')) → Z 0 0 [(h0, .inr (2, [.ref a0, .ref a1, .ref a2, .ref a3, .ref a4, .ref a5, .ref a6, .ref a7, .ref a8, .ref a9, .ref a10])), (a0, .inr (0, [.ref c0, .int (nI n), .int (nI i')])), (c0, .inl (k 0, 30, .inl f)), (a7, .inr (1, [.ref b7])), (b7, .inl (k 2, 7, .inr (.inl T')))] [(0, .ref h0), (1, .int (bI gd))] 47 [] := by
        intro  hI5
        refine z_iload_n g dX2_readPolynomial_47 1 rfl ?_
        refine z_bf_eq g (tgt := 65) dX2_readPolynomial_48 (by decide) (fun b48 => ?_) (fun b48 => ?_)
        · refine z_ic0 g dX2_readPolynomial_65 ?_
          exact hret _ _ _ _ dX2_readPolynomial_66 ((by rw [hI5]; unfold rpB; simp only [reduceIte, if_neg (Bool.eq_false_iff.mp b48), Bool.false_eq_true] <;> rfl)) ((by rw [hI5]))
        · refine z_aload_n g dX2_readPolynomial_51 0 rfl ?_
          refine z_get g hX2 0 rfl rfl 0 (by decide) (mi 2 rfl) rfl dX2_readPolynomial_52 ?_
          refine z_callVi (w' := [_, _, _, _, _]) (wr := [_, _, _, _]) g (k_X0_isAtEnd l G k _ _ _ _ (by assumption) (by repeat (first | assumption | apply takesN_le | apply rnN_le | apply rpN_le | apply sgN_le | apply rrN_le | (apply dgN_le (by decide)) | apply rtS_le | apply rfS_le))) 0 gX2_readPolynomial_X0_isAtEnd rfl rfl rfl nd_X0_isAtEnd ⟨by decide, by decide⟩ 1 rfl rfl [1] [0, 2, 3, 4] [0, 4, 1, 2, 3] rfl rfl rfl rfl (by decide) rfl rfl rfl rfl (Nat.le_of_ble_eq_true rfl) dX2_readPolynomial_55 ⟨by decide, by decide⟩ ?_
          refine z_bd_eq g (tgt := 65) dX2_readPolynomial_58 (by decide) (fun b58 => ?_) (fun b58 => ?_)
          · refine z_ic0 g dX2_readPolynomial_65 ?_
            exact hret _ _ _ _ dX2_readPolynomial_66 ((by rw [hI5]; unfold rpB; simp only [reduceIte, if_pos b48, if_neg b58, Bool.false_eq_true] <;> rfl)) ((by rw [hI5]))
          · refine z_ic1 g dX2_readPolynomial_61 ?_
            refine z_goto g 66 dX2_readPolynomial_62 (by decide) ?_
            exact hret _ _ _ _ dX2_readPolynomial_66 ((by rw [hI5]; unfold rpB; simp only [reduceIte, if_pos b48, if_pos b58, Bool.false_eq_true] <;> rfl)) ((by rw [hI5]))
      refine z_iload_n g dX2_readPolynomial_15 2 rfl ?_
      refine z_bi g 30 dX2_readPolynomial_16 (by decide) ?_
      refine z_n_ge g (a := s) (b := 30) (tgt := 47) (by omega) (by omega) dX2_readPolynomial_18 (by decide) (fun b18 => ?_) (fun b18 => ?_)
      · refine z_locs (lv' := [(0, .ref _), (1, .int _)]) g [0, 1] rfl ?_
        exact cut_47 (by rw [← hI]; first | (rw [show 30 - s = 0 by omega]; rfl) | (rw [show 30 - s = (30 - (s + 1)) + 1 by omega]; show (if gd then _ else _) = _; simp only [reduceIte, if_pos b18, Bool.false_eq_true]))
      · refine z_iload_n g dX2_readPolynomial_21 1 rfl ?_
        refine z_bf_eq g (tgt := 47) dX2_readPolynomial_22 (by decide) (fun b22 => ?_) (fun b22 => ?_)
        · refine z_locs (lv' := [(0, .ref _), (1, .int _)]) g [0, 1] rfl ?_
          exact cut_47 (by rw [← hI]; first | (rw [show 30 - s = 0 by omega]; rfl) | (rw [show 30 - s = (30 - (s + 1)) + 1 by omega]; show (if gd then _ else _) = _; simp only [reduceIte, if_neg b18, if_neg (Bool.eq_false_iff.mp b22), Bool.false_eq_true]))
        · refine z_aload_n g dX2_readPolynomial_25 0 rfl ?_
          refine z_get g hX2 0 rfl rfl 0 (by decide) (mi 2 rfl) rfl dX2_readPolynomial_26 ?_
          refine z_callVi (w' := [_, _, _, _, _]) (wr := [_, _, _, _]) g (k_X0_isAtEnd l G k _ _ _ _ (by assumption) (by repeat (first | assumption | apply takesN_le | apply rnN_le | apply rpN_le | apply sgN_le | apply rrN_le | (apply dgN_le (by decide)) | apply rtS_le | apply rfS_le))) 0 gX2_readPolynomial_X0_isAtEnd rfl rfl rfl nd_X0_isAtEnd ⟨by decide, by decide⟩ 1 rfl rfl [1] [0, 2, 3, 4] [0, 4, 1, 2, 3] rfl rfl rfl rfl (by decide) rfl rfl rfl rfl (Nat.le_of_ble_eq_true rfl) dX2_readPolynomial_29 ⟨by decide, by decide⟩ ?_
          refine z_bd_ne g (tgt := 47) dX2_readPolynomial_32 (by decide) (fun b32 => ?_) (fun b32 => ?_)
          · refine z_locs (lv' := [(0, .ref _), (1, .int _)]) g [0, 1] rfl ?_
            exact cut_47 (by rw [← hI]; first | (rw [show 30 - s = 0 by omega]; rfl) | (rw [show 30 - s = (30 - (s + 1)) + 1 by omega]; show (if gd then _ else _) = _; simp only [reduceIte, if_neg b18, if_pos b22, if_pos b32, Bool.false_eq_true]))
          · refine z_aload_n g dX2_readPolynomial_35 0 rfl ?_
            refine z_ic0 g dX2_readPolynomial_36 ?_
            refine z_callVi (w' := [_, _, _, _, _]) (wr := []) g (k_X2_readTerm l G k _ _ _ _ _ _ _ _ _ _ _ _ _ _ _ _ _ _ _ (by assumption) (by repeat (first | assumption | apply takesN_le | apply rnN_le | apply rpN_le | apply sgN_le | apply rrN_le | (apply dgN_le (by decide)) | apply rtS_le | apply rfS_le))) 1 gX2_readPolynomial_X2_readTerm rfl rfl rfl nd_X2_readTerm ⟨by decide, by decide⟩ 0 rfl rfl [0, 1, 2, 3, 4] [] [0, 1, 2, 3, 4] rfl rfl rfl rfl (by decide) rfl rfl rfl rfl (Nat.le_of_ble_eq_true rfl) dX2_readPolynomial_37 ⟨by decide, by decide⟩ ?_
            refine z_istore_n (lv' := [(1, .int _), (0, .ref _), (2, .int _)]) g dX2_readPolynomial_40 (by decide) rfl ?_
            refine z_inc (lv' := [(2, .int _), (1, .int _), (0, .ref _)]) g dX2_readPolynomial_41 2 rfl (by decide) rfl ?_
            refine z_goto g 15 dX2_readPolynomial_44 (by decide) ?_
            refine z_locs (lv' := [(0, .ref _), (1, .int _), (2, .int _)]) g [2, 1, 0] rfl ?_
            exact ih15 (s + 1) _ _ _ (by omega) (by omega) (by repeat (first | assumption | apply takesN_le | apply rnN_le | apply rpN_le | apply sgN_le | apply rrN_le | (apply dgN_le (by decide)) | apply rtS_le | apply rfS_le)) (by rw [← hI, show 30 - s = (30 - (s + 1)) + 1 by omega]; show _ = if gd then _ else _; simp only [reduceIte, if_neg b18, if_pos b22, if_neg b32])
  refine z_locs (lv' := [(0, .ref _), (1, .int _), (2, .int _)]) g [2, 1, 0] rfl ?_
  exact cut_15 _ 1 _ _ _ (Nat.lt_succ_self _) (by decide) (by repeat (first | assumption | apply takesN_le | apply rnN_le | apply rpN_le | apply sgN_le | apply rrN_le | (apply dgN_le (by decide)) | apply rtS_le | apply rfS_le)) rfl
theorem nd_X2_readPolynomial : yX2_readPolynomial.cls = RX2 ∧ yX2_readPolynomial.cls ≠ "java/lang/invoke/MethodHandle" ∧ yX2_readPolynomial.cls ≠ "java/lang/invoke/VarHandle" ∧ (parseMethodDescriptor yX2_readPolynomial.desc).map (fun d => d.parameters.length) = some 0 := by decide +kernel
set_option maxHeartbeats 4000000 in
set_option maxRecDepth 100000 in
/-- readRoot() -/
theorem k_X2_readRoot (l : Launch) (G : va_G) (k : Nat → ClassId) (h0 a0 a1 a2 a3 a4 a5 a6 a7 a8 a9 a10 : Nat) (c0 : Nat) (f : Nat → Int32) (n i : Nat) (hn : n ≤ 30) (hi : i ≤ n) : ∀ sz, Met l yX2_readRoot wsX2_readRoot ({ frames := 2, cells := 0, slots := 0, locals := 43 }) (va_Pc [.ref h0] (KP G k [(h0, .inr (2, [.ref a0, .ref a1, .ref a2, .ref a3, .ref a4, .ref a5, .ref a6, .ref a7, .ref a8, .ref a9, .ref a10])), (a0, .inr (0, [.ref c0, .int (nI n), .int (nI i)])), (c0, .inl (k 0, 30, .inl f))] sz)) (va_Qi (fun r (_ : Unit) => r = rrV f n i) (KQ G [(h0, .inr (2, [.ref a0, .ref a1, .ref a2, .ref a3, .ref a4, .ref a5, .ref a6, .ref a7, .ref a8, .ref a9, .ref a10])), (a0, .inr (0, [.ref c0, .int (nI n), .int (nI (rrN f n i))])), (c0, .inl (k 0, 30, .inl f))] (va_A [(h0, .inr (2, [.ref a0, .ref a1, .ref a2, .ref a3, .ref a4, .ref a5, .ref a6, .ref a7, .ref a8, .ref a9, .ref a10])), (a0, .inr (0, [.ref c0, .int (nI n), .int (nI i)])), (c0, .inl (k 0, 30, .inl f))] sz)) (va_A [(h0, .inr (2, [.ref a0, .ref a1, .ref a2, .ref a3, .ref a4, .ref a5, .ref a6, .ref a7, .ref a8, .ref a9, .ref a10])), (a0, .inr (0, [.ref c0, .int (nI n), .int (nI i)])), (c0, .inl (k 0, 30, .inl f))] sz)) 0 0 (va_A [(h0, .inr (2, [.ref a0, .ref a1, .ref a2, .ref a3, .ref a4, .ref a5, .ref a6, .ref a7, .ref a8, .ref a9, .ref a10])), (a0, .inr (0, [.ref c0, .int (nI n), .int (nI i)])), (c0, .inl (k 0, 30, .inl f))] sz) := by
  refine met_i 0 0 (lv0 := [(0, .ref h0)]) (own := RX2) (by decide) rfl rfl (Nat.le_of_ble_eq_true rfl) rfl (fun Z g hret => ?_)
  have hX2 : ∀ w ∈ u_ws RX2 TX2 11, w ∈ wsX2_readRoot := fun w h => List.mem_cons_of_mem _ (List.mem_append_left _ (List.mem_append_right _ (h)))
  refine z_aload_n g dX2_readRoot_0 0 rfl ?_
  refine z_get g hX2 0 rfl rfl 0 (by decide) (mi 1 rfl) rfl dX2_readRoot_1 ?_
  refine z_bi g 45 dX2_readRoot_4 (by decide) ?_
  refine z_callVi (w' := [_, _, _]) (wr := [_]) g (k_X0_takes l G k _ _ _ _ _ _ (by assumption) (by repeat (first | assumption | apply takesN_le | apply rnN_le | apply rpN_le | apply sgN_le | apply rrN_le | (apply dgN_le (by decide)) | apply rtS_le | apply rfS_le))) 1 gX2_readRoot_X0_takes rfl rfl rfl nd_X0_takes ⟨by decide, by decide⟩ 1 rfl rfl [1, 2] [0] [0, 1, 2] rfl rfl rfl rfl (by decide) rfl rfl rfl rfl (Nat.le_of_ble_eq_true rfl) dX2_readRoot_6 ⟨by decide, by decide⟩ ?_
  refine z_istore_n (lv' := [(1, .int _), (0, .ref _)]) g dX2_readRoot_9 (by decide) rfl ?_
  refine z_iload_n g dX2_readRoot_10 0 rfl ?_
  refine z_bf_ne g (tgt := 28) dX2_readRoot_11 (by decide) (fun b11 => ?_) (fun b11 => ?_)
  · refine z_aload_n g dX2_readRoot_28 1 rfl ?_
    refine z_get g hX2 0 rfl rfl 0 (by decide) (mi 1 rfl) rfl dX2_readRoot_29 ?_
    refine z_ic1 g dX2_readRoot_32 ?_
    refine z_ic3 g dX2_readRoot_33 ?_
    refine z_callVi (w' := [_, _, _]) (wr := [_]) g (k_X0_takeDigit l G k _ _ _ _ _ _ _ (by assumption) (by repeat (first | assumption | apply takesN_le | apply rnN_le | apply rpN_le | apply sgN_le | apply rrN_le | (apply dgN_le (by decide)) | apply rtS_le | apply rfS_le))) 2 gX2_readRoot_X0_takeDigit rfl rfl rfl nd_X0_takeDigit ⟨by decide, by decide⟩ 1 rfl rfl [1, 2] [0] [0, 1, 2] rfl rfl rfl rfl (by decide) rfl rfl rfl rfl (Nat.le_of_ble_eq_true rfl) dX2_readRoot_34 ⟨by decide, by decide⟩ ?_
    refine z_istore_n (lv' := [(2, .int _), (1, .int _), (0, .ref _)]) g dX2_readRoot_37 (by decide) rfl ?_
    refine z_iload_n g dX2_readRoot_38 0 rfl ?_
    refine z_if_ge g (tgt := 44) dX2_readRoot_39 (by decide) (fun b39 => ?_) (fun b39 => ?_)
    · refine z_iload_n g dX2_readRoot_44 1 rfl ?_
      refine z_bf_eq g (tgt := 52) dX2_readRoot_45 (by decide) (fun b45 => ?_) (fun b45 => ?_)
      · exact absurd (b11.symm.trans b45) (by decide)
      · refine z_iload_n g dX2_readRoot_48 0 rfl ?_
        refine z_goto g 54 dX2_readRoot_49 (by decide) ?_
        exact hret _ _ _ _ dX2_readRoot_54 ((by first | (rw [b11] at b45; cases b45; done) | (simp only [rrV, if_pos b11, if_pos b39, if_pos b45, reduceIte, Bool.false_eq_true] <;> rfl))) ((by simp only [rrN, if_pos b11, if_pos b39, if_pos b45, reduceIte, Bool.false_eq_true] <;> rfl))
    · refine z_ic4 g dX2_readRoot_42 ?_
      exact hret _ _ _ _ dX2_readRoot_43 ((by first | (rw [b11] at b45; cases b45; done) | (simp only [rrV, if_pos b11, if_neg b39, reduceIte, Bool.false_eq_true] <;> rfl))) ((by simp only [rrN, if_pos b11, if_neg b39, reduceIte, Bool.false_eq_true] <;> rfl))
  · refine z_aload_n g dX2_readRoot_14 1 rfl ?_
    refine z_get g hX2 0 rfl rfl 0 (by decide) (mi 1 rfl) rfl dX2_readRoot_15 ?_
    refine z_bi g 43 dX2_readRoot_18 (by decide) ?_
    refine z_callVi (w' := [_, _, _]) (wr := [_]) g (k_X0_takes l G k _ _ _ _ _ _ (by assumption) (by repeat (first | assumption | apply takesN_le | apply rnN_le | apply rpN_le | apply sgN_le | apply rrN_le | (apply dgN_le (by decide)) | apply rtS_le | apply rfS_le))) 1 gX2_readRoot_X0_takes rfl rfl rfl nd_X0_takes ⟨by decide, by decide⟩ 1 rfl rfl [1, 2] [0] [0, 1, 2] rfl rfl rfl rfl (by decide) rfl rfl rfl rfl (Nat.le_of_ble_eq_true rfl) dX2_readRoot_20 ⟨by decide, by decide⟩ ?_
    refine z_bf_ne g (tgt := 28) dX2_readRoot_23 (by decide) (fun b23 => ?_) (fun b23 => ?_)
    · refine z_aload_n g dX2_readRoot_28 1 rfl ?_
      refine z_get g hX2 0 rfl rfl 0 (by decide) (mi 1 rfl) rfl dX2_readRoot_29 ?_
      refine z_ic1 g dX2_readRoot_32 ?_
      refine z_ic3 g dX2_readRoot_33 ?_
      refine z_callVi (w' := [_, _, _]) (wr := [_]) g (k_X0_takeDigit l G k _ _ _ _ _ _ _ (by assumption) (by repeat (first | assumption | apply takesN_le | apply rnN_le | apply rpN_le | apply sgN_le | apply rrN_le | (apply dgN_le (by decide)) | apply rtS_le | apply rfS_le))) 2 gX2_readRoot_X0_takeDigit rfl rfl rfl nd_X0_takeDigit ⟨by decide, by decide⟩ 1 rfl rfl [1, 2] [0] [0, 1, 2] rfl rfl rfl rfl (by decide) rfl rfl rfl rfl (Nat.le_of_ble_eq_true rfl) dX2_readRoot_34 ⟨by decide, by decide⟩ ?_
      refine z_istore_n (lv' := [(2, .int _), (1, .int _), (0, .ref _)]) g dX2_readRoot_37 (by decide) rfl ?_
      refine z_iload_n g dX2_readRoot_38 0 rfl ?_
      refine z_if_ge g (tgt := 44) dX2_readRoot_39 (by decide) (fun b39 => ?_) (fun b39 => ?_)
      · refine z_iload_n g dX2_readRoot_44 1 rfl ?_
        refine z_bf_eq g (tgt := 52) dX2_readRoot_45 (by decide) (fun b45 => ?_) (fun b45 => ?_)
        · refine z_iload_n g dX2_readRoot_52 0 rfl ?_
          refine z_ineg g dX2_readRoot_53 ?_
          exact hret _ _ _ _ dX2_readRoot_54 ((by first | (rw [b11] at b45; cases b45; done) | (simp only [rrV, if_neg (Bool.eq_false_iff.mp b11), if_pos b23, if_pos b39, if_neg (Bool.eq_false_iff.mp b45), reduceIte, Bool.false_eq_true] <;> rfl))) ((by simp only [rrN, if_neg (Bool.eq_false_iff.mp b11), if_pos b23, if_pos b39, if_neg (Bool.eq_false_iff.mp b45), reduceIte, Bool.false_eq_true] <;> rfl))
        · exact absurd (b11.symm.trans b45) (by decide)
      · refine z_ic4 g dX2_readRoot_42 ?_
        exact hret _ _ _ _ dX2_readRoot_43 ((by first | (rw [b11] at b45; cases b45; done) | (simp only [rrV, if_neg (Bool.eq_false_iff.mp b11), if_pos b23, if_neg b39, reduceIte, Bool.false_eq_true] <;> rfl))) ((by simp only [rrN, if_neg (Bool.eq_false_iff.mp b11), if_pos b23, if_neg b39, reduceIte, Bool.false_eq_true] <;> rfl))
    · refine z_ic0 g dX2_readRoot_26 ?_
      exact hret _ _ _ _ dX2_readRoot_27 ((by first | (rw [b11] at b45; cases b45; done) | (simp only [rrV, if_neg (Bool.eq_false_iff.mp b11), if_neg (Bool.eq_false_iff.mp b23), reduceIte, Bool.false_eq_true] <;> rfl))) ((by simp only [rrN, if_neg (Bool.eq_false_iff.mp b11), if_neg (Bool.eq_false_iff.mp b23), reduceIte, Bool.false_eq_true] <;> rfl))
theorem nd_X2_readRoot : yX2_readRoot.cls = RX2 ∧ yX2_readRoot.cls ≠ "java/lang/invoke/MethodHandle" ∧ yX2_readRoot.cls ≠ "java/lang/invoke/VarHandle" ∧ (parseMethodDescriptor yX2_readRoot.desc).map (fun d => d.parameters.length) = some 0 := by decide +kernel
set_option maxHeartbeats 4000000 in
set_option maxRecDepth 100000 in
/-- readFactor() -/
theorem k_X2_readFactor (l : Launch) (G : va_G) (k : Nat → ClassId) (h0 a0 a1 a2 a3 a4 a5 a6 a7 a8 a9 a10 : Nat) (c0 : Nat) (f : Nat → Int32) (n i : Nat) (T : Nat → Int32) (hn : n ≤ 30) (hi : i ≤ n) : ∀ sz, Met l yX2_readFactor wsX2_readFactor ({ frames := 3, cells := 0, slots := 0, locals := 65 }) (va_Pc [.ref h0] (KP G k [(h0, .inr (2, [.ref a0, .ref a1, .ref a2, .ref a3, .ref a4, .ref a5, .ref a6, .ref a7, .ref a8, .ref a9, .ref a10])), (a0, .inr (0, [.ref c0, .int (nI n), .int (nI i)])), (c0, .inl (k 0, 30, .inl f)), (a8, .inl (k 1, 7, .inl T))] sz)) (va_Qi (fun r (_ : Unit) => r = bI (rfS f n i T).1) (KQ G [(h0, .inr (2, [.ref a0, .ref a1, .ref a2, .ref a3, .ref a4, .ref a5, .ref a6, .ref a7, .ref a8, .ref a9, .ref a10])), (a0, .inr (0, [.ref c0, .int (nI n), .int (nI ((rfS f n i T).2.1))])), (c0, .inl (k 0, 30, .inl f)), (a8, .inl (k 1, 7, .inl ((rfS f n i T).2.2)))] (va_A [(h0, .inr (2, [.ref a0, .ref a1, .ref a2, .ref a3, .ref a4, .ref a5, .ref a6, .ref a7, .ref a8, .ref a9, .ref a10])), (a0, .inr (0, [.ref c0, .int (nI n), .int (nI i)])), (c0, .inl (k 0, 30, .inl f)), (a8, .inl (k 1, 7, .inl T))] sz)) (va_A [(h0, .inr (2, [.ref a0, .ref a1, .ref a2, .ref a3, .ref a4, .ref a5, .ref a6, .ref a7, .ref a8, .ref a9, .ref a10])), (a0, .inr (0, [.ref c0, .int (nI n), .int (nI i)])), (c0, .inl (k 0, 30, .inl f)), (a8, .inl (k 1, 7, .inl T))] sz)) 0 0 (va_A [(h0, .inr (2, [.ref a0, .ref a1, .ref a2, .ref a3, .ref a4, .ref a5, .ref a6, .ref a7, .ref a8, .ref a9, .ref a10])), (a0, .inr (0, [.ref c0, .int (nI n), .int (nI i)])), (c0, .inl (k 0, 30, .inl f)), (a8, .inl (k 1, 7, .inl T))] sz) := by
  refine met_z 0 0 (lv0 := [(0, .ref h0)]) (own := RX2) (by decide) rfl rfl (Nat.le_of_ble_eq_true rfl) rfl bI_n (fun Z g hret => ?_)
  have hX2 : ∀ w ∈ u_ws RX2 TX2 11, w ∈ wsX2_readFactor := fun w h => List.mem_cons_of_mem _ (List.mem_append_left _ (List.mem_append_right _ (h)))
  refine z_aload_n g dX2_readFactor_0 0 rfl ?_
  refine z_get g hX2 0 rfl rfl 0 (by decide) (mi 1 rfl) rfl dX2_readFactor_1 ?_
  refine z_bi g 40 dX2_readFactor_4 (by decide) ?_
  refine z_callVi (w' := [_, _, _, _]) (wr := [_, _]) g (k_X0_takes l G k _ _ _ _ _ _ (by assumption) (by repeat (first | assumption | apply takesN_le | apply rnN_le | apply rpN_le | apply sgN_le | apply rrN_le | (apply dgN_le (by decide)) | apply rtS_le | apply rfS_le))) 1 gX2_readFactor_X0_takes rfl rfl rfl nd_X0_takes ⟨by decide, by decide⟩ 1 rfl rfl [1, 2] [0, 3] [0, 2, 3, 1] rfl rfl rfl rfl (by decide) rfl rfl rfl rfl (Nat.le_of_ble_eq_true rfl) dX2_readFactor_6 ⟨by decide, by decide⟩ ?_
  refine z_bf_eq g (tgt := 24) dX2_readFactor_9 (by decide) (fun b9 => ?_) (fun b9 => ?_)
  · refine z_ic0 g dX2_readFactor_24 ?_
    exact hret _ _ _ _ dX2_readFactor_25 ((by simp only [rfS, rfB, rfC, if_neg (Bool.eq_false_iff.mp b9), reduceIte, Bool.false_eq_true] <;> rfl)) ((by simp only [rfS, rfB, rfC, if_neg (Bool.eq_false_iff.mp b9), reduceIte, Bool.false_eq_true]))
  · refine z_aload_n g dX2_readFactor_12 0 rfl ?_
    refine z_get g hX2 0 rfl rfl 0 (by decide) (mi 1 rfl) rfl dX2_readFactor_13 ?_
    refine z_bi g 120 dX2_readFactor_16 (by decide) ?_
    refine z_callVi (w' := [_, _, _, _]) (wr := [_, _]) g (k_X0_takes l G k _ _ _ _ _ _ (by assumption) (by repeat (first | assumption | apply takesN_le | apply rnN_le | apply rpN_le | apply sgN_le | apply rrN_le | (apply dgN_le (by decide)) | apply rtS_le | apply rfS_le))) 1 gX2_readFactor_X0_takes rfl rfl rfl nd_X0_takes ⟨by decide, by decide⟩ 1 rfl rfl [1, 2] [0, 3] [0, 2, 3, 1] rfl rfl rfl rfl (by decide) rfl rfl rfl rfl (Nat.le_of_ble_eq_true rfl) dX2_readFactor_18 ⟨by decide, by decide⟩ ?_
    refine z_bf_ne g (tgt := 26) dX2_readFactor_21 (by decide) (fun b21 => ?_) (fun b21 => ?_)
    · refine z_aload_n g dX2_readFactor_26 0 rfl ?_
      refine z_callVi (w' := [_, _, _, _]) (wr := [_]) g (k_X2_readRoot l G k _ _ _ _ _ _ _ _ _ _ _ _ _ _ _ _ (by assumption) (by repeat (first | assumption | apply takesN_le | apply rnN_le | apply rpN_le | apply sgN_le | apply rrN_le | (apply dgN_le (by decide)) | apply rtS_le | apply rfS_le))) 0 gX2_readFactor_X2_readRoot rfl rfl rfl nd_X2_readRoot ⟨by decide, by decide⟩ 0 rfl rfl [0, 1, 2] [3] [1, 2, 3, 0] rfl rfl rfl rfl (by decide) rfl rfl rfl rfl (Nat.le_of_ble_eq_true rfl) dX2_readFactor_27 ⟨by decide, by decide⟩ ?_
      refine z_istore_n (lv' := [(1, .int _), (0, .ref _)]) g dX2_readFactor_30 (by decide) rfl ?_
      refine z_iload_n g dX2_readFactor_31 0 rfl ?_
      refine z_callSi (w' := [_, _, _, _]) (wr := [_, _, _, _]) g (k_X2_isPossibleRoot l G k _) 1 gX2_readFactor_X2_isPossibleRoot rfl rfl rfl nd_X2_isPossibleRoot ⟨by decide, by decide⟩ [] [0, 1, 2, 3] [0, 1, 2, 3] rfl rfl rfl rfl (by decide) rfl rfl rfl rfl (Nat.le_of_ble_eq_true rfl) dX2_readFactor_32 ⟨by decide, by decide⟩ ?_
      refine z_bf_eq g (tgt := 50) dX2_readFactor_35 (by decide) (fun b35 => ?_) (fun b35 => ?_)
      · refine z_ic0 g dX2_readFactor_50 ?_
        exact hret _ _ _ _ dX2_readFactor_51 ((by simp only [rfS, rfB, rfC, if_pos b9, if_pos b21, if_neg (Bool.eq_false_iff.mp b35), reduceIte, Bool.false_eq_true] <;> rfl)) ((by simp only [rfS, rfB, rfC, if_pos b9, if_pos b21, if_neg (Bool.eq_false_iff.mp b35), reduceIte, Bool.false_eq_true]))
      · refine z_aload_n g dX2_readFactor_38 1 rfl ?_
        refine z_get g hX2 0 rfl rfl 0 (by decide) (mi 1 rfl) rfl dX2_readFactor_39 ?_
        refine z_bi g 41 dX2_readFactor_42 (by decide) ?_
        refine z_callVi (w' := [_, _, _, _]) (wr := [_, _]) g (k_X0_takes l G k _ _ _ _ _ _ (by assumption) (by repeat (first | assumption | apply takesN_le | apply rnN_le | apply rpN_le | apply sgN_le | apply rrN_le | (apply dgN_le (by decide)) | apply rtS_le | apply rfS_le))) 1 gX2_readFactor_X0_takes rfl rfl rfl nd_X0_takes ⟨by decide, by decide⟩ 1 rfl rfl [1, 2] [0, 3] [0, 2, 3, 1] rfl rfl rfl rfl (by decide) rfl rfl rfl rfl (Nat.le_of_ble_eq_true rfl) dX2_readFactor_44 ⟨by decide, by decide⟩ ?_
        refine z_bf_ne g (tgt := 52) dX2_readFactor_47 (by decide) (fun b47 => ?_) (fun b47 => ?_)
        · refine z_aload_n g dX2_readFactor_52 1 rfl ?_
          refine z_get g hX2 0 rfl rfl 0 (by decide) (mi 1 rfl) rfl dX2_readFactor_53 ?_
          refine z_bi g 94 dX2_readFactor_56 (by decide) ?_
          refine z_callVi (w' := [_, _, _, _]) (wr := [_, _]) g (k_X0_takes l G k _ _ _ _ _ _ (by assumption) (by repeat (first | assumption | apply takesN_le | apply rnN_le | apply rpN_le | apply sgN_le | apply rrN_le | (apply dgN_le (by decide)) | apply rtS_le | apply rfS_le))) 1 gX2_readFactor_X0_takes rfl rfl rfl nd_X0_takes ⟨by decide, by decide⟩ 1 rfl rfl [1, 2] [0, 3] [0, 2, 3, 1] rfl rfl rfl rfl (by decide) rfl rfl rfl rfl (Nat.le_of_ble_eq_true rfl) dX2_readFactor_58 ⟨by decide, by decide⟩ ?_
          refine z_bf_eq g (tgt := 76) dX2_readFactor_61 (by decide) (fun b61 => ?_) (fun b61 => ?_)
          · refine z_ic1 g dX2_readFactor_76 ?_
            refine z_istore_n (lv' := [(2, .int _), (1, .int _), (0, .ref _)]) g dX2_readFactor_77 (by decide) rfl ?_
            refine z_iload_n g dX2_readFactor_78 0 rfl ?_
            refine z_if_ge g (tgt := 84) dX2_readFactor_79 (by decide) (fun b79 => ?_) (fun b79 => ?_)
            · refine z_aload_n g dX2_readFactor_84 2 rfl ?_
              refine z_get g hX2 0 rfl rfl 8 (by decide) (mi 2 rfl) rfl dX2_readFactor_85 ?_
              refine z_iload_n g dX2_readFactor_88 1 rfl ?_
              refine z_bi g (-3) dX2_readFactor_89 (by decide) ?_
              refine z_isub g dX2_readFactor_91 ?_
              refine z_dup2 g dX2_readFactor_92 rfl rfl ?_
              refine z_iald g 3 rfl (rix (rrV f n (takesN f n (takesN f n i 40) 120))) (rix_ok b35).1 (rix_ok b35).2 (by decide) dX2_readFactor_93 ?_
              refine z_iload_n g dX2_readFactor_94 0 rfl ?_
              refine z_iadd g dX2_readFactor_95 ?_
              refine z_iast (w' := [_, _, _, _]) g 3 rfl (rix (rrV f n (takesN f n (takesN f n i 40) 120))) (rix_ok b35).1 (rix_ok b35).2 (by decide) dX2_readFactor_96 rfl ?_
              refine z_ic1 g dX2_readFactor_97 ?_
              exact hret _ _ _ _ dX2_readFactor_98 ((by simp only [rfS, rfB, rfC, if_pos b9, if_pos b21, if_pos b35, if_pos b47, if_neg (Bool.eq_false_iff.mp b61), if_pos b79, reduceIte, Bool.false_eq_true] <;> rfl)) ((by simp only [rfS, rfB, rfC, if_pos b9, if_pos b21, if_pos b35, if_pos b47, if_neg (Bool.eq_false_iff.mp b61), if_pos b79, reduceIte, Bool.false_eq_true]))
            · first | exact absurd b79 (by decide) | exact absurd (by decide) b79
          · refine z_aload_n g dX2_readFactor_64 1 rfl ?_
            refine z_get g hX2 0 rfl rfl 0 (by decide) (mi 1 rfl) rfl dX2_readFactor_65 ?_
            refine z_ic1 g dX2_readFactor_68 ?_
            refine z_ic3 g dX2_readFactor_69 ?_
            refine z_callVi (w' := [_, _, _, _]) (wr := [_, _]) g (k_X0_takeDigit l G k _ _ _ _ _ _ _ (by assumption) (by repeat (first | assumption | apply takesN_le | apply rnN_le | apply rpN_le | apply sgN_le | apply rrN_le | (apply dgN_le (by decide)) | apply rtS_le | apply rfS_le))) 2 gX2_readFactor_X0_takeDigit rfl rfl rfl nd_X0_takeDigit ⟨by decide, by decide⟩ 1 rfl rfl [1, 2] [0, 3] [0, 2, 3, 1] rfl rfl rfl rfl (by decide) rfl rfl rfl rfl (Nat.le_of_ble_eq_true rfl) dX2_readFactor_70 ⟨by decide, by decide⟩ ?_
            refine z_goto g 77 dX2_readFactor_73 (by decide) ?_
            refine z_istore_n (lv' := [(2, .int _), (1, .int _), (0, .ref _)]) g dX2_readFactor_77 (by decide) rfl ?_
            refine z_iload_n g dX2_readFactor_78 0 rfl ?_
            refine z_if_ge g (tgt := 84) dX2_readFactor_79 (by decide) (fun b79 => ?_) (fun b79 => ?_)
            · refine z_aload_n g dX2_readFactor_84 2 rfl ?_
              refine z_get g hX2 0 rfl rfl 8 (by decide) (mi 2 rfl) rfl dX2_readFactor_85 ?_
              refine z_iload_n g dX2_readFactor_88 1 rfl ?_
              refine z_bi g (-3) dX2_readFactor_89 (by decide) ?_
              refine z_isub g dX2_readFactor_91 ?_
              refine z_dup2 g dX2_readFactor_92 rfl rfl ?_
              refine z_iald g 3 rfl (rix (rrV f n (takesN f n (takesN f n i 40) 120))) (rix_ok b35).1 (rix_ok b35).2 (by decide) dX2_readFactor_93 ?_
              refine z_iload_n g dX2_readFactor_94 0 rfl ?_
              refine z_iadd g dX2_readFactor_95 ?_
              refine z_iast (w' := [_, _, _, _]) g 3 rfl (rix (rrV f n (takesN f n (takesN f n i 40) 120))) (rix_ok b35).1 (rix_ok b35).2 (by decide) dX2_readFactor_96 rfl ?_
              refine z_ic1 g dX2_readFactor_97 ?_
              exact hret _ _ _ _ dX2_readFactor_98 ((by simp only [rfS, rfB, rfC, if_pos b9, if_pos b21, if_pos b35, if_pos b47, if_pos b61, if_pos b79, reduceIte, Bool.false_eq_true] <;> rfl)) ((by simp only [rfS, rfB, rfC, if_pos b9, if_pos b21, if_pos b35, if_pos b47, if_pos b61, if_pos b79, reduceIte, Bool.false_eq_true]))
            · refine z_ic0 g dX2_readFactor_82 ?_
              exact hret _ _ _ _ dX2_readFactor_83 ((by simp only [rfS, rfB, rfC, if_pos b9, if_pos b21, if_pos b35, if_pos b47, if_pos b61, if_neg b79, reduceIte, Bool.false_eq_true] <;> rfl)) ((by simp only [rfS, rfB, rfC, if_pos b9, if_pos b21, if_pos b35, if_pos b47, if_pos b61, if_neg b79, reduceIte, Bool.false_eq_true]))
        · refine z_ic0 g dX2_readFactor_50 ?_
          exact hret _ _ _ _ dX2_readFactor_51 ((by simp only [rfS, rfB, rfC, if_pos b9, if_pos b21, if_pos b35, if_neg (Bool.eq_false_iff.mp b47), reduceIte, Bool.false_eq_true] <;> rfl)) ((by simp only [rfS, rfB, rfC, if_pos b9, if_pos b21, if_pos b35, if_neg (Bool.eq_false_iff.mp b47), reduceIte, Bool.false_eq_true]))
    · refine z_ic0 g dX2_readFactor_24 ?_
      exact hret _ _ _ _ dX2_readFactor_25 ((by simp only [rfS, rfB, rfC, if_pos b9, if_neg (Bool.eq_false_iff.mp b21), reduceIte, Bool.false_eq_true] <;> rfl)) ((by simp only [rfS, rfB, rfC, if_pos b9, if_neg (Bool.eq_false_iff.mp b21), reduceIte, Bool.false_eq_true]))
theorem nd_X2_readFactor : yX2_readFactor.cls = RX2 ∧ yX2_readFactor.cls ≠ "java/lang/invoke/MethodHandle" ∧ yX2_readFactor.cls ≠ "java/lang/invoke/VarHandle" ∧ (parseMethodDescriptor yX2_readFactor.desc).map (fun d => d.parameters.length) = some 0 := by decide +kernel
set_option maxHeartbeats 4000000 in
set_option maxRecDepth 100000 in
/-- Arrays.fill(int[], int) -/
theorem k_J7_fill_53178 (l : Launch) (G : va_G) (k : Nat → ClassId) (h0 n : Nat) (f : Nat → Int32) (p0 : Int32) (hn : n < 2 ^ 31) : ∀ sz, Met l yJ7_fill_53178 wsJ7_fill_53178 ({ frames := 0, cells := 0, slots := 0, locals := 0 }) (va_Pc [.ref h0, .int p0] (KP G k [(h0, .inl (k 1, n, .inl f))] sz)) (va_Qv (fun (_ : Unit) => True) (KQ G [(h0, .inl (k 1, n, .inl (fun _ => p0)))] (va_A [(h0, .inl (k 1, n, .inl f))] sz)) (va_A [(h0, .inl (k 1, n, .inl f))] sz)) 0 0 (va_A [(h0, .inl (k 1, n, .inl f))] sz) := by
  refine met_v 0 0 (lv0 := [(0, .ref h0), (1, .int p0)]) (own := RJ7) (by decide) rfl rfl (Nat.le_of_ble_eq_true rfl) rfl (fun Z g hret => ?_)
  refine z_ic0 g dJ7_fill_53178_0 ?_
  refine z_istore_n (lv' := [(2, .int _), (0, .ref _), (1, .int _)]) g dJ7_fill_53178_1 (by decide) rfl ?_
  refine z_aload_n g dJ7_fill_53178_2 1 rfl ?_
  refine z_alen g 0 1 rfl rfl (nI n) rfl dJ7_fill_53178_3 ?_
  refine z_istore_n (lv' := [(3, .int _), (2, .int _), (0, .ref _), (1, .int _)]) g dJ7_fill_53178_4 (by decide) rfl ?_
  have cut_5 : ∀ (N5 : Nat) (j : Nat) (f' : Nat → Int32), n - j < N5 → (j ≤ n) → (∀ i, i < j → f' i = p0) → Z 0 0 [(h0, .inl (k 1, n, .inl f'))] [(0, .ref h0), (1, .int p0), (2, .int (nI j)), (3, .int (nI n))] 5 [] := by
    intro N5
    induction N5 with
    | zero => intro j f' hms; exact absurd hms (Nat.not_lt_zero _)
    | succ N5 ih5 =>
      intro j f' hms5 hj hI
      refine z_iload_n g dJ7_fill_53178_5 2 rfl ?_
      refine z_iload_n g dJ7_fill_53178_6 3 rfl ?_
      refine z_n_ge g (a := j) (b := n) (tgt := 20) (by omega) (by omega) dJ7_fill_53178_7 (by decide) (fun b7 => ?_) (fun b7 => ?_)
      · refine z_eqI (w' := [_]) g (fun _ => p0) 0 rfl (fun i h => hI i (by omega)) rfl ?_
        exact hret _ _ _ dJ7_fill_53178_20 (rfl)
      · refine z_aload_n g dJ7_fill_53178_10 0 rfl ?_
        refine z_iload_n g dJ7_fill_53178_11 2 rfl ?_
        refine z_iload_n g dJ7_fill_53178_12 1 rfl ?_
        refine z_iast (w' := [_]) g 0 rfl j rfl (by omega) (by assumption) dJ7_fill_53178_13 rfl ?_
        refine z_inc (lv' := [(2, .int _), (0, .ref _), (1, .int _), (3, .int _)]) g dJ7_fill_53178_14 2 rfl (by decide) rfl ?_
        refine z_goto g 5 dJ7_fill_53178_17 (by decide) ?_
        refine z_locs (lv' := [(0, .ref _), (1, .int _), (2, .int _), (3, .int _)]) g [1, 2, 0, 3] rfl ?_
        exact ih5 _ _ (by omega) (by omega) (fun i h => by unfold upd; split; rfl; exact hI i (by omega))
  refine z_locs (lv' := [(0, .ref _), (1, .int _), (2, .int _), (3, .int _)]) g [2, 3, 1, 0] rfl ?_
  exact cut_5 _ _ _ (Nat.lt_succ_self _) (Nat.zero_le _) (fun i h => absurd h (Nat.not_lt_zero _))
theorem nd_J7_fill_53178 : yJ7_fill_53178.cls ≠ "java/lang/invoke/MethodHandle" ∧ yJ7_fill_53178.cls ≠ "java/lang/invoke/VarHandle" ∧ (parseMethodDescriptor yJ7_fill_53178.desc).map (fun d => d.parameters.length) = some 2 := by decide +kernel
set_option maxHeartbeats 4000000 in
set_option maxRecDepth 100000 in
/-- readProduct() -/
theorem k_X2_readProduct (l : Launch) (G : va_G) (k : Nat → ClassId) (h0 a0 a1 a2 a3 a4 a5 a6 a7 a8 a9 a10 : Nat) (c0 : Nat) (f : Nat → Int32) (n i : Nat) (T : Nat → Int32) (hn : n ≤ 30) (hi : i ≤ n) : ∀ sz, Met l yX2_readProduct wsX2_readProduct ({ frames := 4, cells := 0, slots := 0, locals := 87 }) (va_Pc [.ref h0] (KP G k [(h0, .inr (2, [.ref a0, .ref a1, .ref a2, .ref a3, .ref a4, .ref a5, .ref a6, .ref a7, .ref a8, .ref a9, .ref a10])), (a0, .inr (0, [.ref c0, .int (nI n), .int (nI i)])), (c0, .inl (k 0, 30, .inl f)), (a8, .inl (k 1, 7, .inl T))] sz)) (va_Qi (fun r (_ : Unit) => r = bI (fpB n (fpS f n i))) (KQ G [(h0, .inr (2, [.ref a0, .ref a1, .ref a2, .ref a3, .ref a4, .ref a5, .ref a6, .ref a7, .ref a8, .ref a9, .ref a10])), (a0, .inr (0, [.ref c0, .int (nI n), .int (nI ((fpS f n i).2.1))])), (c0, .inl (k 0, 30, .inl f)), (a8, .inl (k 1, 7, .inl ((fpS f n i).2.2)))] (va_A [(h0, .inr (2, [.ref a0, .ref a1, .ref a2, .ref a3, .ref a4, .ref a5, .ref a6, .ref a7, .ref a8, .ref a9, .ref a10])), (a0, .inr (0, [.ref c0, .int (nI n), .int (nI i)])), (c0, .inl (k 0, 30, .inl f)), (a8, .inl (k 1, 7, .inl T))] sz)) (va_A [(h0, .inr (2, [.ref a0, .ref a1, .ref a2, .ref a3, .ref a4, .ref a5, .ref a6, .ref a7, .ref a8, .ref a9, .ref a10])), (a0, .inr (0, [.ref c0, .int (nI n), .int (nI i)])), (c0, .inl (k 0, 30, .inl f)), (a8, .inl (k 1, 7, .inl T))] sz)) 0 0 (va_A [(h0, .inr (2, [.ref a0, .ref a1, .ref a2, .ref a3, .ref a4, .ref a5, .ref a6, .ref a7, .ref a8, .ref a9, .ref a10])), (a0, .inr (0, [.ref c0, .int (nI n), .int (nI i)])), (c0, .inl (k 0, 30, .inl f)), (a8, .inl (k 1, 7, .inl T))] sz) := by
  refine met_z 0 0 (lv0 := [(0, .ref h0)]) (own := RX2) (by decide) rfl rfl (Nat.le_of_ble_eq_true rfl) rfl bI_n (fun Z g hret => ?_)
  have hX2 : ∀ w ∈ u_ws RX2 TX2 11, w ∈ wsX2_readProduct := fun w h => List.mem_cons_of_mem _ (List.mem_append_left _ (List.mem_append_right _ (h)))
  refine z_aload_n g dX2_readProduct_0 0 rfl ?_
  refine z_get g hX2 0 rfl rfl 8 (by decide) (mi 1 rfl) rfl dX2_readProduct_1 ?_
  refine z_ic0 g dX2_readProduct_4 ?_
  refine z_callSv (w' := [_, _, _, _]) (wr := [_, _, _]) g (k_J7_fill_53178 l G k _ _ _ _ (by decide)) 2 gX2_readProduct_J7_fill_53178 rfl rfl rfl nd_J7_fill_53178 ⟨by decide, by decide⟩ [3] [0, 1, 2] [0, 1, 2, 3] rfl rfl rfl rfl (by decide) rfl rfl rfl rfl (Nat.le_of_ble_eq_true rfl) dX2_readProduct_5 ⟨by decide, by decide⟩ ?_
  refine z_aload_n g dX2_readProduct_8 0 rfl ?_
  refine z_callVi (w' := [_, _, _, _]) (wr := []) g (k_X2_readFactor l G k _ _ _ _ _ _ _ _ _ _ _ _ _ _ _ _ _ (by assumption) (by repeat (first | assumption | apply takesN_le | apply rnN_le | apply rpN_le | apply sgN_le | apply rrN_le | (apply dgN_le (by decide)) | apply rtS_le | apply rfS_le))) 0 gX2_readProduct_X2_readFactor rfl rfl rfl nd_X2_readFactor ⟨by decide, by decide⟩ 0 rfl rfl [0, 1, 2, 3] [] [0, 1, 2, 3] rfl rfl rfl rfl (by decide) rfl rfl rfl rfl (Nat.le_of_ble_eq_true rfl) dX2_readProduct_9 ⟨by decide, by decide⟩ ?_
  refine z_istore_n (lv' := [(1, .int _), (0, .ref _)]) g dX2_readProduct_12 (by decide) rfl ?_
  refine z_ic1 g dX2_readProduct_13 ?_
  refine z_istore_n (lv' := [(2, .int _), (1, .int _), (0, .ref _)]) g dX2_readProduct_14 (by decide) rfl ?_
  have cut_15 : ∀ (N15 : Nat) (s : Nat) (gd : Bool) (i' : Nat) (T' : Nat → Int32), 30 - s < N15 → (s ≤ 30) → (i' ≤ n) → (flS f n (30 - s) gd i' T' = fpS f n i) → Z 0 0 [(h0, .inr (2, [.ref a0, .ref a1, .ref a2, .ref a3, .ref a4, .ref a5, .ref a6, .ref a7, .ref a8, .ref a9, .ref a10])), (a0, .inr (0, [.ref c0, .int (nI n), .int (nI i')])), (c0, .inl (k 0, 30, .inl f)), (a8, .inl (k 1, 7, .inl T'))] [(0, .ref h0), (1, .int (bI gd)), (2, .int (nI s))] 15 [] := by
    intro N15
    induction N15 with
    | zero => intro s gd i' T' hms; exact absurd hms (Nat.not_lt_zero _)
    | succ N15 ih15 =>
      intro s gd i' T' hms15 hs hi1 hI
      have cut_46 : (fpS f n i = (gd, i', T')) → Z 0 0 [(h0, .inr (2, [.ref a0, .ref a1, .ref a2, .ref a3, .ref a4, .ref a5, .ref a6, .ref a7, .ref a8, .ref a9, .ref a10])), (a0, .inr (0, [.ref c0, .int (nI n), .int (nI i')])), (c0, .inl (k 0, 30, .inl f)), (a8, .inl (k 1, 7, .inl T'))] [(0, .ref h0), (1, .int (bI gd))] 46 [] := by
        intro  hI5
        refine z_iload_n g dX2_readProduct_46 1 rfl ?_
        refine z_bf_eq g (tgt := 64) dX2_readProduct_47 (by decide) (fun b47 => ?_) (fun b47 => ?_)
        · refine z_ic0 g dX2_readProduct_64 ?_
          exact hret _ _ _ _ dX2_readProduct_65 ((by rw [hI5]; unfold fpB; simp only [reduceIte, if_neg (Bool.eq_false_iff.mp b47), Bool.false_eq_true] <;> rfl)) ((by rw [hI5]))
        · refine z_aload_n g dX2_readProduct_50 0 rfl ?_
          refine z_get g hX2 0 rfl rfl 0 (by decide) (mi 2 rfl) rfl dX2_readProduct_51 ?_
          refine z_callVi (w' := [_, _, _, _]) (wr := [_, _, _]) g (k_X0_isAtEnd l G k _ _ _ _ (by assumption) (by repeat (first | assumption | apply takesN_le | apply rnN_le | apply rpN_le | apply sgN_le | apply rrN_le | (apply dgN_le (by decide)) | apply rtS_le | apply rfS_le))) 0 gX2_readProduct_X0_isAtEnd rfl rfl rfl nd_X0_isAtEnd ⟨by decide, by decide⟩ 1 rfl rfl [1] [0, 2, 3] [0, 3, 1, 2] rfl rfl rfl rfl (by decide) rfl rfl rfl rfl (Nat.le_of_ble_eq_true rfl) dX2_readProduct_54 ⟨by decide, by decide⟩ ?_
          refine z_bd_eq g (tgt := 64) dX2_readProduct_57 (by decide) (fun b57 => ?_) (fun b57 => ?_)
          · refine z_ic0 g dX2_readProduct_64 ?_
            exact hret _ _ _ _ dX2_readProduct_65 ((by rw [hI5]; unfold fpB; simp only [reduceIte, if_pos b47, if_neg b57, Bool.false_eq_true] <;> rfl)) ((by rw [hI5]))
          · refine z_ic1 g dX2_readProduct_60 ?_
            refine z_goto g 65 dX2_readProduct_61 (by decide) ?_
            exact hret _ _ _ _ dX2_readProduct_65 ((by rw [hI5]; unfold fpB; simp only [reduceIte, if_pos b47, if_pos b57, Bool.false_eq_true] <;> rfl)) ((by rw [hI5]))
      refine z_iload_n g dX2_readProduct_15 2 rfl ?_
      refine z_bi g 30 dX2_readProduct_16 (by decide) ?_
      refine z_n_ge g (a := s) (b := 30) (tgt := 46) (by omega) (by omega) dX2_readProduct_18 (by decide) (fun b18 => ?_) (fun b18 => ?_)
      · refine z_locs (lv' := [(0, .ref _), (1, .int _)]) g [0, 1] rfl ?_
        exact cut_46 (by rw [← hI]; first | (rw [show 30 - s = 0 by omega]; rfl) | (rw [show 30 - s = (30 - (s + 1)) + 1 by omega]; show (if gd then _ else _) = _; simp only [reduceIte, if_pos b18, Bool.false_eq_true]))
      · refine z_iload_n g dX2_readProduct_21 1 rfl ?_
        refine z_bf_eq g (tgt := 46) dX2_readProduct_22 (by decide) (fun b22 => ?_) (fun b22 => ?_)
        · refine z_locs (lv' := [(0, .ref _), (1, .int _)]) g [0, 1] rfl ?_
          exact cut_46 (by rw [← hI]; first | (rw [show 30 - s = 0 by omega]; rfl) | (rw [show 30 - s = (30 - (s + 1)) + 1 by omega]; show (if gd then _ else _) = _; simp only [reduceIte, if_neg b18, if_neg (Bool.eq_false_iff.mp b22), Bool.false_eq_true]))
        · refine z_aload_n g dX2_readProduct_25 0 rfl ?_
          refine z_get g hX2 0 rfl rfl 0 (by decide) (mi 2 rfl) rfl dX2_readProduct_26 ?_
          refine z_callVi (w' := [_, _, _, _]) (wr := [_, _, _]) g (k_X0_isAtEnd l G k _ _ _ _ (by assumption) (by repeat (first | assumption | apply takesN_le | apply rnN_le | apply rpN_le | apply sgN_le | apply rrN_le | (apply dgN_le (by decide)) | apply rtS_le | apply rfS_le))) 0 gX2_readProduct_X0_isAtEnd rfl rfl rfl nd_X0_isAtEnd ⟨by decide, by decide⟩ 1 rfl rfl [1] [0, 2, 3] [0, 3, 1, 2] rfl rfl rfl rfl (by decide) rfl rfl rfl rfl (Nat.le_of_ble_eq_true rfl) dX2_readProduct_29 ⟨by decide, by decide⟩ ?_
          refine z_bd_ne g (tgt := 46) dX2_readProduct_32 (by decide) (fun b32 => ?_) (fun b32 => ?_)
          · refine z_locs (lv' := [(0, .ref _), (1, .int _)]) g [0, 1] rfl ?_
            exact cut_46 (by rw [← hI]; first | (rw [show 30 - s = 0 by omega]; rfl) | (rw [show 30 - s = (30 - (s + 1)) + 1 by omega]; show (if gd then _ else _) = _; simp only [reduceIte, if_neg b18, if_pos b22, if_pos b32, Bool.false_eq_true]))
          · refine z_aload_n g dX2_readProduct_35 0 rfl ?_
            refine z_callVi (w' := [_, _, _, _]) (wr := []) g (k_X2_readFactor l G k _ _ _ _ _ _ _ _ _ _ _ _ _ _ _ _ _ (by assumption) (by repeat (first | assumption | apply takesN_le | apply rnN_le | apply rpN_le | apply sgN_le | apply rrN_le | (apply dgN_le (by decide)) | apply rtS_le | apply rfS_le))) 0 gX2_readProduct_X2_readFactor rfl rfl rfl nd_X2_readFactor ⟨by decide, by decide⟩ 0 rfl rfl [0, 1, 2, 3] [] [0, 1, 2, 3] rfl rfl rfl rfl (by decide) rfl rfl rfl rfl (Nat.le_of_ble_eq_true rfl) dX2_readProduct_36 ⟨by decide, by decide⟩ ?_
            refine z_istore_n (lv' := [(1, .int _), (0, .ref _), (2, .int _)]) g dX2_readProduct_39 (by decide) rfl ?_
            refine z_inc (lv' := [(2, .int _), (1, .int _), (0, .ref _)]) g dX2_readProduct_40 2 rfl (by decide) rfl ?_
            refine z_goto g 15 dX2_readProduct_43 (by decide) ?_
            refine z_locs (lv' := [(0, .ref _), (1, .int _), (2, .int _)]) g [2, 1, 0] rfl ?_
            exact ih15 (s + 1) _ _ _ (by omega) (by omega) (by repeat (first | assumption | apply takesN_le | apply rnN_le | apply rpN_le | apply sgN_le | apply rrN_le | (apply dgN_le (by decide)) | apply rtS_le | apply rfS_le)) (by rw [← hI, show 30 - s = (30 - (s + 1)) + 1 by omega]; show _ = if gd then _ else _; simp only [reduceIte, if_neg b18, if_pos b22, if_neg b32])
  refine z_locs (lv' := [(0, .ref _), (1, .int _), (2, .int _)]) g [2, 1, 0] rfl ?_
  exact cut_15 _ 1 _ _ _ (Nat.lt_succ_self _) (by decide) (by repeat (first | assumption | apply takesN_le | apply rnN_le | apply rpN_le | apply sgN_le | apply rrN_le | (apply dgN_le (by decide)) | apply rtS_le | apply rfS_le)) rfl
theorem nd_X2_readProduct : yX2_readProduct.cls = RX2 ∧ yX2_readProduct.cls ≠ "java/lang/invoke/MethodHandle" ∧ yX2_readProduct.cls ≠ "java/lang/invoke/VarHandle" ∧ (parseMethodDescriptor yX2_readProduct.desc).map (fun d => d.parameters.length) = some 0 := by decide +kernel
set_option maxHeartbeats 4000000 in
set_option maxRecDepth 100000 in
/-- sum(numbers) -/
theorem k_X2_sum (l : Launch) (G : va_G) (k : Nat → ClassId) (h0 : Nat) (T : Nat → Int32) : ∀ sz, Met l yX2_sum wsX2_sum ({ frames := 0, cells := 0, slots := 0, locals := 0 }) (va_Pc [.ref h0] (KP G k [(h0, .inl (k 1, 7, .inl T))] sz)) (va_Qi (fun r (_ : Unit) => r = sumP T 7) (KQ G [(h0, .inl (k 1, 7, .inl T))] (va_A [(h0, .inl (k 1, 7, .inl T))] sz)) (va_A [(h0, .inl (k 1, 7, .inl T))] sz)) 0 0 (va_A [(h0, .inl (k 1, 7, .inl T))] sz) := by
  refine met_i 0 0 (lv0 := [(0, .ref h0)]) (own := RX2) (by decide) rfl rfl (Nat.le_of_ble_eq_true rfl) rfl (fun Z g hret => ?_)
  refine z_ic0 g dX2_sum_0 ?_
  refine z_istore_n (lv' := [(1, .int _), (0, .ref _)]) g dX2_sum_1 (by decide) rfl ?_
  refine z_aload_n g dX2_sum_2 1 rfl ?_
  refine z_astore_n (lv' := [(2, .ref _), (1, .int _), (0, .ref _)]) g dX2_sum_3 (by decide) rfl ?_
  refine z_aload_n g dX2_sum_4 0 rfl ?_
  refine z_alen g 0 1 rfl rfl (nI 7) rfl dX2_sum_5 ?_
  refine z_istore_n (lv' := [(3, .int _), (2, .ref _), (1, .int _), (0, .ref _)]) g dX2_sum_6 (by decide) rfl ?_
  refine z_ic0 g dX2_sum_7 ?_
  refine z_istore (lv' := [(4, .int _), (3, .int _), (2, .ref _), (1, .int _), (0, .ref _)]) g dX2_sum_8 (by decide) rfl ?_
  have cut_10 : ∀ (N10 : Nat) (j : Nat), 7 - j < N10 → (j ≤ 7) → Z 0 0 [(h0, .inl (k 1, 7, .inl T))] [(1, .int (sumP T j)), (2, .ref h0), (3, .int (nI 7)), (4, .int (nI j))] 10 [] := by
    intro N10
    induction N10 with
    | zero => intro j hms; exact absurd hms (Nat.not_lt_zero _)
    | succ N10 ih10 =>
      intro j hms10 hj
      refine z_iload g dX2_sum_10 3 rfl ?_
      refine z_iload_n g dX2_sum_12 2 rfl ?_
      refine z_n_ge g (a := j) (b := 7) (tgt := 33) (by omega) (by omega) dX2_sum_13 (by decide) (fun b13 => ?_) (fun b13 => ?_)
      · obtain rfl : j = 7 := by omega
        refine z_iload_n g dX2_sum_33 0 rfl ?_
        exact hret _ _ _ _ dX2_sum_34 (rfl) (rfl)
      · refine z_aload_n g dX2_sum_16 1 rfl ?_
        refine z_iload g dX2_sum_17 3 rfl ?_
        refine z_iald g 0 rfl j rfl (by omega) (by decide) dX2_sum_19 ?_
        refine z_istore (lv' := [(5, .int _), (1, .int _), (2, .ref _), (3, .int _), (4, .int _)]) g dX2_sum_20 (by decide) rfl ?_
        refine z_iload_n g dX2_sum_22 1 rfl ?_
        refine z_iload g dX2_sum_23 0 rfl ?_
        refine z_iadd g dX2_sum_25 ?_
        refine z_istore_n (lv' := [(1, .int _), (5, .int _), (2, .ref _), (3, .int _), (4, .int _)]) g dX2_sum_26 (by decide) rfl ?_
        refine z_inc (lv' := [(4, .int _), (1, .int _), (5, .int _), (2, .ref _), (3, .int _)]) g dX2_sum_27 4 rfl (by decide) rfl ?_
        refine z_goto g 10 dX2_sum_30 (by decide) ?_
        refine z_locs (lv' := [(1, .int _), (2, .ref _), (3, .int _), (4, .int _)]) g [1, 3, 4, 0] rfl ?_
        exact ih10 (j + 1) (by omega) (by omega)
  refine z_locs (lv' := [(1, .int _), (2, .ref _), (3, .int _), (4, .int _)]) g [3, 2, 1, 0] rfl ?_
  exact cut_10 _ 0 (Nat.lt_succ_self _) (by decide)
theorem nd_X2_sum : yX2_sum.cls ≠ "java/lang/invoke/MethodHandle" ∧ yX2_sum.cls ≠ "java/lang/invoke/VarHandle" ∧ (parseMethodDescriptor yX2_sum.desc).map (fun d => d.parameters.length) = some 1 := by decide +kernel
