def cfP (F Be Qu : Nat → Int64) (o i : Int32) : Int64 := if o = 0 then getP F i else if o = 1 then getP Be i else if o = 2 then getP Qu i else 0
theorem sw2 (x : Int32) : x = 0 ∨ x = 1 ∨ x = 2 ∨ ((¬ x = 0 ∧ ¬ x = 1 ∧ ¬ x = 2) ∧ (x.toInt < 0 ∨ 2 < x.toInt)) := by
  by_cases h0 : x = 0
  · exact Or.inl h0
  · by_cases h1 : x = 1
    · exact Or.inr (Or.inl h1)
    · by_cases h2 : x = 2
      · exact Or.inr (Or.inr (Or.inl h2))
      · refine Or.inr (Or.inr (Or.inr ⟨⟨h0, h1, h2⟩, ?_⟩))
        have e : x = Int32.ofInt x.toInt := (Int32.ofInt_toInt x).symm
        rcases (show x.toInt < 0 ∨ 2 < x.toInt ∨ x.toInt = 0 ∨ x.toInt = 1 ∨ x.toInt = 2 by omega) with h | h | h | h | h
        · exact Or.inl h
        · exact Or.inr h
        · rw [h] at e; exact absurd e h0
        · rw [h] at e; exact absurd e h1
        · rw [h] at e; exact absurd e h2
def iiP (m : Nat → Nat) (r k : Int32) : Bool := if r = 9 then (if k < 1 then false else true) else if k < 0 then false else if nI (manyP m r) ≤ k then false else true
def nearP (x : UInt64) : Bool := if Op.cmpValue (FP.dcmp x 13860109328209412096) .l < 0 then false else if 0 < Op.cmpValue (FP.dcmp x 4636737291354636288) .g then false else true
def dz (p : UInt64) : Bool := decide (Op.cmpValue (FP.dcmp p FP.dconst0) .l = 0)
/-- one part more, by its fraction n / d and its p -/
def wpT (n d : Int64) (sum p : UInt64) : UInt64 := if dz p then sum else FP.dadd sum (FP.ddiv (FP.ddiv (FP.l2d n) (FP.l2d d)) p)
def wpK (n d : Int64) (sum p : UInt64) : Prop := dz p = false → vf_n64 (FP.ddiv (FP.l2d n) (FP.l2d d)) ∧ vf_n64 (FP.ddiv (FP.ddiv (FP.l2d n) (FP.l2d d)) p) ∧ vf_n64 (FP.dadd sum (FP.ddiv (FP.ddiv (FP.l2d n) (FP.l2d d)) p))
def wpL (n d : Nat → Int64) (e : UInt64) : Nat → Nat → UInt64 → UInt64 → UInt64
  | 0, _, sum, _ => sum
  | t + 1, i, sum, p => wpL n d e t (i + 1) (wpT (n i) (d i) sum p) (FP.dmul p e)
def wpOK (n d : Nat → Int64) (e : UInt64) : Nat → Nat → UInt64 → UInt64 → Prop
  | 0, _, _, _ => True
  | t + 1, i, sum, p => wpK (n i) (d i) sum p ∧ vf_n64 (FP.dmul p e) ∧ wpOK n d e t (i + 1) (wpT (n i) (d i) sum p) (FP.dmul p e)
def wpP (m : Nat → Nat) (A B : Nat → Int64) (r : Int32) (x sum : UInt64) : UInt64 := wpL (fun i => paP A 0 r (nI i)) (fun i => paP B 1 r (nI i)) (FP.dsub x (FP.i2d r)) (manyP m r) 1 sum (FP.dsub x (FP.i2d r))
def wpH (m : Nat → Nat) (A B : Nat → Int64) (r : Int32) (x sum : UInt64) : Prop := vf_n64 (FP.dsub x (FP.i2d r)) ∧ wpOK (fun i => paP A 0 r (nI i)) (fun i => paP B 1 r (nI i)) (FP.dsub x (FP.i2d r)) (manyP m r) 1 sum (FP.dsub x (FP.i2d r))
set_option maxHeartbeats 4000000 in
set_option maxRecDepth 100000 in
/-- write(c) -/
theorem k_X2_write (l : Launch) (G : va_G) (k : Nat → ClassId) (h0 a0 a1 a2 a3 a4 a5 a6 a7 a8 a9 a10 : Nat) (c0 : Nat) (f : Nat → Int32) (n i : Nat) (p0 : Int32) (hn : n ≤ 30) (hi : i ≤ n) : ∀ sz, Met l yX2_write wsX2_write ({ frames := 1, cells := 0, slots := 0, locals := 21 }) (va_Pc [.ref h0, .int p0] (KP G k [(h0, .inr (2, [.ref a0, .ref a1, .ref a2, .ref a3, .ref a4, .ref a5, .ref a6, .ref a7, .ref a8, .ref a9, .ref a10])), (a0, .inr (0, [.ref c0, .int (nI n), .int (nI i)])), (c0, .inl (k 0, 30, .inl f))] sz)) (va_Qi (fun r (_ : Unit) => r = bI (appP n p0)) (KQ G [(h0, .inr (2, [.ref a0, .ref a1, .ref a2, .ref a3, .ref a4, .ref a5, .ref a6, .ref a7, .ref a8, .ref a9, .ref a10])), (a0, .inr (0, [.ref c0, .int (nI (appN n p0)), .int (nI i)])), (c0, .inl (k 0, 30, .inl (appF f n p0)))] (va_A [(h0, .inr (2, [.ref a0, .ref a1, .ref a2, .ref a3, .ref a4, .ref a5, .ref a6, .ref a7, .ref a8, .ref a9, .ref a10])), (a0, .inr (0, [.ref c0, .int (nI n), .int (nI i)])), (c0, .inl (k 0, 30, .inl f))] sz)) (va_A [(h0, .inr (2, [.ref a0, .ref a1, .ref a2, .ref a3, .ref a4, .ref a5, .ref a6, .ref a7, .ref a8, .ref a9, .ref a10])), (a0, .inr (0, [.ref c0, .int (nI n), .int (nI i)])), (c0, .inl (k 0, 30, .inl f))] sz)) 0 0 (va_A [(h0, .inr (2, [.ref a0, .ref a1, .ref a2, .ref a3, .ref a4, .ref a5, .ref a6, .ref a7, .ref a8, .ref a9, .ref a10])), (a0, .inr (0, [.ref c0, .int (nI n), .int (nI i)])), (c0, .inl (k 0, 30, .inl f))] sz) := by
  refine met_z 0 0 (lv0 := [(0, .ref h0), (1, .int p0)]) (own := RX2) (by decide) rfl rfl (Nat.le_of_ble_eq_true rfl) rfl bI_n (fun Z g hret => ?_)
  have hX2 : ∀ w ∈ u_ws RX2 TX2 11, w ∈ wsX2_write := fun w h => List.mem_cons_of_mem _ (List.mem_append_left _ (List.mem_append_right _ (h)))
  refine z_aload_n g dX2_write_0 0 rfl ?_
  refine z_get g hX2 0 rfl rfl 0 (by decide) (mi 1 rfl) rfl dX2_write_1 ?_
  refine z_iload_n g dX2_write_4 1 rfl ?_
  refine z_callVi (w' := [_, _, _]) (wr := [_]) g (k_X0_append l G k _ _ _ _ _ _ (by assumption) (by repeat (first | assumption | apply takesN_le | apply rnN_le | apply rpN_le | apply sgN_le | apply rrN_le | (apply dgN_le (by decide)) | apply rtS_le | apply rfS_le))) 1 gX2_write_X0_append rfl rfl rfl nd_X0_append ⟨by decide, by decide⟩ 1 rfl rfl [1, 2] [0] [0, 1, 2] rfl rfl rfl rfl (by decide) rfl rfl rfl rfl (Nat.le_of_ble_eq_true rfl) dX2_write_5 ⟨by decide, by decide⟩ ?_
  exact hret _ _ _ _ dX2_write_8 (rfl) (rfl)
theorem nd_X2_write : yX2_write.cls = RX2 ∧ yX2_write.cls ≠ "java/lang/invoke/MethodHandle" ∧ yX2_write.cls ≠ "java/lang/invoke/VarHandle" ∧ (parseMethodDescriptor yX2_write.desc).map (fun d => d.parameters.length) = some 1 := by decide +kernel
set_option maxHeartbeats 4000000 in
set_option maxRecDepth 100000 in
/-- coefficient(of, i) -/
theorem k_X2_coefficient (l : Launch) (G : va_G) (k : Nat → ClassId) (h0 a0 a1 a2 a3 a4 a5 a6 a7 a8 a9 a10 : Nat) (b1 b2 b3 : Nat) (F Be Qu : Nat → Int64) (p0 p1 : Int32) : ∀ sz, Met l yX2_coefficient wsX2_coefficient ({ frames := 1, cells := 0, slots := 0, locals := 21 }) (va_Pc [.ref h0, .int p0, .int p1] (KP G k [(h0, .inr (2, [.ref a0, .ref a1, .ref a2, .ref a3, .ref a4, .ref a5, .ref a6, .ref a7, .ref a8, .ref a9, .ref a10])), (a1, .inr (1, [.ref b1])), (b1, .inl (k 2, 7, .inr (.inl F))), (a2, .inr (1, [.ref b2])), (b2, .inl (k 2, 7, .inr (.inl Be))), (a3, .inr (1, [.ref b3])), (b3, .inl (k 2, 7, .inr (.inl Qu)))] sz)) (va_Ql (fun r (_ : Unit) => r = cfP F Be Qu p0 p1) (KQ G [(h0, .inr (2, [.ref a0, .ref a1, .ref a2, .ref a3, .ref a4, .ref a5, .ref a6, .ref a7, .ref a8, .ref a9, .ref a10])), (a1, .inr (1, [.ref b1])), (b1, .inl (k 2, 7, .inr (.inl F))), (a2, .inr (1, [.ref b2])), (b2, .inl (k 2, 7, .inr (.inl Be))), (a3, .inr (1, [.ref b3])), (b3, .inl (k 2, 7, .inr (.inl Qu)))] (va_A [(h0, .inr (2, [.ref a0, .ref a1, .ref a2, .ref a3, .ref a4, .ref a5, .ref a6, .ref a7, .ref a8, .ref a9, .ref a10])), (a1, .inr (1, [.ref b1])), (b1, .inl (k 2, 7, .inr (.inl F))), (a2, .inr (1, [.ref b2])), (b2, .inl (k 2, 7, .inr (.inl Be))), (a3, .inr (1, [.ref b3])), (b3, .inl (k 2, 7, .inr (.inl Qu)))] sz)) (va_A [(h0, .inr (2, [.ref a0, .ref a1, .ref a2, .ref a3, .ref a4, .ref a5, .ref a6, .ref a7, .ref a8, .ref a9, .ref a10])), (a1, .inr (1, [.ref b1])), (b1, .inl (k 2, 7, .inr (.inl F))), (a2, .inr (1, [.ref b2])), (b2, .inl (k 2, 7, .inr (.inl Be))), (a3, .inr (1, [.ref b3])), (b3, .inl (k 2, 7, .inr (.inl Qu)))] sz)) 0 0 (va_A [(h0, .inr (2, [.ref a0, .ref a1, .ref a2, .ref a3, .ref a4, .ref a5, .ref a6, .ref a7, .ref a8, .ref a9, .ref a10])), (a1, .inr (1, [.ref b1])), (b1, .inl (k 2, 7, .inr (.inl F))), (a2, .inr (1, [.ref b2])), (b2, .inl (k 2, 7, .inr (.inl Be))), (a3, .inr (1, [.ref b3])), (b3, .inl (k 2, 7, .inr (.inl Qu)))] sz) := by
  refine met_l 0 0 (lv0 := [(0, .ref h0), (1, .int p0), (2, .int p1)]) (own := RX2) (by decide) rfl rfl (Nat.le_of_ble_eq_true rfl) rfl (fun Z g hret => ?_)
  have hX2 : ∀ w ∈ u_ws RX2 TX2 11, w ∈ wsX2_coefficient := fun w h => List.mem_cons_of_mem _ (List.mem_append_left _ (List.mem_append_right _ (h)))
  refine z_iload_n g dX2_coefficient_0 1 rfl ?_
  rcases sw2 p0 with b1 | b1 | b1 | b1
  · refine z_ti (y := 0) b1 ?_
    refine z_tin g 28 dX2_coefficient_1 (by decide) (by decide) rfl (by decide) ?_
    refine z_aload_n g dX2_coefficient_28 0 rfl ?_
    refine z_get g hX2 0 rfl rfl 1 (by decide) (mi 1 rfl) rfl dX2_coefficient_29 ?_
    refine z_iload_n g dX2_coefficient_32 2 rfl ?_
    refine z_callVl (w' := [_, _, _, _, _, _, _]) (wr := [_, _, _, _, _]) g (k_X1_get l G k _ _ _ _) 1 gX2_coefficient_X1_get rfl rfl rfl nd_X1_get ⟨by decide, by decide⟩ 1 rfl rfl [1, 2] [0, 3, 4, 5, 6] [0, 5, 6, 1, 2, 3, 4] rfl rfl rfl rfl (by decide) rfl rfl rfl rfl (Nat.le_of_ble_eq_true rfl) dX2_coefficient_33 ⟨by decide, by decide⟩ ?_
    exact hret _ _ _ _ dX2_coefficient_36 ((by first | (rw [b1]; rfl) | (unfold cfP; rw [if_neg b1.1.1, if_neg b1.1.2.1, if_neg b1.1.2.2]))) (rfl)
  · refine z_ti (y := 1) b1 ?_
    refine z_tin g 37 dX2_coefficient_1 (by decide) (by decide) rfl (by decide) ?_
    refine z_aload_n g dX2_coefficient_37 0 rfl ?_
    refine z_get g hX2 0 rfl rfl 2 (by decide) (mi 2 rfl) rfl dX2_coefficient_38 ?_
    refine z_iload_n g dX2_coefficient_41 2 rfl ?_
    refine z_callVl (w' := [_, _, _, _, _, _, _]) (wr := [_, _, _, _, _]) g (k_X1_get l G k _ _ _ _) 1 gX2_coefficient_X1_get rfl rfl rfl nd_X1_get ⟨by decide, by decide⟩ 3 rfl rfl [3, 4] [0, 1, 2, 5, 6] [0, 1, 2, 5, 6, 3, 4] rfl rfl rfl rfl (by decide) rfl rfl rfl rfl (Nat.le_of_ble_eq_true rfl) dX2_coefficient_42 ⟨by decide, by decide⟩ ?_
    exact hret _ _ _ _ dX2_coefficient_45 ((by first | (rw [b1]; rfl) | (unfold cfP; rw [if_neg b1.1.1, if_neg b1.1.2.1, if_neg b1.1.2.2]))) (rfl)
  · refine z_ti (y := 2) b1 ?_
    refine z_tin g 46 dX2_coefficient_1 (by decide) (by decide) rfl (by decide) ?_
    refine z_aload_n g dX2_coefficient_46 0 rfl ?_
    refine z_get g hX2 0 rfl rfl 3 (by decide) (mi 3 rfl) rfl dX2_coefficient_47 ?_
    refine z_iload_n g dX2_coefficient_50 2 rfl ?_
    refine z_callVl (w' := [_, _, _, _, _, _, _]) (wr := [_, _, _, _, _]) g (k_X1_get l G k _ _ _ _) 1 gX2_coefficient_X1_get rfl rfl rfl nd_X1_get ⟨by decide, by decide⟩ 5 rfl rfl [5, 6] [0, 1, 2, 3, 4] [0, 1, 2, 3, 4, 5, 6] rfl rfl rfl rfl (by decide) rfl rfl rfl rfl (Nat.le_of_ble_eq_true rfl) dX2_coefficient_51 ⟨by decide, by decide⟩ ?_
    exact hret _ _ _ _ dX2_coefficient_54 ((by first | (rw [b1]; rfl) | (unfold cfP; rw [if_neg b1.1.1, if_neg b1.1.2.1, if_neg b1.1.2.2]))) (rfl)
  · refine z_tout g 55 dX2_coefficient_1 (b1.2) (by decide) ?_
    refine z_lc0 g dX2_coefficient_55 ?_
    exact hret _ _ _ _ dX2_coefficient_56 ((by first | (rw [b1]; rfl) | (unfold cfP; rw [if_neg b1.1.1, if_neg b1.1.2.1, if_neg b1.1.2.2]))) (rfl)
theorem nd_X2_coefficient : yX2_coefficient.cls = RX2 ∧ yX2_coefficient.cls ≠ "java/lang/invoke/MethodHandle" ∧ yX2_coefficient.cls ≠ "java/lang/invoke/VarHandle" ∧ (parseMethodDescriptor yX2_coefficient.desc).map (fun d => d.parameters.length) = some 2 := by decide +kernel
set_option maxHeartbeats 4000000 in
set_option maxRecDepth 100000 in
/-- isInIntegral(root, k) -/
theorem k_X2_isInIntegral (l : Launch) (G : va_G) (k : Nat → ClassId) (h0 a0 a1 a2 a3 a4 a5 a6 a7 a8 a9 a10 : Nat) (m : Nat → Nat) (p0 p1 : Int32) : ∀ sz, Met l yX2_isInIntegral wsX2_isInIntegral ({ frames := 2, cells := 0, slots := 0, locals := 41 }) (va_Pc [.ref h0, .int p0, .int p1] (KP G k [(h0, .inr (2, [.ref a0, .ref a1, .ref a2, .ref a3, .ref a4, .ref a5, .ref a6, .ref a7, .ref a8, .ref a9, .ref a10])), (a4, .inl (k 1, 7, .inl (fun j => nI (m j))))] sz)) (va_Qi (fun r (_ : Unit) => r = bI (iiP m p0 p1)) (KQ G [(h0, .inr (2, [.ref a0, .ref a1, .ref a2, .ref a3, .ref a4, .ref a5, .ref a6, .ref a7, .ref a8, .ref a9, .ref a10])), (a4, .inl (k 1, 7, .inl (fun j => nI (m j))))] (va_A [(h0, .inr (2, [.ref a0, .ref a1, .ref a2, .ref a3, .ref a4, .ref a5, .ref a6, .ref a7, .ref a8, .ref a9, .ref a10])), (a4, .inl (k 1, 7, .inl (fun j => nI (m j))))] sz)) (va_A [(h0, .inr (2, [.ref a0, .ref a1, .ref a2, .ref a3, .ref a4, .ref a5, .ref a6, .ref a7, .ref a8, .ref a9, .ref a10])), (a4, .inl (k 1, 7, .inl (fun j => nI (m j))))] sz)) 0 0 (va_A [(h0, .inr (2, [.ref a0, .ref a1, .ref a2, .ref a3, .ref a4, .ref a5, .ref a6, .ref a7, .ref a8, .ref a9, .ref a10])), (a4, .inl (k 1, 7, .inl (fun j => nI (m j))))] sz) := by
  refine met_z 0 0 (lv0 := [(0, .ref h0), (1, .int p0), (2, .int p1)]) (own := RX2) (by decide) rfl rfl (Nat.le_of_ble_eq_true rfl) rfl bI_n (fun Z g hret => ?_)
  refine z_iload_n g dX2_isInIntegral_0 1 rfl ?_
  refine z_bi g 9 dX2_isInIntegral_1 (by decide) ?_
  refine z_ic_ne g (tgt := 19) dX2_isInIntegral_3 (by decide) (fun b3 => ?_) (fun b3 => ?_)
  · refine z_iload_n g dX2_isInIntegral_19 2 rfl ?_
    refine z_if_lt g (tgt := 36) dX2_isInIntegral_20 (by decide) (fun b20 => ?_) (fun b20 => ?_)
    · refine z_ic0 g dX2_isInIntegral_36 ?_
      exact hret _ _ _ _ dX2_isInIntegral_37 ((by simp only [iiP, if_neg b3, if_pos b20, reduceIte, Bool.false_eq_true] <;> rfl)) (rfl)
    · refine z_iload_n g dX2_isInIntegral_23 2 rfl ?_
      refine z_aload_n g dX2_isInIntegral_24 0 rfl ?_
      refine z_iload_n g dX2_isInIntegral_25 1 rfl ?_
      refine z_callVi (w' := [_, _]) (wr := []) g (k_X2_many l G k _ _ _ _ _ _ _ _ _ _ _ _ _ _) 1 gX2_isInIntegral_X2_many rfl rfl rfl nd_X2_many ⟨by decide, by decide⟩ 0 rfl rfl [0, 1] [] [0, 1] rfl rfl rfl rfl (by decide) rfl rfl rfl rfl (Nat.le_of_ble_eq_true rfl) dX2_isInIntegral_26 ⟨by decide, by decide⟩ ?_
      refine z_ic_ge g (tgt := 36) dX2_isInIntegral_29 (by decide) (fun b29 => ?_) (fun b29 => ?_)
      · refine z_ic0 g dX2_isInIntegral_36 ?_
        exact hret _ _ _ _ dX2_isInIntegral_37 ((by simp only [iiP, if_neg b3, if_neg b20, if_pos b29, reduceIte, Bool.false_eq_true] <;> rfl)) (rfl)
      · refine z_ic1 g dX2_isInIntegral_32 ?_
        refine z_goto g 37 dX2_isInIntegral_33 (by decide) ?_
        exact hret _ _ _ _ dX2_isInIntegral_37 ((by simp only [iiP, if_neg b3, if_neg b20, if_neg b29, reduceIte, Bool.false_eq_true] <;> rfl)) (rfl)
  · refine z_iload_n g dX2_isInIntegral_6 2 rfl ?_
    refine z_ic1 g dX2_isInIntegral_7 ?_
    refine z_ic_lt g (tgt := 15) dX2_isInIntegral_8 (by decide) (fun b8 => ?_) (fun b8 => ?_)
    · refine z_ic0 g dX2_isInIntegral_15 ?_
      refine z_goto g 37 dX2_isInIntegral_16 (by decide) ?_
      exact hret _ _ _ _ dX2_isInIntegral_37 ((by simp only [iiP, if_pos b3, if_pos b8, reduceIte, Bool.false_eq_true] <;> rfl)) (rfl)
    · refine z_ic1 g dX2_isInIntegral_11 ?_
      refine z_goto g 37 dX2_isInIntegral_12 (by decide) ?_
      exact hret _ _ _ _ dX2_isInIntegral_37 ((by simp only [iiP, if_pos b3, if_neg b8, reduceIte, Bool.false_eq_true] <;> rfl)) (rfl)
theorem nd_X2_isInIntegral : yX2_isInIntegral.cls = RX2 ∧ yX2_isInIntegral.cls ≠ "java/lang/invoke/MethodHandle" ∧ yX2_isInIntegral.cls ≠ "java/lang/invoke/VarHandle" ∧ (parseMethodDescriptor yX2_isInIntegral.desc).map (fun d => d.parameters.length) = some 2 := by decide +kernel
set_option maxHeartbeats 4000000 in
set_option maxRecDepth 100000 in
/-- isNear(x) -/
theorem k_X2_isNear (l : Launch) (G : va_G) (k : Nat → ClassId) (p0 : UInt64) : ∀ sz, Met l yX2_isNear wsX2_isNear ({ frames := 0, cells := 0, slots := 0, locals := 0 }) (va_Pc [.double p0] (KP G k [] sz)) (va_Qi (fun r (_ : Unit) => r = bI (nearP p0)) (KQ G [] (va_A [] sz)) (va_A [] sz)) 0 0 (va_A [] sz) := by
  refine met_z 0 0 (lv0 := [(0, .double p0)]) (own := RX2) (by decide) rfl rfl (Nat.le_of_ble_eq_true rfl) rfl bI_n (fun Z g hret => ?_)
  refine z_dload_n g dX2_isNear_0 0 rfl ?_
  refine z_ldc2d g (v := (13860109328209412096)) dX2_isNear_1 (mi 1 rfl) ?_
  refine z_dcmp g dX2_isNear_4 ?_
  refine z_if_lt g (tgt := 20) dX2_isNear_5 (by decide) (fun b5 => ?_) (fun b5 => ?_)
  · refine z_ic0 g dX2_isNear_20 ?_
    exact hret _ _ _ _ dX2_isNear_21 ((by simp only [nearP, if_pos b5, reduceIte, Bool.false_eq_true] <;> rfl)) (rfl)
  · refine z_dload_n g dX2_isNear_8 0 rfl ?_
    refine z_ldc2d g (v := (4636737291354636288)) dX2_isNear_9 (mi 2 rfl) ?_
    refine z_dcmp g dX2_isNear_12 ?_
    refine z_if_gt g (tgt := 20) dX2_isNear_13 (by decide) (fun b13 => ?_) (fun b13 => ?_)
    · refine z_ic0 g dX2_isNear_20 ?_
      exact hret _ _ _ _ dX2_isNear_21 ((by simp only [nearP, if_neg b5, if_pos b13, reduceIte, Bool.false_eq_true] <;> rfl)) (rfl)
    · refine z_ic1 g dX2_isNear_16 ?_
      refine z_goto g 21 dX2_isNear_17 (by decide) ?_
      exact hret _ _ _ _ dX2_isNear_21 ((by simp only [nearP, if_neg b5, if_neg b13, reduceIte, Bool.false_eq_true] <;> rfl)) (rfl)
theorem nd_X2_isNear : yX2_isNear.cls ≠ "java/lang/invoke/MethodHandle" ∧ yX2_isNear.cls ≠ "java/lang/invoke/VarHandle" ∧ (parseMethodDescriptor yX2_isNear.desc).map (fun d => d.parameters.length) = some 1 := by decide +kernel
set_option maxHeartbeats 4000000 in
set_option maxRecDepth 100000 in
/-- withPartsOf(root, x, sum) -/
theorem k_X2_withPartsOf (l : Launch) (G : va_G) (k : Nat → ClassId) (h0 a0 a1 a2 a3 a4 a5 a6 a7 a8 a9 a10 : Nat) (m : Nat → Nat) (A B : Nat → Int64) (p0 : Int32) (p1 p2 : UInt64) (hm : ∀ j, j < 7 → m j ≤ 5) (hw : wpH m A B p0 p1 p2) : ∀ sz, Met l yX2_withPartsOf wsX2_withPartsOf ({ frames := 3, cells := 0, slots := 0, locals := 65 }) (va_Pc [.ref h0, .int p0, .double p1, .double p2] (KP G k [(h0, .inr (2, [.ref a0, .ref a1, .ref a2, .ref a3, .ref a4, .ref a5, .ref a6, .ref a7, .ref a8, .ref a9, .ref a10])), (a4, .inl (k 1, 7, .inl (fun j => nI (m j)))), (a5, .inl (k 2, 35, .inr (.inl A))), (a6, .inl (k 2, 35, .inr (.inl B)))] sz)) (va_Qd (fun r (_ : Unit) => r = wpP m A B p0 p1 p2) (KQ G [(h0, .inr (2, [.ref a0, .ref a1, .ref a2, .ref a3, .ref a4, .ref a5, .ref a6, .ref a7, .ref a8, .ref a9, .ref a10])), (a4, .inl (k 1, 7, .inl (fun j => nI (m j)))), (a5, .inl (k 2, 35, .inr (.inl A))), (a6, .inl (k 2, 35, .inr (.inl B)))] (va_A [(h0, .inr (2, [.ref a0, .ref a1, .ref a2, .ref a3, .ref a4, .ref a5, .ref a6, .ref a7, .ref a8, .ref a9, .ref a10])), (a4, .inl (k 1, 7, .inl (fun j => nI (m j)))), (a5, .inl (k 2, 35, .inr (.inl A))), (a6, .inl (k 2, 35, .inr (.inl B)))] sz)) (va_A [(h0, .inr (2, [.ref a0, .ref a1, .ref a2, .ref a3, .ref a4, .ref a5, .ref a6, .ref a7, .ref a8, .ref a9, .ref a10])), (a4, .inl (k 1, 7, .inl (fun j => nI (m j)))), (a5, .inl (k 2, 35, .inr (.inl A))), (a6, .inl (k 2, 35, .inr (.inl B)))] sz)) 0 0 (va_A [(h0, .inr (2, [.ref a0, .ref a1, .ref a2, .ref a3, .ref a4, .ref a5, .ref a6, .ref a7, .ref a8, .ref a9, .ref a10])), (a4, .inl (k 1, 7, .inl (fun j => nI (m j)))), (a5, .inl (k 2, 35, .inr (.inl A))), (a6, .inl (k 2, 35, .inr (.inl B)))] sz) := by
  refine met_d 0 0 (lv0 := [(0, .ref h0), (1, .int p0), (2, .double p1), (4, .double p2)]) (own := RX2) (by decide) rfl rfl (Nat.le_of_ble_eq_true rfl) rfl (fun Z g hret => ?_)
  have hm5 := manyP_le hm p0
  refine z_dload g dX2_withPartsOf_0 3 rfl ?_
  refine z_dstore (lv' := [(6, .double _), (0, .ref _), (1, .int _), (2, .double _), (4, .double _)]) g dX2_withPartsOf_2 (by decide) rfl ?_
  refine z_dload_n g dX2_withPartsOf_4 3 rfl ?_
  refine z_iload_n g dX2_withPartsOf_5 2 rfl ?_
  refine z_i2d g dX2_withPartsOf_6 ?_
  refine z_dsub g dX2_withPartsOf_7 hw.1 ?_
  refine z_dstore (lv' := [(8, .double _), (6, .double _), (0, .ref _), (1, .int _), (2, .double _), (4, .double _)]) g dX2_withPartsOf_8 (by decide) rfl ?_
  refine z_dload g dX2_withPartsOf_10 0 rfl ?_
  refine z_dstore (lv' := [(10, .double _), (8, .double _), (6, .double _), (0, .ref _), (1, .int _), (2, .double _), (4, .double _)]) g dX2_withPartsOf_12 (by decide) rfl ?_
  refine z_aload_n g dX2_withPartsOf_14 3 rfl ?_
  refine z_iload_n g dX2_withPartsOf_15 4 rfl ?_
  refine z_callVi (w' := [_, _, _, _]) (wr := [_, _]) g (k_X2_many l G k _ _ _ _ _ _ _ _ _ _ _ _ _ _) 1 gX2_withPartsOf_X2_many rfl rfl rfl nd_X2_many ⟨by decide, by decide⟩ 0 rfl rfl [0, 1] [2, 3] [2, 3, 0, 1] rfl rfl rfl rfl (by decide) rfl rfl rfl rfl (Nat.le_of_ble_eq_true rfl) dX2_withPartsOf_16 ⟨by decide, by decide⟩ ?_
  refine z_istore (lv' := [(12, .int _), (10, .double _), (8, .double _), (6, .double _), (0, .ref _), (1, .int _), (2, .double _), (4, .double _)]) g dX2_withPartsOf_19 (by decide) rfl ?_
  refine z_ic1 g dX2_withPartsOf_21 ?_
  refine z_istore (lv' := [(13, .int _), (12, .int _), (10, .double _), (8, .double _), (6, .double _), (0, .ref _), (1, .int _), (2, .double _), (4, .double _)]) g dX2_withPartsOf_22 (by decide) rfl ?_
  have cut_24 : ∀ (N24 : Nat) (t i : Nat) (sum p : UInt64), t < N24 → (i + t = manyP m p0 + 1) → (wpOK (fun i => paP A 0 p0 (nI i)) (fun i => paP B 1 p0 (nI i)) (FP.dsub p1 (FP.i2d p0)) t i sum p) → (wpL (fun i => paP A 0 p0 (nI i)) (fun i => paP B 1 p0 (nI i)) (FP.dsub p1 (FP.i2d p0)) t i sum p = wpP m A B p0 p1 p2) → Z 0 0 [(h0, .inr (2, [.ref a0, .ref a1, .ref a2, .ref a3, .ref a4, .ref a5, .ref a6, .ref a7, .ref a8, .ref a9, .ref a10])), (a4, .inl (k 1, 7, .inl (fun j => nI (m j)))), (a5, .inl (k 2, 35, .inr (.inl A))), (a6, .inl (k 2, 35, .inr (.inl B)))] [(0, .ref h0), (1, .int p0), (6, .double sum), (8, .double (FP.dsub p1 (FP.i2d p0))), (10, .double p), (12, .int (nI (manyP m p0))), (13, .int (nI i))] 24 [] := by
    intro N24
    induction N24 with
    | zero => intro t i sum p hms; exact absurd hms (Nat.not_lt_zero _)
    | succ N24 ih24 =>
      intro t i sum p hms24 ht hok hI
      refine z_iload g dX2_withPartsOf_24 6 rfl ?_
      refine z_iload g dX2_withPartsOf_26 5 rfl ?_
      refine z_n_gt g (a := i) (b := (manyP m p0)) (tgt := 76) (by omega) (by omega) dX2_withPartsOf_28 (by decide) (fun b28 => ?_) (fun b28 => ?_)
      · obtain rfl : t = 0 := by omega
        refine z_dload g dX2_withPartsOf_76 2 rfl ?_
        exact hret _ _ _ _ dX2_withPartsOf_78 (hI) (rfl)
      · obtain ⟨t, rfl⟩ : ∃ j, t = j + 1 := ⟨t - 1, by omega⟩
        have cut_63 : ∀ (sum' : UInt64), (sum' = wpT (paP A 0 p0 (nI i)) (paP B 1 p0 (nI i)) sum p) → Z 0 0 [(h0, .inr (2, [.ref a0, .ref a1, .ref a2, .ref a3, .ref a4, .ref a5, .ref a6, .ref a7, .ref a8, .ref a9, .ref a10])), (a4, .inl (k 1, 7, .inl (fun j => nI (m j)))), (a5, .inl (k 2, 35, .inr (.inl A))), (a6, .inl (k 2, 35, .inr (.inl B)))] [(0, .ref h0), (1, .int p0), (6, .double sum'), (8, .double (FP.dsub p1 (FP.i2d p0))), (10, .double p), (12, .int (nI (manyP m p0))), (13, .int (nI i))] 63 [] := by
          intro sum' hs9
          subst hs9
          refine z_dload g dX2_withPartsOf_63 4 rfl ?_
          refine z_dload g dX2_withPartsOf_65 3 rfl ?_
          refine z_dmul g dX2_withPartsOf_67 hok.2.1 ?_
          refine z_dstore (lv' := [(10, .double _), (0, .ref _), (1, .int _), (6, .double _), (8, .double _), (12, .int _), (13, .int _)]) g dX2_withPartsOf_68 (by decide) rfl ?_
          refine z_inc (lv' := [(13, .int _), (10, .double _), (0, .ref _), (1, .int _), (6, .double _), (8, .double _), (12, .int _)]) g dX2_withPartsOf_70 6 rfl (by decide) rfl ?_
          refine z_goto g 24 dX2_withPartsOf_73 (by decide) ?_
          refine z_locs (lv' := [(0, .ref _), (1, .int _), (6, .double _), (8, .double _), (10, .double _), (12, .int _), (13, .int _)]) g [2, 3, 4, 5, 1, 6, 0] rfl ?_
          exact ih24 t (i + 1) _ _ (by omega) (by omega) hok.2.2 hI
        refine z_dload g dX2_withPartsOf_31 4 rfl ?_
        refine z_dc0 g dX2_withPartsOf_33 ?_
        refine z_dcmp g dX2_withPartsOf_34 ?_
        refine z_if_eq g (tgt := 63) dX2_withPartsOf_35 (by decide) (fun b35 => ?_) (fun b35 => ?_)
        · exact cut_63 _ (by unfold wpT; first | (rw [if_pos (show dz p = true from decide_eq_true b35)]) | (rw [if_neg (show ¬ dz p = true from Bool.eq_false_iff.mp b35)]))
        · have hq : dz p = false → _ := hok.1
          have b35 : dz p = false := decide_eq_false b35
          refine z_dload g dX2_withPartsOf_38 2 rfl ?_
          refine z_aload_n g dX2_withPartsOf_40 0 rfl ?_
          refine z_iload_n g dX2_withPartsOf_41 1 rfl ?_
          refine z_iload g dX2_withPartsOf_42 6 rfl ?_
          refine z_callVl (w' := [_, _, _, _]) (wr := [_, _]) g (k_X2_partAbove l G k _ _ _ _ _ _ _ _ _ _ _ _ _ _ _) 2 gX2_withPartsOf_X2_partAbove rfl rfl rfl nd_X2_partAbove ⟨by decide, by decide⟩ 0 rfl rfl [0, 2] [1, 3] [2, 0, 3, 1] rfl rfl rfl rfl (by decide) rfl rfl rfl rfl (Nat.le_of_ble_eq_true rfl) dX2_withPartsOf_44 ⟨by decide, by decide⟩ ?_
          refine z_l2d g dX2_withPartsOf_47 ?_
          refine z_aload_n g dX2_withPartsOf_48 0 rfl ?_
          refine z_iload_n g dX2_withPartsOf_49 1 rfl ?_
          refine z_iload g dX2_withPartsOf_50 6 rfl ?_
          refine z_callVl (w' := [_, _, _, _]) (wr := [_, _]) g (k_X2_partBelow l G k _ _ _ _ _ _ _ _ _ _ _ _ _ _ _) 2 gX2_withPartsOf_X2_partBelow rfl rfl rfl nd_X2_partBelow ⟨by decide, by decide⟩ 0 rfl rfl [0, 3] [1, 2] [2, 0, 1, 3] rfl rfl rfl rfl (by decide) rfl rfl rfl rfl (Nat.le_of_ble_eq_true rfl) dX2_withPartsOf_52 ⟨by decide, by decide⟩ ?_
          refine z_l2d g dX2_withPartsOf_55 ?_
          refine z_ddiv g dX2_withPartsOf_56 (hq b35).1 ?_
          refine z_dload g dX2_withPartsOf_57 4 rfl ?_
          refine z_ddiv g dX2_withPartsOf_59 (hq b35).2.1 ?_
          refine z_dadd g dX2_withPartsOf_60 (hq b35).2.2 ?_
          refine z_dstore (lv' := [(6, .double _), (0, .ref _), (1, .int _), (8, .double _), (10, .double _), (12, .int _), (13, .int _)]) g dX2_withPartsOf_61 (by decide) rfl ?_
          refine z_locs (lv' := [(0, .ref _), (1, .int _), (6, .double _), (8, .double _), (10, .double _), (12, .int _), (13, .int _)]) g [1, 2, 0, 3, 4, 5, 6] rfl ?_
          exact cut_63 _ (by unfold wpT; first | (rw [if_pos (show dz p = true from decide_eq_true b35)]) | (rw [if_neg (show ¬ dz p = true from Bool.eq_false_iff.mp b35)]))
  refine z_locs (lv' := [(0, .ref _), (1, .int _), (6, .double _), (8, .double _), (10, .double _), (12, .int _), (13, .int _)]) g [5, 6, 4, 3, 2, 1, 0] rfl ?_
  exact cut_24 _ (manyP m p0) 1 _ _ (Nat.lt_succ_self _) (by omega) hw.2 rfl
theorem nd_X2_withPartsOf : yX2_withPartsOf.cls = RX2 ∧ yX2_withPartsOf.cls ≠ "java/lang/invoke/MethodHandle" ∧ yX2_withPartsOf.cls ≠ "java/lang/invoke/VarHandle" ∧ (parseMethodDescriptor yX2_withPartsOf.desc).map (fun d => d.parameters.length) = some 3 := by decide +kernel
