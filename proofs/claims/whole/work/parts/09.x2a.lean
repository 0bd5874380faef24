/-! the desk: roots -3 .. 3 by their places 0 .. 6; m: how often each comes -/
def poss (r : Int32) : Bool := if r < -3 then false else if 3 < r then false else true
def rix (r : Int32) : Nat := (r - (-3)).toNatClampNeg
def manyP (m : Nat → Nat) (r : Int32) : Nat := if poss r then m (rix r) else 0
def plc (r k : Int32) : Int32 := if poss r then (if k < 1 then -1 else if 5 < k then -1 else (r - (-3)) * 5 + k - 1) else -1
def paP (A : Nat → Int64) (e : Int64) (r k : Int32) : Int64 := if 0 ≤ plc r k then A (plc r k).toNatClampNeg else e
def kpP (A : Nat → Int64) (r k : Int32) (v : Int64) : Nat → Int64 := if plc r k < 0 then A else vp_updL A (plc r k).toNatClampNeg v
def absL (x : Int64) : Int64 := if 0 < x then x else -x
def cgL : Nat → Int64 → Int64 → Int64
  | 0, d, _ => d
  | n + 1, d, r => if r = 0 then d else cgL n r (d - d / r * r)
def cgP (a b : Int64) : Int64 := cgL 100 (absL a) (absL b)
def lowP (n d : Int64) (w : Int32) : Int64 :=
  if d = 0 then (if w = 0 then 0 else 1) else if cgP n d = 0 then (if w = 0 then 0 else 1) else (if w = 0 then n else d) / (if 0 ≤ d then cgP n d else -cgP n d)
def mulN (f : Nat → Int64) (r : Int32) : Nat → Nat → Int64
  | 0 => f
  | n + 1 => mulP (mulN f r n) r
def dvN (f : Nat → Int64) (r : Int32) : Nat → Nat → Int64
  | 0 => f
  | n + 1 => dvP (dvN f r n) r
def othT (m : Nat → Nat) (r : Int32) (j : Nat) : Nat := if nI j - 3 = r then 0 else m j
def othF (m : Nat → Nat) (r : Int32) : Nat → Nat → Int64
  | 0 => oneP
  | j + 1 => mulN (othF m r j) (nI j - 3) (othT m r j)
def belF (m : Nat → Nat) : Nat → Nat → Int64
  | 0 => oneP
  | j + 1 => mulN (belF m j) (nI j - 3) (m j)
def quoF (m : Nat → Nat) (f : Nat → Int64) : Nat → Nat → Int64
  | 0 => f
  | j + 1 => dvN (quoF m f j) (nI j - 3) (m j)
def mkL (g0 : Int64) (o : Nat → Int64) (r : Int32) : Nat → (Nat → Int64) → Int64 → (Nat → Int64) → (Nat → Int64) → (Nat → Int64) × (Nat → Int64) × (Nat → Int64)
  | 0, R, _, A, B => (R, A, B)
  | t + 1, R, s, A, B => mkL g0 o r t (mixP g0 (-(hrn R r.toInt64 7)) (dvP R r) o) (s * g0) (kpP A r (nI (t + 1)) (lowP (hrn R r.toInt64 7) (s * g0) 0)) (kpP B r (nI (t + 1)) (lowP (hrn R r.toInt64 7) (s * g0) 1))
def mkP (m : Nat → Nat) (f : Nat → Int64) (r : Int32) (A B : Nat → Int64) : (Nat → Int64) × (Nat → Int64) × (Nat → Int64) :=
  mkL (hrn (othF m r 7) r.toInt64 7) (dvP (othF m r 7) r) r (manyP m r) f 1 A B
/-- parts above, parts below, the rest, the other factors, behind j roots -/
def tkS (m : Nat → Nat) (f R O : Nat → Int64) : Nat → (Nat → Int64) × (Nat → Int64) × (Nat → Int64) × (Nat → Int64)
  | 0 => (fun _ => 0, fun _ => 1, R, O)
  | j + 1 => ((mkP m f (nI j - 3) (tkS m f R O j).1 (tkS m f R O j).2.1).2.1, (mkP m f (nI j - 3) (tkS m f R O j).1 (tkS m f R O j).2.1).2.2, (mkP m f (nI j - 3) (tkS m f R O j).1 (tkS m f R O j).2.1).1, dvP (othF m (nI j - 3) 7) (nI j - 3))
theorem rt_gt {j : Nat} (hj : j ≤ 7) (h : 3 < nI j - 3) : j = 7 := by
  rcases (show j = 0 ∨ j = 1 ∨ j = 2 ∨ j = 3 ∨ j = 4 ∨ j = 5 ∨ j = 6 ∨ j = 7 by omega) with rfl | rfl | rfl | rfl | rfl | rfl | rfl | rfl <;> first | rfl | exact absurd h (by decide)
theorem rt_le {j : Nat} (hj : j ≤ 7) (h : ¬ 3 < nI j - 3) : j < 7 := by
  rcases (show j = 7 ∨ j < 7 by omega) with rfl | h2
  · exact absurd (by decide) h
  · exact h2
theorem rt_inc (j : Nat) : nI j - 3 + Int32.ofInt 1 = nI (j + 1) - 3 := by
  rw [← nI_1, Int32.sub_eq_add_neg, Int32.sub_eq_add_neg, Int32.add_assoc, Int32.add_assoc, Int32.add_comm (-3)]
  rfl
theorem rt_ok : ∀ j, j < 7 → poss (nI j - 3) = true ∧ rix (nI j - 3) = j := by decide +kernel
theorem manyP_rt {m : Nat → Nat} {j : Nat} (hj : j < 7) : manyP m (nI j - 3) = m j := by
  unfold manyP
  rw [(rt_ok j hj).1, (rt_ok j hj).2]
  rfl
theorem poss_of {r : Int32} (h : poss r = true) : ∃ j, j < 7 ∧ r = nI j - 3 := by
  unfold poss at h
  by_cases h1 : r < -3
  · rw [if_pos h1] at h; cases h
  · by_cases h2 : 3 < r
    · rw [if_neg h1, if_pos h2] at h; cases h
    · have e1 : (-3 : Int) ≤ r.toInt := by
        have := Int32.le_iff_toInt_le.mp (Int32.not_lt.mp h1)
        exact this
      have e2 : r.toInt ≤ 3 := Int32.le_iff_toInt_le.mp (Int32.not_lt.mp h2)
      have e3 : r = Int32.ofInt r.toInt := (Int32.ofInt_toInt r).symm
      rcases (show r.toInt = -3 ∨ r.toInt = -2 ∨ r.toInt = -1 ∨ r.toInt = 0 ∨ r.toInt = 1 ∨ r.toInt = 2 ∨ r.toInt = 3 by omega) with h | h | h | h | h | h | h <;> rw [h] at e3
      · exact ⟨0, by decide, e3⟩
      · exact ⟨1, by decide, e3⟩
      · exact ⟨2, by decide, e3⟩
      · exact ⟨3, by decide, e3⟩
      · exact ⟨4, by decide, e3⟩
      · exact ⟨5, by decide, e3⟩
      · exact ⟨6, by decide, e3⟩
theorem rix_ok {r : Int32} (h : poss r = true) : r - (-3) = nI (rix r) ∧ rix r < 7 := by
  obtain ⟨j, hj, rfl⟩ := poss_of h
  rw [(rt_ok j hj).2]
  exact ⟨(by decide +kernel : ∀ j, j < 7 → nI j - 3 - (-3) = nI j) j hj, hj⟩
theorem manyP_le {m : Nat → Nat} {b : Nat} (h : ∀ j, j < 7 → m j ≤ b) (r : Int32) : manyP m r ≤ b := by
  unfold manyP
  split
  · next e => exact h _ (rix_ok e).2
  · exact Nat.zero_le _
theorem k5_of {k : Int32} (h1 : ¬ k < 1) (h2 : ¬ 5 < k) : ∃ j, j < 5 ∧ k = nI (j + 1) := by
  have h0 : ¬ k < 0 := fun h => h1 (Int32.lt_trans h (by decide))
  obtain ⟨i, hi, rfl⟩ := nI_of2 (M := 5) (n := 5) (by decide) h0 (Int32.not_lt.mp h2)
  rcases i with _ | i
  · exact absurd (by decide) h1
  · exact ⟨i, by omega, rfl⟩
theorem plc_at {j i : Nat} (hj : j < 7) (hi : i < 5) : plc (nI j - 3) (nI (i + 1)) = nI (j * 5 + i) :=
  (by decide +kernel : ∀ j, j < 7 → ∀ i, i < 5 → plc (nI j - 3) (nI (i + 1)) = nI (j * 5 + i)) j hj i hi
theorem plc_ok {r k : Int32} (h : ¬ plc r k < 0) : plc r k = nI (plc r k).toNatClampNeg ∧ (plc r k).toNatClampNeg < 35 := by
  by_cases h0 : poss r = true
  · by_cases h1 : k < 1
    · exact absurd (by unfold plc; rw [h0, if_pos rfl, if_pos h1]; decide) h
    · by_cases h2 : 5 < k
      · exact absurd (by unfold plc; rw [h0, if_pos rfl, if_neg h1, if_pos h2]; decide) h
      · obtain ⟨j, hj, rfl⟩ := poss_of h0
        obtain ⟨i, hi, rfl⟩ := k5_of h1 h2
        rw [plc_at hj hi, nI_clamp (by omega)]
        exact ⟨rfl, by omega⟩
  · exact absurd (by unfold plc; rw [if_neg h0]; decide) h
theorem neg_ne0 {x : Int64} (h : ¬ x = 0) : ¬ -x = 0 := fun e => h (by rw [← @Int64.neg_neg x, e]; rfl)
set_option maxHeartbeats 4000000 in
set_option maxRecDepth 100000 in
/-- isPossibleRoot(root) -/
theorem k_X2_isPossibleRoot (l : Launch) (G : va_G) (k : Nat → ClassId) (p0 : Int32) : ∀ sz, Met l yX2_isPossibleRoot wsX2_isPossibleRoot ({ frames := 0, cells := 0, slots := 0, locals := 0 }) (va_Pc [.int p0] (KP G k [] sz)) (va_Qi (fun r (_ : Unit) => r = bI (poss p0)) (KQ G [] (va_A [] sz)) (va_A [] sz)) 0 0 (va_A [] sz) := by
  refine met_z 0 0 (lv0 := [(0, .int p0)]) (own := RX2) (by decide) rfl rfl (Nat.le_of_ble_eq_true rfl) rfl bI_n (fun Z g hret => ?_)
  refine z_iload_n g dX2_isPossibleRoot_0 0 rfl ?_
  refine z_bi g (-3) dX2_isPossibleRoot_1 (by decide) ?_
  refine z_ic_lt g (tgt := 15) dX2_isPossibleRoot_3 (by decide) (fun b3 => ?_) (fun b3 => ?_)
  · refine z_ic0 g dX2_isPossibleRoot_15 ?_
    exact hret _ _ _ _ dX2_isPossibleRoot_16 ((by simp only [poss, if_pos b3, reduceIte, Bool.false_eq_true] <;> rfl)) (rfl)
  · refine z_iload_n g dX2_isPossibleRoot_6 0 rfl ?_
    refine z_ic3 g dX2_isPossibleRoot_7 ?_
    refine z_ic_gt g (tgt := 15) dX2_isPossibleRoot_8 (by decide) (fun b8 => ?_) (fun b8 => ?_)
    · refine z_ic0 g dX2_isPossibleRoot_15 ?_
      exact hret _ _ _ _ dX2_isPossibleRoot_16 ((by simp only [poss, if_neg b3, if_pos b8, reduceIte, Bool.false_eq_true] <;> rfl)) (rfl)
    · refine z_ic1 g dX2_isPossibleRoot_11 ?_
      refine z_goto g 16 dX2_isPossibleRoot_12 (by decide) ?_
      exact hret _ _ _ _ dX2_isPossibleRoot_16 ((by simp only [poss, if_neg b3, if_neg b8, reduceIte, Bool.false_eq_true] <;> rfl)) (rfl)
theorem nd_X2_isPossibleRoot : yX2_isPossibleRoot.cls ≠ "java/lang/invoke/MethodHandle" ∧ yX2_isPossibleRoot.cls ≠ "java/lang/invoke/VarHandle" ∧ (parseMethodDescriptor yX2_isPossibleRoot.desc).map (fun d => d.parameters.length) = some 1 := by decide +kernel
set_option maxHeartbeats 4000000 in
set_option maxRecDepth 100000 in
/-- isSide(w) -/
theorem k_X2_isSide (l : Launch) (G : va_G) (k : Nat → ClassId) (p0 : Int32) : ∀ sz, Met l yX2_isSide wsX2_isSide ({ frames := 0, cells := 0, slots := 0, locals := 0 }) (va_Pc [.int p0] (KP G k [] sz)) (va_Qi (fun r (_ : Unit) => r = bI (decide (p0 = 0 ∨ p0 = 1))) (KQ G [] (va_A [] sz)) (va_A [] sz)) 0 0 (va_A [] sz) := by
  refine met_z 0 0 (lv0 := [(0, .int p0)]) (own := RX2) (by decide) rfl rfl (Nat.le_of_ble_eq_true rfl) rfl bI_n (fun Z g hret => ?_)
  refine z_iload_n g dX2_isSide_0 0 rfl ?_
  refine z_if_eq g (tgt := 9) dX2_isSide_1 (by decide) (fun b1 => ?_) (fun b1 => ?_)
  · refine z_ic1 g dX2_isSide_9 ?_
    refine z_goto g 14 dX2_isSide_10 (by decide) ?_
    exact hret _ _ _ _ dX2_isSide_14 ((by rw [bI_d]; simp [*])) (rfl)
  · refine z_iload_n g dX2_isSide_4 0 rfl ?_
    refine z_ic1 g dX2_isSide_5 ?_
    refine z_ic_ne g (tgt := 13) dX2_isSide_6 (by decide) (fun b6 => ?_) (fun b6 => ?_)
    · refine z_ic0 g dX2_isSide_13 ?_
      exact hret _ _ _ _ dX2_isSide_14 ((by rw [bI_d]; simp [*])) (rfl)
    · refine z_ic1 g dX2_isSide_9 ?_
      refine z_goto g 14 dX2_isSide_10 (by decide) ?_
      exact hret _ _ _ _ dX2_isSide_14 ((by rw [bI_d]; simp [*])) (rfl)
theorem nd_X2_isSide : yX2_isSide.cls ≠ "java/lang/invoke/MethodHandle" ∧ yX2_isSide.cls ≠ "java/lang/invoke/VarHandle" ∧ (parseMethodDescriptor yX2_isSide.desc).map (fun d => d.parameters.length) = some 1 := by decide +kernel
set_option maxHeartbeats 4000000 in
set_option maxRecDepth 100000 in
/-- many(root) -/
theorem k_X2_many (l : Launch) (G : va_G) (k : Nat → ClassId) (h0 a0 a1 a2 a3 a4 a5 a6 a7 a8 a9 a10 : Nat) (m : Nat → Nat) (p0 : Int32) : ∀ sz, Met l yX2_many wsX2_many ({ frames := 1, cells := 0, slots := 0, locals := 20 }) (va_Pc [.ref h0, .int p0] (KP G k [(h0, .inr (2, [.ref a0, .ref a1, .ref a2, .ref a3, .ref a4, .ref a5, .ref a6, .ref a7, .ref a8, .ref a9, .ref a10])), (a4, .inl (k 1, 7, .inl (fun j => nI (m j))))] sz)) (va_Qi (fun r (_ : Unit) => r = nI (manyP m p0)) (KQ G [(h0, .inr (2, [.ref a0, .ref a1, .ref a2, .ref a3, .ref a4, .ref a5, .ref a6, .ref a7, .ref a8, .ref a9, .ref a10])), (a4, .inl (k 1, 7, .inl (fun j => nI (m j))))] (va_A [(h0, .inr (2, [.ref a0, .ref a1, .ref a2, .ref a3, .ref a4, .ref a5, .ref a6, .ref a7, .ref a8, .ref a9, .ref a10])), (a4, .inl (k 1, 7, .inl (fun j => nI (m j))))] sz)) (va_A [(h0, .inr (2, [.ref a0, .ref a1, .ref a2, .ref a3, .ref a4, .ref a5, .ref a6, .ref a7, .ref a8, .ref a9, .ref a10])), (a4, .inl (k 1, 7, .inl (fun j => nI (m j))))] sz)) 0 0 (va_A [(h0, .inr (2, [.ref a0, .ref a1, .ref a2, .ref a3, .ref a4, .ref a5, .ref a6, .ref a7, .ref a8, .ref a9, .ref a10])), (a4, .inl (k 1, 7, .inl (fun j => nI (m j))))] sz) := by
  refine met_i 0 0 (lv0 := [(0, .ref h0), (1, .int p0)]) (own := RX2) (by decide) rfl rfl (Nat.le_of_ble_eq_true rfl) rfl (fun Z g hret => ?_)
  have hX2 : ∀ w ∈ u_ws RX2 TX2 11, w ∈ wsX2_many := fun w h => List.mem_cons_of_mem _ (List.mem_append_right _ (h))
  refine z_iload_n g dX2_many_0 1 rfl ?_
  refine z_callSi (w' := [_, _]) (wr := [_, _]) g (k_X2_isPossibleRoot l G k _) 1 gX2_many_X2_isPossibleRoot rfl rfl rfl nd_X2_isPossibleRoot ⟨by decide, by decide⟩ [] [0, 1] [0, 1] rfl rfl rfl rfl (by decide) rfl rfl rfl rfl (Nat.le_of_ble_eq_true rfl) dX2_many_1 ⟨by decide, by decide⟩ ?_
  refine z_bf_eq g (tgt := 19) dX2_many_4 (by decide) (fun b4 => ?_) (fun b4 => ?_)
  · refine z_ic0 g dX2_many_19 ?_
    exact hret _ _ _ _ dX2_many_20 ((by unfold manyP; rw [b4]; rfl)) (rfl)
  · refine z_aload_n g dX2_many_7 0 rfl ?_
    refine z_get g hX2 0 rfl rfl 4 (by decide) (mi 1 rfl) rfl dX2_many_8 ?_
    refine z_iload_n g dX2_many_11 1 rfl ?_
    refine z_bi g (-3) dX2_many_12 (by decide) ?_
    refine z_isub g dX2_many_14 ?_
    refine z_iald g 1 rfl (rix p0) (rix_ok b4).1 (rix_ok b4).2 (by decide) dX2_many_15 ?_
    refine z_goto g 20 dX2_many_16 (by decide) ?_
    exact hret _ _ _ _ dX2_many_20 ((by unfold manyP; rw [b4]; rfl)) (rfl)
theorem nd_X2_many : yX2_many.cls = RX2 ∧ yX2_many.cls ≠ "java/lang/invoke/MethodHandle" ∧ yX2_many.cls ≠ "java/lang/invoke/VarHandle" ∧ (parseMethodDescriptor yX2_many.desc).map (fun d => d.parameters.length) = some 1 := by decide +kernel
set_option maxHeartbeats 4000000 in
set_option maxRecDepth 100000 in
/-- placeOfPart(root, k) -/
theorem k_X2_placeOfPart (l : Launch) (G : va_G) (k : Nat → ClassId) (p0 p1 : Int32) : ∀ sz, Met l yX2_placeOfPart wsX2_placeOfPart ({ frames := 1, cells := 0, slots := 0, locals := 20 }) (va_Pc [.int p0, .int p1] (KP G k [] sz)) (va_Qi (fun r (_ : Unit) => r = plc p0 p1) (KQ G [] (va_A [] sz)) (va_A [] sz)) 0 0 (va_A [] sz) := by
  refine met_i 0 0 (lv0 := [(0, .int p0), (1, .int p1)]) (own := RX2) (by decide) rfl rfl (Nat.le_of_ble_eq_true rfl) rfl (fun Z g hret => ?_)
  refine z_iload_n g dX2_placeOfPart_0 0 rfl ?_
  refine z_callSi (w' := []) (wr := []) g (k_X2_isPossibleRoot l G k _) 1 gX2_placeOfPart_X2_isPossibleRoot rfl rfl rfl nd_X2_isPossibleRoot ⟨by decide, by decide⟩ [] [] [] rfl rfl rfl rfl (by decide) rfl rfl rfl rfl (Nat.le_of_ble_eq_true rfl) dX2_placeOfPart_1 ⟨by decide, by decide⟩ ?_
  refine z_bf_eq g (tgt := 21) dX2_placeOfPart_4 (by decide) (fun b4 => ?_) (fun b4 => ?_)
  · refine z_ic0 g dX2_placeOfPart_21 ?_
    refine z_istore_n (lv' := [(2, .int _), (0, .int _), (1, .int _)]) g dX2_placeOfPart_22 (by decide) rfl ?_
    refine z_iload_n g dX2_placeOfPart_23 0 rfl ?_
    refine z_if_eq g (tgt := 40) dX2_placeOfPart_24 (by decide) (fun b24 => ?_) (fun b24 => ?_)
    · refine z_icm1 g dX2_placeOfPart_40 ?_
      exact hret _ _ _ _ dX2_placeOfPart_41 ((by simp only [plc, if_neg (Bool.eq_false_iff.mp b4), if_pos b24, reduceIte, Bool.false_eq_true] <;> rfl)) (rfl)
    · first | exact absurd b24 (by decide) | exact absurd (by decide) b24
  · refine z_iload_n g dX2_placeOfPart_7 1 rfl ?_
    refine z_ic1 g dX2_placeOfPart_8 ?_
    refine z_ic_lt g (tgt := 21) dX2_placeOfPart_9 (by decide) (fun b9 => ?_) (fun b9 => ?_)
    · refine z_ic0 g dX2_placeOfPart_21 ?_
      refine z_istore_n (lv' := [(2, .int _), (0, .int _), (1, .int _)]) g dX2_placeOfPart_22 (by decide) rfl ?_
      refine z_iload_n g dX2_placeOfPart_23 0 rfl ?_
      refine z_if_eq g (tgt := 40) dX2_placeOfPart_24 (by decide) (fun b24 => ?_) (fun b24 => ?_)
      · refine z_icm1 g dX2_placeOfPart_40 ?_
        exact hret _ _ _ _ dX2_placeOfPart_41 ((by simp only [plc, if_pos b4, if_pos b9, if_pos b24, reduceIte, Bool.false_eq_true] <;> rfl)) (rfl)
      · first | exact absurd b24 (by decide) | exact absurd (by decide) b24
    · refine z_iload_n g dX2_placeOfPart_12 1 rfl ?_
      refine z_ic5 g dX2_placeOfPart_13 ?_
      refine z_ic_gt g (tgt := 21) dX2_placeOfPart_14 (by decide) (fun b14 => ?_) (fun b14 => ?_)
      · refine z_ic0 g dX2_placeOfPart_21 ?_
        refine z_istore_n (lv' := [(2, .int _), (0, .int _), (1, .int _)]) g dX2_placeOfPart_22 (by decide) rfl ?_
        refine z_iload_n g dX2_placeOfPart_23 0 rfl ?_
        refine z_if_eq g (tgt := 40) dX2_placeOfPart_24 (by decide) (fun b24 => ?_) (fun b24 => ?_)
        · refine z_icm1 g dX2_placeOfPart_40 ?_
          exact hret _ _ _ _ dX2_placeOfPart_41 ((by simp only [plc, if_pos b4, if_neg b9, if_pos b14, if_pos b24, reduceIte, Bool.false_eq_true] <;> rfl)) (rfl)
        · first | exact absurd b24 (by decide) | exact absurd (by decide) b24
      · refine z_ic1 g dX2_placeOfPart_17 ?_
        refine z_goto g 22 dX2_placeOfPart_18 (by decide) ?_
        refine z_istore_n (lv' := [(2, .int _), (0, .int _), (1, .int _)]) g dX2_placeOfPart_22 (by decide) rfl ?_
        refine z_iload_n g dX2_placeOfPart_23 0 rfl ?_
        refine z_if_eq g (tgt := 40) dX2_placeOfPart_24 (by decide) (fun b24 => ?_) (fun b24 => ?_)
        · first | exact absurd b24 (by decide) | exact absurd (by decide) b24
        · refine z_iload_n g dX2_placeOfPart_27 1 rfl ?_
          refine z_bi g (-3) dX2_placeOfPart_28 (by decide) ?_
          refine z_isub g dX2_placeOfPart_30 ?_
          refine z_ic5 g dX2_placeOfPart_31 ?_
          refine z_imul g dX2_placeOfPart_32 ?_
          refine z_iload_n g dX2_placeOfPart_33 2 rfl ?_
          refine z_iadd g dX2_placeOfPart_34 ?_
          refine z_ic1 g dX2_placeOfPart_35 ?_
          refine z_isub g dX2_placeOfPart_36 ?_
          refine z_goto g 41 dX2_placeOfPart_37 (by decide) ?_
          exact hret _ _ _ _ dX2_placeOfPart_41 ((by simp only [plc, if_pos b4, if_neg b9, if_neg b14, if_neg b24, reduceIte, Bool.false_eq_true] <;> rfl)) (rfl)
theorem nd_X2_placeOfPart : yX2_placeOfPart.cls ≠ "java/lang/invoke/MethodHandle" ∧ yX2_placeOfPart.cls ≠ "java/lang/invoke/VarHandle" ∧ (parseMethodDescriptor yX2_placeOfPart.desc).map (fun d => d.parameters.length) = some 2 := by decide +kernel
set_option maxHeartbeats 4000000 in
set_option maxRecDepth 100000 in
/-- partAbove(root, k) -/
theorem k_X2_partAbove (l : Launch) (G : va_G) (k : Nat → ClassId) (h0 a0 a1 a2 a3 a4 a5 a6 a7 a8 a9 a10 : Nat) (A : Nat → Int64) (p0 p1 : Int32) : ∀ sz, Met l yX2_partAbove wsX2_partAbove ({ frames := 2, cells := 0, slots := 0, locals := 42 }) (va_Pc [.ref h0, .int p0, .int p1] (KP G k [(h0, .inr (2, [.ref a0, .ref a1, .ref a2, .ref a3, .ref a4, .ref a5, .ref a6, .ref a7, .ref a8, .ref a9, .ref a10])), (a5, .inl (k 2, 35, .inr (.inl A)))] sz)) (va_Ql (fun r (_ : Unit) => r = paP A 0 p0 p1) (KQ G [(h0, .inr (2, [.ref a0, .ref a1, .ref a2, .ref a3, .ref a4, .ref a5, .ref a6, .ref a7, .ref a8, .ref a9, .ref a10])), (a5, .inl (k 2, 35, .inr (.inl A)))] (va_A [(h0, .inr (2, [.ref a0, .ref a1, .ref a2, .ref a3, .ref a4, .ref a5, .ref a6, .ref a7, .ref a8, .ref a9, .ref a10])), (a5, .inl (k 2, 35, .inr (.inl A)))] sz)) (va_A [(h0, .inr (2, [.ref a0, .ref a1, .ref a2, .ref a3, .ref a4, .ref a5, .ref a6, .ref a7, .ref a8, .ref a9, .ref a10])), (a5, .inl (k 2, 35, .inr (.inl A)))] sz)) 0 0 (va_A [(h0, .inr (2, [.ref a0, .ref a1, .ref a2, .ref a3, .ref a4, .ref a5, .ref a6, .ref a7, .ref a8, .ref a9, .ref a10])), (a5, .inl (k 2, 35, .inr (.inl A)))] sz) := by
  refine met_l 0 0 (lv0 := [(0, .ref h0), (1, .int p0), (2, .int p1)]) (own := RX2) (by decide) rfl rfl (Nat.le_of_ble_eq_true rfl) rfl (fun Z g hret => ?_)
  have hX2 : ∀ w ∈ u_ws RX2 TX2 11, w ∈ wsX2_partAbove := fun w h => List.mem_cons_of_mem _ (List.mem_append_right _ (h))
  refine z_iload_n g dX2_partAbove_0 1 rfl ?_
  refine z_iload_n g dX2_partAbove_1 2 rfl ?_
  refine z_callSi (w' := [_, _]) (wr := [_, _]) g (k_X2_placeOfPart l G k _ _) 2 gX2_partAbove_X2_placeOfPart rfl rfl rfl nd_X2_placeOfPart ⟨by decide, by decide⟩ [] [0, 1] [0, 1] rfl rfl rfl rfl (by decide) rfl rfl rfl rfl (Nat.le_of_ble_eq_true rfl) dX2_partAbove_2 ⟨by decide, by decide⟩ ?_
  refine z_istore_n (lv' := [(3, .int _), (0, .ref _), (1, .int _), (2, .int _)]) g dX2_partAbove_5 (by decide) rfl ?_
  refine z_iload_n g dX2_partAbove_6 0 rfl ?_
  refine z_if_ge g (tgt := 14) dX2_partAbove_7 (by decide) (fun b7 => ?_) (fun b7 => ?_)
  · refine z_aload_n g dX2_partAbove_14 1 rfl ?_
    refine z_get g hX2 0 rfl rfl 5 (by decide) (mi 1 rfl) rfl dX2_partAbove_15 ?_
    refine z_iload_n g dX2_partAbove_18 0 rfl ?_
    refine z_lald g 1 rfl (plc p0 p1).toNatClampNeg (plc_ok (Int32.not_lt.mpr b7)).1 (plc_ok (Int32.not_lt.mpr b7)).2 (by decide) dX2_partAbove_19 ?_
    exact hret _ _ _ _ dX2_partAbove_20 ((by simp only [paP, if_pos b7, reduceIte, Bool.false_eq_true] <;> rfl)) (rfl)
  · refine z_lc0 g dX2_partAbove_10 ?_
    refine z_goto g 20 dX2_partAbove_11 (by decide) ?_
    exact hret _ _ _ _ dX2_partAbove_20 ((by simp only [paP, if_neg b7, reduceIte, Bool.false_eq_true] <;> rfl)) (rfl)
theorem nd_X2_partAbove : yX2_partAbove.cls = RX2 ∧ yX2_partAbove.cls ≠ "java/lang/invoke/MethodHandle" ∧ yX2_partAbove.cls ≠ "java/lang/invoke/VarHandle" ∧ (parseMethodDescriptor yX2_partAbove.desc).map (fun d => d.parameters.length) = some 2 := by decide +kernel
set_option maxHeartbeats 4000000 in
set_option maxRecDepth 100000 in
/-- partBelow(root, k) -/
theorem k_X2_partBelow (l : Launch) (G : va_G) (k : Nat → ClassId) (h0 a0 a1 a2 a3 a4 a5 a6 a7 a8 a9 a10 : Nat) (A : Nat → Int64) (p0 p1 : Int32) : ∀ sz, Met l yX2_partBelow wsX2_partBelow ({ frames := 2, cells := 0, slots := 0, locals := 42 }) (va_Pc [.ref h0, .int p0, .int p1] (KP G k [(h0, .inr (2, [.ref a0, .ref a1, .ref a2, .ref a3, .ref a4, .ref a5, .ref a6, .ref a7, .ref a8, .ref a9, .ref a10])), (a6, .inl (k 2, 35, .inr (.inl A)))] sz)) (va_Ql (fun r (_ : Unit) => r = paP A 1 p0 p1) (KQ G [(h0, .inr (2, [.ref a0, .ref a1, .ref a2, .ref a3, .ref a4, .ref a5, .ref a6, .ref a7, .ref a8, .ref a9, .ref a10])), (a6, .inl (k 2, 35, .inr (.inl A)))] (va_A [(h0, .inr (2, [.ref a0, .ref a1, .ref a2, .ref a3, .ref a4, .ref a5, .ref a6, .ref a7, .ref a8, .ref a9, .ref a10])), (a6, .inl (k 2, 35, .inr (.inl A)))] sz)) (va_A [(h0, .inr (2, [.ref a0, .ref a1, .ref a2, .ref a3, .ref a4, .ref a5, .ref a6, .ref a7, .ref a8, .ref a9, .ref a10])), (a6, .inl (k 2, 35, .inr (.inl A)))] sz)) 0 0 (va_A [(h0, .inr (2, [.ref a0, .ref a1, .ref a2, .ref a3, .ref a4, .ref a5, .ref a6, .ref a7, .ref a8, .ref a9, .ref a10])), (a6, .inl (k 2, 35, .inr (.inl A)))] sz) := by
  refine met_l 0 0 (lv0 := [(0, .ref h0), (1, .int p0), (2, .int p1)]) (own := RX2) (by decide) rfl rfl (Nat.le_of_ble_eq_true rfl) rfl (fun Z g hret => ?_)
  have hX2 : ∀ w ∈ u_ws RX2 TX2 11, w ∈ wsX2_partBelow := fun w h => List.mem_cons_of_mem _ (List.mem_append_right _ (h))
  refine z_iload_n g dX2_partBelow_0 1 rfl ?_
  refine z_iload_n g dX2_partBelow_1 2 rfl ?_
  refine z_callSi (w' := [_, _]) (wr := [_, _]) g (k_X2_placeOfPart l G k _ _) 2 gX2_partBelow_X2_placeOfPart rfl rfl rfl nd_X2_placeOfPart ⟨by decide, by decide⟩ [] [0, 1] [0, 1] rfl rfl rfl rfl (by decide) rfl rfl rfl rfl (Nat.le_of_ble_eq_true rfl) dX2_partBelow_2 ⟨by decide, by decide⟩ ?_
  refine z_istore_n (lv' := [(3, .int _), (0, .ref _), (1, .int _), (2, .int _)]) g dX2_partBelow_5 (by decide) rfl ?_
  refine z_iload_n g dX2_partBelow_6 0 rfl ?_
  refine z_if_ge g (tgt := 14) dX2_partBelow_7 (by decide) (fun b7 => ?_) (fun b7 => ?_)
  · refine z_aload_n g dX2_partBelow_14 1 rfl ?_
    refine z_get g hX2 0 rfl rfl 6 (by decide) (mi 1 rfl) rfl dX2_partBelow_15 ?_
    refine z_iload_n g dX2_partBelow_18 0 rfl ?_
    refine z_lald g 1 rfl (plc p0 p1).toNatClampNeg (plc_ok (Int32.not_lt.mpr b7)).1 (plc_ok (Int32.not_lt.mpr b7)).2 (by decide) dX2_partBelow_19 ?_
    exact hret _ _ _ _ dX2_partBelow_20 ((by simp only [paP, if_pos b7, reduceIte, Bool.false_eq_true] <;> rfl)) (rfl)
  · refine z_lc1 g dX2_partBelow_10 ?_
    refine z_goto g 20 dX2_partBelow_11 (by decide) ?_
    exact hret _ _ _ _ dX2_partBelow_20 ((by simp only [paP, if_neg b7, reduceIte, Bool.false_eq_true] <;> rfl)) (rfl)
theorem nd_X2_partBelow : yX2_partBelow.cls = RX2 ∧ yX2_partBelow.cls ≠ "java/lang/invoke/MethodHandle" ∧ yX2_partBelow.cls ≠ "java/lang/invoke/VarHandle" ∧ (parseMethodDescriptor yX2_partBelow.desc).map (fun d => d.parameters.length) = some 2 := by decide +kernel
set_option maxHeartbeats 4000000 in
set_option maxRecDepth 100000 in
/-- commonDivisor(a, b) -/
theorem k_X2_commonDivisor (l : Launch) (G : va_G) (k : Nat → ClassId) (p0 p1 : Int64) : ∀ sz, Met l yX2_commonDivisor wsX2_commonDivisor ({ frames := 1, cells := 0, slots := 0, locals := 13 }) (va_Pc [.long p0, .long p1] (KP G k [] sz)) (va_Ql (fun r (_ : Unit) => r = cgP p0 p1) (KQ G [] (va_A [] sz)) (va_A [] sz)) 0 0 (va_A [] sz) := by
  refine met_l 0 0 (lv0 := [(0, .long p0), (2, .long p1)]) (own := RX2) (by decide) rfl rfl (Nat.le_of_ble_eq_true rfl) rfl (fun Z g hret => ?_)
  refine z_lload_n g dX2_commonDivisor_0 0 rfl ?_
  refine z_abs g (mi 1 rfl) (mi 2 rfl) (mi 3 rfl) (mi 4 rfl) (by decide) (Nat.le_of_ble_eq_true rfl) (by decide) (by decide) dX2_commonDivisor_1 ?_
  refine z_tl (y := absL p0) (rfl) ?_
  refine z_lstore (lv' := [(4, .long _), (0, .long _), (2, .long _)]) g dX2_commonDivisor_4 (by decide) rfl ?_
  refine z_lload_n g dX2_commonDivisor_6 2 rfl ?_
  refine z_abs g (mi 1 rfl) (mi 2 rfl) (mi 3 rfl) (mi 4 rfl) (by decide) (Nat.le_of_ble_eq_true rfl) (by decide) (by decide) dX2_commonDivisor_7 ?_
  refine z_tl (y := absL p1) (rfl) ?_
  refine z_lstore (lv' := [(6, .long _), (4, .long _), (0, .long _), (2, .long _)]) g dX2_commonDivisor_10 (by decide) rfl ?_
  refine z_ic0 g dX2_commonDivisor_12 ?_
  refine z_istore (lv' := [(8, .int _), (6, .long _), (4, .long _), (0, .long _), (2, .long _)]) g dX2_commonDivisor_13 (by decide) rfl ?_
  have cut_15 : ∀ (N15 : Nat) (s : Nat) (d r : Int64), 100 - s < N15 → (s ≤ 100) → (cgL (100 - s) d r = cgP p0 p1) → Z 0 0 [] [(0, .long p0), (2, .long p1), (4, .long d), (6, .long r), (8, .int (nI s))] 15 [] := by
    intro N15
    induction N15 with
    | zero => intro s d r hms; exact absurd hms (Nat.not_lt_zero _)
    | succ N15 ih15 =>
      intro s d r hms15 hs hI
      refine z_iload g dX2_commonDivisor_15 4 rfl ?_
      refine z_bi g 100 dX2_commonDivisor_17 (by decide) ?_
      refine z_n_ge g (a := s) (b := 100) (tgt := 50) (by omega) (by omega) dX2_commonDivisor_19 (by decide) (fun b19 => ?_) (fun b19 => ?_)
      · refine z_lload g dX2_commonDivisor_50 2 rfl ?_
        exact hret _ _ _ _ dX2_commonDivisor_52 ((by first | (rw [← hI, show 100 - s = 0 by omega]; rfl) | (rw [← hI, show 100 - s = (100 - (s + 1)) + 1 by omega]; show _ = if r = 0 then d else _; rw [if_pos b25]))) (rfl)
      · refine z_lload g dX2_commonDivisor_22 3 rfl ?_
        refine z_lc0 g dX2_commonDivisor_24 ?_
        refine z_lc_eq g (tgt := 50) dX2_commonDivisor_25 dX2_commonDivisor_26 (by decide) (fun b25 => ?_) (fun b25 => ?_)
        · refine z_lload g dX2_commonDivisor_50 2 rfl ?_
          exact hret _ _ _ _ dX2_commonDivisor_52 ((by first | (rw [← hI, show 100 - s = 0 by omega]; rfl) | (rw [← hI, show 100 - s = (100 - (s + 1)) + 1 by omega]; show _ = if r = 0 then d else _; rw [if_pos b25]))) (rfl)
        · refine z_lload g dX2_commonDivisor_29 2 rfl ?_
          refine z_lload g dX2_commonDivisor_31 3 rfl ?_
          refine z_lrem g dX2_commonDivisor_33 b25 ?_
          refine z_lstore (lv' := [(9, .long _), (0, .long _), (2, .long _), (4, .long _), (6, .long _), (8, .int _)]) g dX2_commonDivisor_34 (by decide) rfl ?_
          refine z_lload g dX2_commonDivisor_36 4 rfl ?_
          refine z_lstore (lv' := [(4, .long _), (9, .long _), (0, .long _), (2, .long _), (6, .long _), (8, .int _)]) g dX2_commonDivisor_38 (by decide) rfl ?_
          refine z_lload g dX2_commonDivisor_40 1 rfl ?_
          refine z_lstore (lv' := [(6, .long _), (4, .long _), (9, .long _), (0, .long _), (2, .long _), (8, .int _)]) g dX2_commonDivisor_42 (by decide) rfl ?_
          refine z_inc (lv' := [(8, .int _), (6, .long _), (4, .long _), (9, .long _), (0, .long _), (2, .long _)]) g dX2_commonDivisor_44 5 rfl (by decide) rfl ?_
          refine z_goto g 15 dX2_commonDivisor_47 (by decide) ?_
          refine z_locs (lv' := [(0, .long _), (2, .long _), (4, .long _), (6, .long _), (8, .int _)]) g [4, 5, 2, 1, 0] rfl ?_
          exact ih15 _ _ _ (by omega) (by omega) (by rw [← hI, show 100 - s = (100 - (s + 1)) + 1 by omega]; show _ = if r = 0 then d else _; rw [if_neg b25])
  refine z_locs (lv' := [(0, .long _), (2, .long _), (4, .long _), (6, .long _), (8, .int _)]) g [3, 4, 2, 1, 0] rfl ?_
  exact cut_15 _ 0 _ _ (Nat.lt_succ_self _) (by decide) rfl
theorem nd_X2_commonDivisor : yX2_commonDivisor.cls ≠ "java/lang/invoke/MethodHandle" ∧ yX2_commonDivisor.cls ≠ "java/lang/invoke/VarHandle" ∧ (parseMethodDescriptor yX2_commonDivisor.desc).map (fun d => d.parameters.length) = some 2 := by decide +kernel
set_option maxHeartbeats 4000000 in
set_option maxRecDepth 100000 in
/-- inLowestTerms(n, d, w) -/
theorem k_X2_inLowestTerms (l : Launch) (G : va_G) (k : Nat → ClassId) (p0 p1 : Int64) (p2 : Int32) : ∀ sz, Met l yX2_inLowestTerms wsX2_inLowestTerms ({ frames := 2, cells := 0, slots := 0, locals := 43 }) (va_Pc [.long p0, .long p1, .int p2] (KP G k [] sz)) (va_Ql (fun r (_ : Unit) => r = lowP p0 p1 p2) (KQ G [] (va_A [] sz)) (va_A [] sz)) 0 0 (va_A [] sz) := by
  refine met_l 0 0 (lv0 := [(0, .long p0), (2, .long p1), (4, .int p2)]) (own := RX2) (by decide) rfl rfl (Nat.le_of_ble_eq_true rfl) rfl (fun Z g hret => ?_)
  refine z_lload_n g dX2_inLowestTerms_0 0 rfl ?_
  refine z_lload_n g dX2_inLowestTerms_1 1 rfl ?_
  refine z_callSl (w' := []) (wr := []) g (k_X2_commonDivisor l G k _ _) 2 gX2_inLowestTerms_X2_commonDivisor rfl rfl rfl nd_X2_commonDivisor ⟨by decide, by decide⟩ [] [] [] rfl rfl rfl rfl (by decide) rfl rfl rfl rfl (Nat.le_of_ble_eq_true rfl) dX2_inLowestTerms_2 ⟨by decide, by decide⟩ ?_
  refine z_lstore (lv' := [(5, .long _), (0, .long _), (2, .long _), (4, .int _)]) g dX2_inLowestTerms_5 (by decide) rfl ?_
  refine z_lload_n g dX2_inLowestTerms_7 2 rfl ?_
  refine z_lc0 g dX2_inLowestTerms_8 ?_
  refine z_lc_eq g (tgt := 20) dX2_inLowestTerms_9 dX2_inLowestTerms_10 (by decide) (fun b9 => ?_) (fun b9 => ?_)
  · refine z_iload g dX2_inLowestTerms_20 3 rfl ?_
    refine z_if_ne g (tgt := 29) dX2_inLowestTerms_22 (by decide) (fun b22 => ?_) (fun b22 => ?_)
    · refine z_lc1 g dX2_inLowestTerms_29 ?_
      exact hret _ _ _ _ dX2_inLowestTerms_30 ((by simp only [lowP, if_pos b9, if_neg b22, reduceIte, Bool.false_eq_true] <;> rfl)) (rfl)
    · refine z_lc0 g dX2_inLowestTerms_25 ?_
      refine z_goto g 30 dX2_inLowestTerms_26 (by decide) ?_
      exact hret _ _ _ _ dX2_inLowestTerms_30 ((by simp only [lowP, if_pos b9, if_pos b22, reduceIte, Bool.false_eq_true] <;> rfl)) (rfl)
  · refine z_lload g dX2_inLowestTerms_13 0 rfl ?_
    refine z_lc0 g dX2_inLowestTerms_15 ?_
    refine z_lc_ne g (tgt := 31) dX2_inLowestTerms_16 dX2_inLowestTerms_17 (by decide) (fun b16 => ?_) (fun b16 => ?_)
    · refine z_lload_n g dX2_inLowestTerms_31 2 rfl ?_
      refine z_lc0 g dX2_inLowestTerms_32 ?_
      refine z_lc_ge g (tgt := 43) dX2_inLowestTerms_33 dX2_inLowestTerms_34 (by decide) (fun b33 => ?_) (fun b33 => ?_)
      · refine z_lload g dX2_inLowestTerms_43 0 rfl ?_
        refine z_lstore (lv' := [(7, .long _), (5, .long _), (0, .long _), (2, .long _), (4, .int _)]) g dX2_inLowestTerms_45 (by decide) rfl ?_
        refine z_iload g dX2_inLowestTerms_47 4 rfl ?_
        refine z_if_ne g (tgt := 56) dX2_inLowestTerms_49 (by decide) (fun b49 => ?_) (fun b49 => ?_)
        · refine z_lload_n g dX2_inLowestTerms_56 3 rfl ?_
          refine z_lload g dX2_inLowestTerms_57 0 rfl ?_
          refine z_ldiv g dX2_inLowestTerms_59 (by first | exact b16 | exact neg_ne0 b16) ?_
          exact hret _ _ _ _ dX2_inLowestTerms_60 ((by simp only [lowP, if_neg b9, if_neg b16, if_pos b33, if_neg b49, reduceIte, Bool.false_eq_true] <;> rfl)) (rfl)
        · refine z_lload_n g dX2_inLowestTerms_52 2 rfl ?_
          refine z_goto g 57 dX2_inLowestTerms_53 (by decide) ?_
          refine z_lload g dX2_inLowestTerms_57 0 rfl ?_
          refine z_ldiv g dX2_inLowestTerms_59 (by first | exact b16 | exact neg_ne0 b16) ?_
          exact hret _ _ _ _ dX2_inLowestTerms_60 ((by simp only [lowP, if_neg b9, if_neg b16, if_pos b33, if_pos b49, reduceIte, Bool.false_eq_true] <;> rfl)) (rfl)
      · refine z_lload g dX2_inLowestTerms_37 0 rfl ?_
        refine z_lneg g dX2_inLowestTerms_39 ?_
        refine z_goto g 45 dX2_inLowestTerms_40 (by decide) ?_
        refine z_lstore (lv' := [(7, .long _), (5, .long _), (0, .long _), (2, .long _), (4, .int _)]) g dX2_inLowestTerms_45 (by decide) rfl ?_
        refine z_iload g dX2_inLowestTerms_47 4 rfl ?_
        refine z_if_ne g (tgt := 56) dX2_inLowestTerms_49 (by decide) (fun b49 => ?_) (fun b49 => ?_)
        · refine z_lload_n g dX2_inLowestTerms_56 3 rfl ?_
          refine z_lload g dX2_inLowestTerms_57 0 rfl ?_
          refine z_ldiv g dX2_inLowestTerms_59 (by first | exact b16 | exact neg_ne0 b16) ?_
          exact hret _ _ _ _ dX2_inLowestTerms_60 ((by simp only [lowP, if_neg b9, if_neg b16, if_neg b33, if_neg b49, reduceIte, Bool.false_eq_true] <;> rfl)) (rfl)
        · refine z_lload_n g dX2_inLowestTerms_52 2 rfl ?_
          refine z_goto g 57 dX2_inLowestTerms_53 (by decide) ?_
          refine z_lload g dX2_inLowestTerms_57 0 rfl ?_
          refine z_ldiv g dX2_inLowestTerms_59 (by first | exact b16 | exact neg_ne0 b16) ?_
          exact hret _ _ _ _ dX2_inLowestTerms_60 ((by simp only [lowP, if_neg b9, if_neg b16, if_neg b33, if_pos b49, reduceIte, Bool.false_eq_true] <;> rfl)) (rfl)
    · refine z_iload g dX2_inLowestTerms_20 3 rfl ?_
      refine z_if_ne g (tgt := 29) dX2_inLowestTerms_22 (by decide) (fun b22 => ?_) (fun b22 => ?_)
      · refine z_lc1 g dX2_inLowestTerms_29 ?_
        exact hret _ _ _ _ dX2_inLowestTerms_30 ((by simp only [lowP, if_neg b9, if_pos b16, if_neg b22, reduceIte, Bool.false_eq_true] <;> rfl)) (rfl)
      · refine z_lc0 g dX2_inLowestTerms_25 ?_
        refine z_goto g 30 dX2_inLowestTerms_26 (by decide) ?_
        exact hret _ _ _ _ dX2_inLowestTerms_30 ((by simp only [lowP, if_neg b9, if_pos b16, if_pos b22, reduceIte, Bool.false_eq_true] <;> rfl)) (rfl)
theorem nd_X2_inLowestTerms : yX2_inLowestTerms.cls ≠ "java/lang/invoke/MethodHandle" ∧ yX2_inLowestTerms.cls ≠ "java/lang/invoke/VarHandle" ∧ (parseMethodDescriptor yX2_inLowestTerms.desc).map (fun d => d.parameters.length) = some 3 := by decide +kernel
set_option maxHeartbeats 4000000 in
set_option maxRecDepth 100000 in
/-- keepPart(root, k, n, d) -/
theorem k_X2_keepPart (l : Launch) (G : va_G) (k : Nat → ClassId) (h0 a0 a1 a2 a3 a4 a5 a6 a7 a8 a9 a10 : Nat) (A B : Nat → Int64) (p0 p1 : Int32) (p2 p3 : Int64) : ∀ sz, Met l yX2_keepPart wsX2_keepPart ({ frames := 3, cells := 0, slots := 0, locals := 71 }) (va_Pc [.ref h0, .int p0, .int p1, .long p2, .long p3] (KP G k [(h0, .inr (2, [.ref a0, .ref a1, .ref a2, .ref a3, .ref a4, .ref a5, .ref a6, .ref a7, .ref a8, .ref a9, .ref a10])), (a5, .inl (k 2, 35, .inr (.inl A))), (a6, .inl (k 2, 35, .inr (.inl B)))] sz)) (va_Qv (fun (_ : Unit) => True) (KQ G [(h0, .inr (2, [.ref a0, .ref a1, .ref a2, .ref a3, .ref a4, .ref a5, .ref a6, .ref a7, .ref a8, .ref a9, .ref a10])), (a5, .inl (k 2, 35, .inr (.inl (kpP A p0 p1 (lowP p2 p3 0))))), (a6, .inl (k 2, 35, .inr (.inl (kpP B p0 p1 (lowP p2 p3 1)))))] (va_A [(h0, .inr (2, [.ref a0, .ref a1, .ref a2, .ref a3, .ref a4, .ref a5, .ref a6, .ref a7, .ref a8, .ref a9, .ref a10])), (a5, .inl (k 2, 35, .inr (.inl A))), (a6, .inl (k 2, 35, .inr (.inl B)))] sz)) (va_A [(h0, .inr (2, [.ref a0, .ref a1, .ref a2, .ref a3, .ref a4, .ref a5, .ref a6, .ref a7, .ref a8, .ref a9, .ref a10])), (a5, .inl (k 2, 35, .inr (.inl A))), (a6, .inl (k 2, 35, .inr (.inl B)))] sz)) 0 0 (va_A [(h0, .inr (2, [.ref a0, .ref a1, .ref a2, .ref a3, .ref a4, .ref a5, .ref a6, .ref a7, .ref a8, .ref a9, .ref a10])), (a5, .inl (k 2, 35, .inr (.inl A))), (a6, .inl (k 2, 35, .inr (.inl B)))] sz) := by
  refine met_v 0 0 (lv0 := [(0, .ref h0), (1, .int p0), (2, .int p1), (3, .long p2), (5, .long p3)]) (own := RX2) (by decide) rfl rfl (Nat.le_of_ble_eq_true rfl) rfl (fun Z g hret => ?_)
  have hX2 : ∀ w ∈ u_ws RX2 TX2 11, w ∈ wsX2_keepPart := fun w h => List.mem_cons_of_mem _ (List.mem_append_right _ (h))
  refine z_iload_n g dX2_keepPart_0 1 rfl ?_
  refine z_iload_n g dX2_keepPart_1 2 rfl ?_
  refine z_callSi (w' := [_, _, _]) (wr := [_, _, _]) g (k_X2_placeOfPart l G k _ _) 2 gX2_keepPart_X2_placeOfPart rfl rfl rfl nd_X2_placeOfPart ⟨by decide, by decide⟩ [] [0, 1, 2] [0, 1, 2] rfl rfl rfl rfl (by decide) rfl rfl rfl rfl (Nat.le_of_ble_eq_true rfl) dX2_keepPart_2 ⟨by decide, by decide⟩ ?_
  refine z_istore (lv' := [(7, .int _), (0, .ref _), (1, .int _), (2, .int _), (3, .long _), (5, .long _)]) g dX2_keepPart_5 (by decide) rfl ?_
  refine z_iload g dX2_keepPart_7 0 rfl ?_
  refine z_if_lt g (tgt := 40) dX2_keepPart_9 (by decide) (fun b9 => ?_) (fun b9 => ?_)
  · exact hret _ _ _ dX2_keepPart_40 ((by simp only [kpP, if_pos b9, reduceIte, Bool.false_eq_true] <;> rfl))
  · refine z_aload_n g dX2_keepPart_12 1 rfl ?_
    refine z_get g hX2 0 rfl rfl 5 (by decide) (mi 1 rfl) rfl dX2_keepPart_13 ?_
    refine z_iload g dX2_keepPart_16 0 rfl ?_
    refine z_lload_n g dX2_keepPart_18 4 rfl ?_
    refine z_lload g dX2_keepPart_19 5 rfl ?_
    refine z_ic0 g dX2_keepPart_21 ?_
    refine z_callSl (w' := [_, _, _]) (wr := [_, _, _]) g (k_X2_inLowestTerms l G k _ _ _) 3 gX2_keepPart_X2_inLowestTerms rfl rfl rfl nd_X2_inLowestTerms ⟨by decide, by decide⟩ [] [0, 1, 2] [0, 1, 2] rfl rfl rfl rfl (by decide) rfl rfl rfl rfl (Nat.le_of_ble_eq_true rfl) dX2_keepPart_22 ⟨by decide, by decide⟩ ?_
    refine z_last (w' := [_, _, _]) g 1 rfl (plc p0 p1).toNatClampNeg (plc_ok b9).1 (plc_ok b9).2 (by decide) dX2_keepPart_25 rfl ?_
    refine z_aload_n g dX2_keepPart_26 1 rfl ?_
    refine z_get g hX2 0 rfl rfl 6 (by decide) (mi 2 rfl) rfl dX2_keepPart_27 ?_
    refine z_iload g dX2_keepPart_30 0 rfl ?_
    refine z_lload_n g dX2_keepPart_32 4 rfl ?_
    refine z_lload g dX2_keepPart_33 5 rfl ?_
    refine z_ic1 g dX2_keepPart_35 ?_
    refine z_callSl (w' := [_, _, _]) (wr := [_, _, _]) g (k_X2_inLowestTerms l G k _ _ _) 3 gX2_keepPart_X2_inLowestTerms rfl rfl rfl nd_X2_inLowestTerms ⟨by decide, by decide⟩ [] [0, 1, 2] [0, 1, 2] rfl rfl rfl rfl (by decide) rfl rfl rfl rfl (Nat.le_of_ble_eq_true rfl) dX2_keepPart_36 ⟨by decide, by decide⟩ ?_
    refine z_last (w' := [_, _, _]) g 2 rfl (plc p0 p1).toNatClampNeg (plc_ok b9).1 (plc_ok b9).2 (by decide) dX2_keepPart_39 rfl ?_
    exact hret _ _ _ dX2_keepPart_40 ((by simp only [kpP, if_neg b9, reduceIte, Bool.false_eq_true] <;> rfl))
theorem nd_X2_keepPart : yX2_keepPart.cls = RX2 ∧ yX2_keepPart.cls ≠ "java/lang/invoke/MethodHandle" ∧ yX2_keepPart.cls ≠ "java/lang/invoke/VarHandle" ∧ (parseMethodDescriptor yX2_keepPart.desc).map (fun d => d.parameters.length) = some 4 := by decide +kernel
set_option maxHeartbeats 4000000 in
set_option maxRecDepth 100000 in
/-- multiplyOtherFactors(root) -/
theorem k_X2_multiplyOtherFactors (l : Launch) (G : va_G) (k : Nat → ClassId) (h0 a0 a1 a2 a3 a4 a5 a6 a7 a8 a9 a10 : Nat) (b10 : Nat) (m : Nat → Nat) (O : Nat → Int64) (p0 : Int32) (hm : ∀ j, j < 7 → m j ≤ 5) : ∀ sz, Met l yX2_multiplyOtherFactors wsX2_multiplyOtherFactors ({ frames := 3, cells := 0, slots := 0, locals := 64 }) (va_Pc [.ref h0, .int p0] (KP G k [(h0, .inr (2, [.ref a0, .ref a1, .ref a2, .ref a3, .ref a4, .ref a5, .ref a6, .ref a7, .ref a8, .ref a9, .ref a10])), (a4, .inl (k 1, 7, .inl (fun j => nI (m j)))), (a10, .inr (1, [.ref b10])), (b10, .inl (k 2, 7, .inr (.inl O)))] sz)) (va_Qv (fun (_ : Unit) => True) (KQ G [(h0, .inr (2, [.ref a0, .ref a1, .ref a2, .ref a3, .ref a4, .ref a5, .ref a6, .ref a7, .ref a8, .ref a9, .ref a10])), (a4, .inl (k 1, 7, .inl (fun j => nI (m j)))), (a10, .inr (1, [.ref b10])), (b10, .inl (k 2, 7, .inr (.inl (othF m p0 7))))] (va_A [(h0, .inr (2, [.ref a0, .ref a1, .ref a2, .ref a3, .ref a4, .ref a5, .ref a6, .ref a7, .ref a8, .ref a9, .ref a10])), (a4, .inl (k 1, 7, .inl (fun j => nI (m j)))), (a10, .inr (1, [.ref b10])), (b10, .inl (k 2, 7, .inr (.inl O)))] sz)) (va_A [(h0, .inr (2, [.ref a0, .ref a1, .ref a2, .ref a3, .ref a4, .ref a5, .ref a6, .ref a7, .ref a8, .ref a9, .ref a10])), (a4, .inl (k 1, 7, .inl (fun j => nI (m j)))), (a10, .inr (1, [.ref b10])), (b10, .inl (k 2, 7, .inr (.inl O)))] sz)) 0 0 (va_A [(h0, .inr (2, [.ref a0, .ref a1, .ref a2, .ref a3, .ref a4, .ref a5, .ref a6, .ref a7, .ref a8, .ref a9, .ref a10])), (a4, .inl (k 1, 7, .inl (fun j => nI (m j)))), (a10, .inr (1, [.ref b10])), (b10, .inl (k 2, 7, .inr (.inl O)))] sz) := by
  refine met_v 0 0 (lv0 := [(0, .ref h0), (1, .int p0)]) (own := RX2) (by decide) rfl rfl (Nat.le_of_ble_eq_true rfl) rfl (fun Z g hret => ?_)
  have hX2 : ∀ w ∈ u_ws RX2 TX2 11, w ∈ wsX2_multiplyOtherFactors := fun w h => List.mem_cons_of_mem _ (List.mem_append_left _ (List.mem_append_right _ (h)))
  refine z_aload_n g dX2_multiplyOtherFactors_0 0 rfl ?_
  refine z_get g hX2 0 rfl rfl 10 (by decide) (mi 1 rfl) rfl dX2_multiplyOtherFactors_1 ?_
  refine z_callVv (w' := [_, _, _, _]) (wr := [_, _]) g (k_X1_becomeOne l G k _ _ _) 0 gX2_multiplyOtherFactors_X1_becomeOne rfl rfl rfl nd_X1_becomeOne ⟨by decide, by decide⟩ 2 rfl rfl [2, 3] [0, 1] [0, 1, 2, 3] rfl rfl rfl rfl (by decide) rfl rfl rfl rfl (Nat.le_of_ble_eq_true rfl) dX2_multiplyOtherFactors_4 ⟨by decide, by decide⟩ ?_
  refine z_bi g (-3) dX2_multiplyOtherFactors_7 (by decide) ?_
  refine z_istore_n (lv' := [(2, .int _), (0, .ref _), (1, .int _)]) g dX2_multiplyOtherFactors_9 (by decide) rfl ?_
  have cut_10 : ∀ (N10 : Nat) (j : Nat), 7 - j < N10 → (j ≤ 7) → Z 0 0 [(h0, .inr (2, [.ref a0, .ref a1, .ref a2, .ref a3, .ref a4, .ref a5, .ref a6, .ref a7, .ref a8, .ref a9, .ref a10])), (a4, .inl (k 1, 7, .inl (fun j => nI (m j)))), (a10, .inr (1, [.ref b10])), (b10, .inl (k 2, 7, .inr (.inl (othF m p0 j))))] [(0, .ref h0), (1, .int p0), (2, .int (nI j - 3))] 10 [] := by
    intro N10
    induction N10 with
    | zero => intro j hms; exact absurd hms (Nat.not_lt_zero _)
    | succ N10 ih10 =>
      intro j hms10 hj
      refine z_iload_n g dX2_multiplyOtherFactors_10 2 rfl ?_
      refine z_ic3 g dX2_multiplyOtherFactors_11 ?_
      refine z_ic_gt g (tgt := 59) dX2_multiplyOtherFactors_12 (by decide) (fun b12 => ?_) (fun b12 => ?_)
      · obtain rfl := rt_gt hj b12
        exact hret _ _ _ dX2_multiplyOtherFactors_59 (rfl)
      · have hj7 := rt_le hj b12
        have cut_29 : ∀ (t : Nat), (t = othT m p0 j) → Z 0 0 [(h0, .inr (2, [.ref a0, .ref a1, .ref a2, .ref a3, .ref a4, .ref a5, .ref a6, .ref a7, .ref a8, .ref a9, .ref a10])), (a4, .inl (k 1, 7, .inl (fun j => nI (m j)))), (a10, .inr (1, [.ref b10])), (b10, .inl (k 2, 7, .inr (.inl (othF m p0 j))))] [(0, .ref h0), (1, .int p0), (2, .int (nI j - 3))] 29 [.int (nI t)] := by
          intro t ht
          have ht5 : t ≤ 5 := by rw [ht]; unfold othT; split; exact Nat.zero_le _; exact hm j (by omega)
          refine z_istore_n (lv' := [(3, .int _), (0, .ref _), (1, .int _), (2, .int _)]) g dX2_multiplyOtherFactors_29 (by decide) rfl ?_
          refine z_ic0 g dX2_multiplyOtherFactors_30 ?_
          refine z_istore (lv' := [(4, .int _), (3, .int _), (0, .ref _), (1, .int _), (2, .int _)]) g dX2_multiplyOtherFactors_31 (by decide) rfl ?_
          have cut_33 : ∀ (N33 : Nat) (i : Nat), t - i < N33 → (i ≤ t) → Z 0 0 [(h0, .inr (2, [.ref a0, .ref a1, .ref a2, .ref a3, .ref a4, .ref a5, .ref a6, .ref a7, .ref a8, .ref a9, .ref a10])), (a4, .inl (k 1, 7, .inl (fun j => nI (m j)))), (a10, .inr (1, [.ref b10])), (b10, .inl (k 2, 7, .inr (.inl (mulN (othF m p0 j) (nI j - 3) i))))] [(0, .ref h0), (1, .int p0), (2, .int (nI j - 3)), (3, .int (nI t)), (4, .int (nI i))] 33 [] := by
            intro N33
            induction N33 with
            | zero => intro i hms; exact absurd hms (Nat.not_lt_zero _)
            | succ N33 ih33 =>
              intro i hms33 hi
              refine z_iload g dX2_multiplyOtherFactors_33 4 rfl ?_
              refine z_iload_n g dX2_multiplyOtherFactors_35 3 rfl ?_
              refine z_n_ge g (a := i) (b := t) (tgt := 53) (by omega) (by omega) dX2_multiplyOtherFactors_36 (by decide) (fun b36 => ?_) (fun b36 => ?_)
              · obtain rfl : i = t := by omega
                subst ht
                refine z_iinc (lv' := [(2, .int _), (0, .ref _), (1, .int _), (3, .int _), (4, .int _)]) g (nI (j + 1) - 3) dX2_multiplyOtherFactors_53 2 rfl (rt_inc j) (by decide) rfl ?_
                refine z_goto g 10 dX2_multiplyOtherFactors_56 (by decide) ?_
                refine z_locs (lv' := [(0, .ref _), (1, .int _), (2, .int _)]) g [1, 2, 0] rfl ?_
                exact ih10 (j + 1) (by omega) (by omega)
              · refine z_aload_n g dX2_multiplyOtherFactors_39 0 rfl ?_
                refine z_get g hX2 0 rfl rfl 10 (by decide) (mi 1 rfl) rfl dX2_multiplyOtherFactors_40 ?_
                refine z_iload_n g dX2_multiplyOtherFactors_43 2 rfl ?_
                refine z_callVv (w' := [_, _, _, _]) (wr := [_, _]) g (k_X1_multiplyByFactorOf l G k _ _ _ _) 1 gX2_multiplyOtherFactors_X1_multiplyByFactorOf rfl rfl rfl nd_X1_multiplyByFactorOf ⟨by decide, by decide⟩ 2 rfl rfl [2, 3] [0, 1] [0, 1, 2, 3] rfl rfl rfl rfl (by decide) rfl rfl rfl rfl (Nat.le_of_ble_eq_true rfl) dX2_multiplyOtherFactors_44 ⟨by decide, by decide⟩ ?_
                refine z_inc (lv' := [(4, .int _), (0, .ref _), (1, .int _), (2, .int _), (3, .int _)]) g dX2_multiplyOtherFactors_47 4 rfl (by decide) rfl ?_
                refine z_goto g 33 dX2_multiplyOtherFactors_50 (by decide) ?_
                refine z_locs (lv' := [(0, .ref _), (1, .int _), (2, .int _), (3, .int _), (4, .int _)]) g [1, 2, 3, 4, 0] rfl ?_
                exact ih33 (i + 1) (by omega) (by omega)
          refine z_locs (lv' := [(0, .ref _), (1, .int _), (2, .int _), (3, .int _), (4, .int _)]) g [2, 3, 4, 1, 0] rfl ?_
          exact cut_33 _ 0 (Nat.lt_succ_self _) (Nat.zero_le _)
        refine z_iload_n g dX2_multiplyOtherFactors_15 2 rfl ?_
        refine z_iload_n g dX2_multiplyOtherFactors_16 1 rfl ?_
        refine z_ic_ne g (tgt := 24) dX2_multiplyOtherFactors_17 (by decide) (fun b17 => ?_) (fun b17 => ?_)
        · refine z_aload_n g dX2_multiplyOtherFactors_24 0 rfl ?_
          refine z_iload_n g dX2_multiplyOtherFactors_25 2 rfl ?_
          refine z_callVi (w' := [_, _, _, _]) (wr := [_, _]) g (k_X2_many l G k _ _ _ _ _ _ _ _ _ _ _ _ _ _) 1 gX2_multiplyOtherFactors_X2_many rfl rfl rfl nd_X2_many ⟨by decide, by decide⟩ 0 rfl rfl [0, 1] [2, 3] [2, 3, 0, 1] rfl rfl rfl rfl (by decide) rfl rfl rfl rfl (Nat.le_of_ble_eq_true rfl) dX2_multiplyOtherFactors_26 ⟨by decide, by decide⟩ ?_
          refine z_ti (y := nI (m j)) (by rw [manyP_rt hj7]) ?_
          exact cut_29 _ (by unfold othT; first | rw [if_pos b17] | rw [if_neg b17])
        · refine z_ic0 g dX2_multiplyOtherFactors_20 ?_
          refine z_goto g 29 dX2_multiplyOtherFactors_21 (by decide) ?_
          exact cut_29 _ (by unfold othT; first | rw [if_pos b17] | rw [if_neg b17])
  refine z_locs (lv' := [(0, .ref _), (1, .int _), (2, .int _)]) g [1, 2, 0] rfl ?_
  exact cut_10 _ 0 (Nat.lt_succ_self _) (by decide)
theorem nd_X2_multiplyOtherFactors : yX2_multiplyOtherFactors.cls = RX2 ∧ yX2_multiplyOtherFactors.cls ≠ "java/lang/invoke/MethodHandle" ∧ yX2_multiplyOtherFactors.cls ≠ "java/lang/invoke/VarHandle" ∧ (parseMethodDescriptor yX2_multiplyOtherFactors.desc).map (fun d => d.parameters.length) = some 1 := by decide +kernel
set_option maxHeartbeats 4000000 in
set_option maxRecDepth 100000 in
/-- makePartsOf(root) -/
theorem k_X2_makePartsOf (l : Launch) (G : va_G) (k : Nat → ClassId) (h0 a0 a1 a2 a3 a4 a5 a6 a7 a8 a9 a10 : Nat) (b1 b9 b10 : Nat) (m : Nat → Nat) (f A B R O : Nat → Int64) (p0 : Int32) (hm : ∀ j, j < 7 → m j ≤ 5) : ∀ sz, Met l yX2_makePartsOf wsX2_makePartsOf ({ frames := 4, cells := 0, slots := 0, locals := 98 }) (va_Pc [.ref h0, .int p0] (KP G k [(h0, .inr (2, [.ref a0, .ref a1, .ref a2, .ref a3, .ref a4, .ref a5, .ref a6, .ref a7, .ref a8, .ref a9, .ref a10])), (a1, .inr (1, [.ref b1])), (b1, .inl (k 2, 7, .inr (.inl f))), (a4, .inl (k 1, 7, .inl (fun j => nI (m j)))), (a5, .inl (k 2, 35, .inr (.inl A))), (a6, .inl (k 2, 35, .inr (.inl B))), (a9, .inr (1, [.ref b9])), (b9, .inl (k 2, 7, .inr (.inl R))), (a10, .inr (1, [.ref b10])), (b10, .inl (k 2, 7, .inr (.inl O)))] sz)) (va_Qv (fun (_ : Unit) => True) (KQ G [(h0, .inr (2, [.ref a0, .ref a1, .ref a2, .ref a3, .ref a4, .ref a5, .ref a6, .ref a7, .ref a8, .ref a9, .ref a10])), (a1, .inr (1, [.ref b1])), (b1, .inl (k 2, 7, .inr (.inl f))), (a4, .inl (k 1, 7, .inl (fun j => nI (m j)))), (a5, .inl (k 2, 35, .inr (.inl ((mkP m f p0 A B).2.1)))), (a6, .inl (k 2, 35, .inr (.inl ((mkP m f p0 A B).2.2)))), (a9, .inr (1, [.ref b9])), (b9, .inl (k 2, 7, .inr (.inl ((mkP m f p0 A B).1)))), (a10, .inr (1, [.ref b10])), (b10, .inl (k 2, 7, .inr (.inl (dvP (othF m p0 7) p0))))] (va_A [(h0, .inr (2, [.ref a0, .ref a1, .ref a2, .ref a3, .ref a4, .ref a5, .ref a6, .ref a7, .ref a8, .ref a9, .ref a10])), (a1, .inr (1, [.ref b1])), (b1, .inl (k 2, 7, .inr (.inl f))), (a4, .inl (k 1, 7, .inl (fun j => nI (m j)))), (a5, .inl (k 2, 35, .inr (.inl A))), (a6, .inl (k 2, 35, .inr (.inl B))), (a9, .inr (1, [.ref b9])), (b9, .inl (k 2, 7, .inr (.inl R))), (a10, .inr (1, [.ref b10])), (b10, .inl (k 2, 7, .inr (.inl O)))] sz)) (va_A [(h0, .inr (2, [.ref a0, .ref a1, .ref a2, .ref a3, .ref a4, .ref a5, .ref a6, .ref a7, .ref a8, .ref a9, .ref a10])), (a1, .inr (1, [.ref b1])), (b1, .inl (k 2, 7, .inr (.inl f))), (a4, .inl (k 1, 7, .inl (fun j => nI (m j)))), (a5, .inl (k 2, 35, .inr (.inl A))), (a6, .inl (k 2, 35, .inr (.inl B))), (a9, .inr (1, [.ref b9])), (b9, .inl (k 2, 7, .inr (.inl R))), (a10, .inr (1, [.ref b10])), (b10, .inl (k 2, 7, .inr (.inl O)))] sz)) 0 0 (va_A [(h0, .inr (2, [.ref a0, .ref a1, .ref a2, .ref a3, .ref a4, .ref a5, .ref a6, .ref a7, .ref a8, .ref a9, .ref a10])), (a1, .inr (1, [.ref b1])), (b1, .inl (k 2, 7, .inr (.inl f))), (a4, .inl (k 1, 7, .inl (fun j => nI (m j)))), (a5, .inl (k 2, 35, .inr (.inl A))), (a6, .inl (k 2, 35, .inr (.inl B))), (a9, .inr (1, [.ref b9])), (b9, .inl (k 2, 7, .inr (.inl R))), (a10, .inr (1, [.ref b10])), (b10, .inl (k 2, 7, .inr (.inl O)))] sz) := by
  refine met_v 0 0 (lv0 := [(0, .ref h0), (1, .int p0)]) (own := RX2) (by decide) rfl rfl (Nat.le_of_ble_eq_true rfl) rfl (fun Z g hret => ?_)
  have hX2 : ∀ w ∈ u_ws RX2 TX2 11, w ∈ wsX2_makePartsOf := fun w h => List.mem_cons_of_mem _ (List.mem_append_left _ (List.mem_append_right _ (h)))
  refine z_aload_n g dX2_makePartsOf_0 0 rfl ?_
  refine z_get g hX2 0 rfl rfl 9 (by decide) (mi 1 rfl) rfl dX2_makePartsOf_1 ?_
  refine z_aload_n g dX2_makePartsOf_4 0 rfl ?_
  refine z_get g hX2 0 rfl rfl 1 (by decide) (mi 2 rfl) rfl dX2_makePartsOf_5 ?_
  refine z_callVv (w' := [_, _, _, _, _, _, _, _, _, _]) (wr := [_, _, _, _, _, _]) g (k_X1_become l G k _ _ _ _ _ _) 1 gX2_makePartsOf_X1_become rfl rfl rfl nd_X1_become ⟨by decide, by decide⟩ 6 rfl rfl [6, 7, 1, 2] [0, 3, 4, 5, 8, 9] [0, 8, 9, 1, 2, 3, 6, 7, 4, 5] rfl rfl rfl rfl (by decide) rfl rfl rfl rfl (Nat.le_of_ble_eq_true rfl) dX2_makePartsOf_8 ⟨by decide, by decide⟩ ?_
  refine z_aload_n g dX2_makePartsOf_11 0 rfl ?_
  refine z_iload_n g dX2_makePartsOf_12 1 rfl ?_
  refine z_callVv (w' := [_, _, _, _, _, _, _, _, _, _]) (wr := [_, _, _, _, _, _]) g (k_X2_multiplyOtherFactors l G k _ _ _ _ _ _ _ _ _ _ _ _ _ _ _ _ (by assumption)) 1 gX2_makePartsOf_X2_multiplyOtherFactors rfl rfl rfl nd_X2_multiplyOtherFactors ⟨by decide, by decide⟩ 0 rfl rfl [0, 3, 8, 9] [1, 2, 4, 5, 6, 7] [6, 0, 1, 7, 2, 3, 4, 5, 8, 9] rfl rfl rfl rfl (by decide) rfl rfl rfl rfl (Nat.le_of_ble_eq_true rfl) dX2_makePartsOf_13 ⟨by decide, by decide⟩ ?_
  refine z_aload_n g dX2_makePartsOf_16 0 rfl ?_
  refine z_get g hX2 0 rfl rfl 10 (by decide) (mi 3 rfl) rfl dX2_makePartsOf_17 ?_
  refine z_iload_n g dX2_makePartsOf_20 1 rfl ?_
  refine z_callVl (w' := [_, _, _, _, _, _, _, _, _, _]) (wr := [_, _, _, _, _, _, _, _]) g (k_X1_divideByFactorOf l G k _ _ _ _) 1 gX2_makePartsOf_X1_divideByFactorOf rfl rfl rfl nd_X1_divideByFactorOf ⟨by decide, by decide⟩ 8 rfl rfl [8, 9] [0, 1, 2, 3, 4, 5, 6, 7] [0, 1, 2, 3, 4, 5, 6, 7, 8, 9] rfl rfl rfl rfl (by decide) rfl rfl rfl rfl (Nat.le_of_ble_eq_true rfl) dX2_makePartsOf_21 ⟨by decide, by decide⟩ ?_
  refine z_lstore_n (lv' := [(2, .long _), (0, .ref _), (1, .int _)]) g dX2_makePartsOf_24 (by decide) rfl ?_
  refine z_lc1 g dX2_makePartsOf_25 ?_
  refine z_lstore (lv' := [(4, .long _), (2, .long _), (0, .ref _), (1, .int _)]) g dX2_makePartsOf_26 (by decide) rfl ?_
  refine z_aload_n g dX2_makePartsOf_28 2 rfl ?_
  refine z_iload_n g dX2_makePartsOf_29 3 rfl ?_
  refine z_callVi (w' := [_, _, _, _, _, _, _, _, _, _]) (wr := [_, _, _, _, _, _, _, _]) g (k_X2_many l G k _ _ _ _ _ _ _ _ _ _ _ _ _ _) 1 gX2_makePartsOf_X2_many rfl rfl rfl nd_X2_many ⟨by decide, by decide⟩ 0 rfl rfl [0, 3] [1, 2, 4, 5, 6, 7, 8, 9] [8, 0, 1, 9, 2, 3, 4, 5, 6, 7] rfl rfl rfl rfl (by decide) rfl rfl rfl rfl (Nat.le_of_ble_eq_true rfl) dX2_makePartsOf_30 ⟨by decide, by decide⟩ ?_
  refine z_istore (lv' := [(6, .int _), (4, .long _), (2, .long _), (0, .ref _), (1, .int _)]) g dX2_makePartsOf_33 (by decide) rfl ?_
  have cut_35 : ∀ (N35 : Nat) (t : Nat) (s : Int64) (A' B' R' : Nat → Int64), t < N35 → (t ≤ 5) → (mkL (hrn (othF m p0 7) p0.toInt64 7) (dvP (othF m p0 7) p0) p0 t R' s A' B' = mkP m f p0 A B) → Z 0 0 [(h0, .inr (2, [.ref a0, .ref a1, .ref a2, .ref a3, .ref a4, .ref a5, .ref a6, .ref a7, .ref a8, .ref a9, .ref a10])), (a1, .inr (1, [.ref b1])), (b1, .inl (k 2, 7, .inr (.inl f))), (a4, .inl (k 1, 7, .inl (fun j => nI (m j)))), (a5, .inl (k 2, 35, .inr (.inl A'))), (a6, .inl (k 2, 35, .inr (.inl B'))), (a9, .inr (1, [.ref b9])), (b9, .inl (k 2, 7, .inr (.inl R'))), (a10, .inr (1, [.ref b10])), (b10, .inl (k 2, 7, .inr (.inl (dvP (othF m p0 7) p0))))] [(0, .ref h0), (1, .int p0), (2, .long (hrn (othF m p0 7) p0.toInt64 7)), (4, .long s), (6, .int (nI t))] 35 [] := by
    intro N35
    induction N35 with
    | zero => intro t s A' B' R' hms; exact absurd hms (Nat.not_lt_zero _)
    | succ N35 ih35 =>
      intro t s A' B' R' hms35 ht hI
      refine z_iload g dX2_makePartsOf_35 4 rfl ?_
      refine z_ic1 g dX2_makePartsOf_37 ?_
      refine z_n_lt g (a := t) (b := 1) (tgt := 89) (by omega) (by omega) dX2_makePartsOf_38 (by decide) (fun b38 => ?_) (fun b38 => ?_)
      · obtain rfl : t = 0 := by omega
        exact hret _ _ _ dX2_makePartsOf_89 ((by rw [← hI]; rfl))
      · obtain ⟨t, rfl⟩ : ∃ i, t = i + 1 := ⟨t - 1, by omega⟩
        refine z_aload_n g dX2_makePartsOf_41 0 rfl ?_
        refine z_get g hX2 0 rfl rfl 9 (by decide) (mi 1 rfl) rfl dX2_makePartsOf_42 ?_
        refine z_iload_n g dX2_makePartsOf_45 1 rfl ?_
        refine z_callVl (w' := [_, _, _, _, _, _, _, _, _, _]) (wr := [_, _, _, _, _, _, _, _]) g (k_X1_divideByFactorOf l G k _ _ _ _) 1 gX2_makePartsOf_X1_divideByFactorOf rfl rfl rfl nd_X1_divideByFactorOf ⟨by decide, by decide⟩ 6 rfl rfl [6, 7] [0, 1, 2, 3, 4, 5, 8, 9] [0, 1, 2, 3, 4, 5, 8, 9, 6, 7] rfl rfl rfl rfl (by decide) rfl rfl rfl rfl (Nat.le_of_ble_eq_true rfl) dX2_makePartsOf_46 ⟨by decide, by decide⟩ ?_
        refine z_lstore (lv' := [(7, .long _), (0, .ref _), (1, .int _), (2, .long _), (4, .long _), (6, .int _)]) g dX2_makePartsOf_49 (by decide) rfl ?_
        refine z_lload g dX2_makePartsOf_51 4 rfl ?_
        refine z_lload_n g dX2_makePartsOf_53 3 rfl ?_
        refine z_lmul g dX2_makePartsOf_54 ?_
        refine z_lstore (lv' := [(4, .long _), (7, .long _), (0, .ref _), (1, .int _), (2, .long _), (6, .int _)]) g dX2_makePartsOf_55 (by decide) rfl ?_
        refine z_aload_n g dX2_makePartsOf_57 2 rfl ?_
        refine z_iload_n g dX2_makePartsOf_58 3 rfl ?_
        refine z_iload g dX2_makePartsOf_59 5 rfl ?_
        refine z_lload g dX2_makePartsOf_61 1 rfl ?_
        refine z_lload g dX2_makePartsOf_63 0 rfl ?_
        refine z_callVv (w' := [_, _, _, _, _, _, _, _, _, _]) (wr := [_, _, _, _, _, _, _]) g (k_X2_keepPart l G k _ _ _ _ _ _ _ _ _ _ _ _ _ _ _ _ _ _) 4 gX2_makePartsOf_X2_keepPart rfl rfl rfl nd_X2_keepPart ⟨by decide, by decide⟩ 0 rfl rfl [0, 4, 5] [1, 2, 3, 6, 7, 8, 9] [7, 0, 1, 2, 8, 9, 3, 4, 5, 6] rfl rfl rfl rfl (by decide) rfl rfl rfl rfl (Nat.le_of_ble_eq_true rfl) dX2_makePartsOf_65 ⟨by decide, by decide⟩ ?_
        refine z_aload_n g dX2_makePartsOf_68 2 rfl ?_
        refine z_get g hX2 0 rfl rfl 9 (by decide) (mi 1 rfl) rfl dX2_makePartsOf_69 ?_
        refine z_lload_n g dX2_makePartsOf_72 4 rfl ?_
        refine z_lload g dX2_makePartsOf_73 1 rfl ?_
        refine z_lneg g dX2_makePartsOf_75 ?_
        refine z_aload_n g dX2_makePartsOf_76 2 rfl ?_
        refine z_get g hX2 0 rfl rfl 10 (by decide) (mi 3 rfl) rfl dX2_makePartsOf_77 ?_
        refine z_callVv (w' := [_, _, _, _, _, _, _, _, _, _]) (wr := [_, _, _, _, _, _]) g (k_X1_mix l G k _ _ _ _ _ _ _ _) 3 gX2_makePartsOf_X1_mix rfl rfl rfl nd_X1_mix ⟨by decide, by decide⟩ 6 rfl rfl [6, 7, 8, 9] [0, 1, 2, 3, 4, 5] [0, 1, 2, 3, 4, 5, 6, 7, 8, 9] rfl rfl rfl rfl (by decide) rfl rfl rfl rfl (Nat.le_of_ble_eq_true rfl) dX2_makePartsOf_80 ⟨by decide, by decide⟩ ?_
        refine z_dec (lv' := [(6, .int _), (4, .long _), (7, .long _), (0, .ref _), (1, .int _), (2, .long _)]) g dX2_makePartsOf_83 5 rfl (by decide) rfl ?_
        refine z_goto g 35 dX2_makePartsOf_86 (by decide) ?_
        refine z_locs (lv' := [(0, .ref _), (1, .int _), (2, .long _), (4, .long _), (6, .int _)]) g [3, 4, 5, 1, 0] rfl ?_
        exact ih35 _ _ _ _ _ (by omega) (by omega) hI
  refine z_locs (lv' := [(0, .ref _), (1, .int _), (2, .long _), (4, .long _), (6, .int _)]) g [3, 4, 2, 1, 0] rfl ?_
  exact cut_35 _ _ _ _ _ _ (Nat.lt_succ_self _) (manyP_le hm p0) rfl
theorem nd_X2_makePartsOf : yX2_makePartsOf.cls = RX2 ∧ yX2_makePartsOf.cls ≠ "java/lang/invoke/MethodHandle" ∧ yX2_makePartsOf.cls ≠ "java/lang/invoke/VarHandle" ∧ (parseMethodDescriptor yX2_makePartsOf.desc).map (fun d => d.parameters.length) = some 1 := by decide +kernel
set_option maxHeartbeats 4000000 in
set_option maxRecDepth 100000 in
/-- takeApart() -/
theorem k_X2_takeApart (l : Launch) (G : va_G) (k : Nat → ClassId) (h0 a0 a1 a2 a3 a4 a5 a6 a7 a8 a9 a10 : Nat) (b1 b2 b3 b9 b10 : Nat) (m : Nat → Nat) (f Be Qu A B R O : Nat → Int64) (hm : ∀ j, j < 7 → m j ≤ 5) : ∀ sz, Met l yX2_takeApart wsX2_takeApart ({ frames := 5, cells := 0, slots := 0, locals := 126 }) (va_Pc [.ref h0] (KP G k [(h0, .inr (2, [.ref a0, .ref a1, .ref a2, .ref a3, .ref a4, .ref a5, .ref a6, .ref a7, .ref a8, .ref a9, .ref a10])), (a1, .inr (1, [.ref b1])), (b1, .inl (k 2, 7, .inr (.inl f))), (a2, .inr (1, [.ref b2])), (b2, .inl (k 2, 7, .inr (.inl Be))), (a3, .inr (1, [.ref b3])), (b3, .inl (k 2, 7, .inr (.inl Qu))), (a4, .inl (k 1, 7, .inl (fun j => nI (m j)))), (a5, .inl (k 2, 35, .inr (.inl A))), (a6, .inl (k 2, 35, .inr (.inl B))), (a9, .inr (1, [.ref b9])), (b9, .inl (k 2, 7, .inr (.inl R))), (a10, .inr (1, [.ref b10])), (b10, .inl (k 2, 7, .inr (.inl O)))] sz)) (va_Qv (fun (_ : Unit) => True) (KQ G [(h0, .inr (2, [.ref a0, .ref a1, .ref a2, .ref a3, .ref a4, .ref a5, .ref a6, .ref a7, .ref a8, .ref a9, .ref a10])), (a1, .inr (1, [.ref b1])), (b1, .inl (k 2, 7, .inr (.inl f))), (a2, .inr (1, [.ref b2])), (b2, .inl (k 2, 7, .inr (.inl (belF m 7)))), (a3, .inr (1, [.ref b3])), (b3, .inl (k 2, 7, .inr (.inl (quoF m f 7)))), (a4, .inl (k 1, 7, .inl (fun j => nI (m j)))), (a5, .inl (k 2, 35, .inr (.inl ((tkS m f R O 7).1)))), (a6, .inl (k 2, 35, .inr (.inl ((tkS m f R O 7).2.1)))), (a9, .inr (1, [.ref b9])), (b9, .inl (k 2, 7, .inr (.inl ((tkS m f R O 7).2.2.1)))), (a10, .inr (1, [.ref b10])), (b10, .inl (k 2, 7, .inr (.inl ((tkS m f R O 7).2.2.2))))] (va_A [(h0, .inr (2, [.ref a0, .ref a1, .ref a2, .ref a3, .ref a4, .ref a5, .ref a6, .ref a7, .ref a8, .ref a9, .ref a10])), (a1, .inr (1, [.ref b1])), (b1, .inl (k 2, 7, .inr (.inl f))), (a2, .inr (1, [.ref b2])), (b2, .inl (k 2, 7, .inr (.inl Be))), (a3, .inr (1, [.ref b3])), (b3, .inl (k 2, 7, .inr (.inl Qu))), (a4, .inl (k 1, 7, .inl (fun j => nI (m j)))), (a5, .inl (k 2, 35, .inr (.inl A))), (a6, .inl (k 2, 35, .inr (.inl B))), (a9, .inr (1, [.ref b9])), (b9, .inl (k 2, 7, .inr (.inl R))), (a10, .inr (1, [.ref b10])), (b10, .inl (k 2, 7, .inr (.inl O)))] sz)) (va_A [(h0, .inr (2, [.ref a0, .ref a1, .ref a2, .ref a3, .ref a4, .ref a5, .ref a6, .ref a7, .ref a8, .ref a9, .ref a10])), (a1, .inr (1, [.ref b1])), (b1, .inl (k 2, 7, .inr (.inl f))), (a2, .inr (1, [.ref b2])), (b2, .inl (k 2, 7, .inr (.inl Be))), (a3, .inr (1, [.ref b3])), (b3, .inl (k 2, 7, .inr (.inl Qu))), (a4, .inl (k 1, 7, .inl (fun j => nI (m j)))), (a5, .inl (k 2, 35, .inr (.inl A))), (a6, .inl (k 2, 35, .inr (.inl B))), (a9, .inr (1, [.ref b9])), (b9, .inl (k 2, 7, .inr (.inl R))), (a10, .inr (1, [.ref b10])), (b10, .inl (k 2, 7, .inr (.inl O)))] sz)) 0 0 (va_A [(h0, .inr (2, [.ref a0, .ref a1, .ref a2, .ref a3, .ref a4, .ref a5, .ref a6, .ref a7, .ref a8, .ref a9, .ref a10])), (a1, .inr (1, [.ref b1])), (b1, .inl (k 2, 7, .inr (.inl f))), (a2, .inr (1, [.ref b2])), (b2, .inl (k 2, 7, .inr (.inl Be))), (a3, .inr (1, [.ref b3])), (b3, .inl (k 2, 7, .inr (.inl Qu))), (a4, .inl (k 1, 7, .inl (fun j => nI (m j)))), (a5, .inl (k 2, 35, .inr (.inl A))), (a6, .inl (k 2, 35, .inr (.inl B))), (a9, .inr (1, [.ref b9])), (b9, .inl (k 2, 7, .inr (.inl R))), (a10, .inr (1, [.ref b10])), (b10, .inl (k 2, 7, .inr (.inl O)))] sz) := by
  refine met_v 0 0 (lv0 := [(0, .ref h0)]) (own := RX2) (by decide) rfl rfl (Nat.le_of_ble_eq_true rfl) rfl (fun Z g hret => ?_)
  have hX2 : ∀ w ∈ u_ws RX2 TX2 11, w ∈ wsX2_takeApart := fun w h => List.mem_cons_of_mem _ (List.mem_append_left _ (List.mem_append_right _ (h)))
  refine z_aload_n g dX2_takeApart_0 0 rfl ?_
  refine z_get g hX2 0 rfl rfl 2 (by decide) (mi 1 rfl) rfl dX2_takeApart_1 ?_
  refine z_callVv (w' := [_, _, _, _, _, _, _, _, _, _, _, _, _, _]) (wr := [_, _, _, _, _, _, _, _, _, _, _, _]) g (k_X1_becomeOne l G k _ _ _) 0 gX2_takeApart_X1_becomeOne rfl rfl rfl nd_X1_becomeOne ⟨by decide, by decide⟩ 3 rfl rfl [3, 4] [0, 1, 2, 5, 6, 7, 8, 9, 10, 11, 12, 13] [0, 1, 2, 12, 13, 3, 4, 5, 6, 7, 8, 9, 10, 11] rfl rfl rfl rfl (by decide) rfl rfl rfl rfl (Nat.le_of_ble_eq_true rfl) dX2_takeApart_4 ⟨by decide, by decide⟩ ?_
  refine z_aload_n g dX2_takeApart_7 0 rfl ?_
  refine z_get g hX2 0 rfl rfl 3 (by decide) (mi 2 rfl) rfl dX2_takeApart_8 ?_
  refine z_aload_n g dX2_takeApart_11 0 rfl ?_
  refine z_get g hX2 0 rfl rfl 1 (by decide) (mi 3 rfl) rfl dX2_takeApart_12 ?_
  refine z_callVv (w' := [_, _, _, _, _, _, _, _, _, _, _, _, _, _]) (wr := [_, _, _, _, _, _, _, _, _, _]) g (k_X1_become l G k _ _ _ _ _ _) 1 gX2_takeApart_X1_become rfl rfl rfl nd_X1_become ⟨by decide, by decide⟩ 5 rfl rfl [5, 6, 1, 2] [0, 3, 4, 7, 8, 9, 10, 11, 12, 13] [0, 12, 13, 1, 2, 10, 11, 3, 4, 5, 6, 7, 8, 9] rfl rfl rfl rfl (by decide) rfl rfl rfl rfl (Nat.le_of_ble_eq_true rfl) dX2_takeApart_15 ⟨by decide, by decide⟩ ?_
  refine z_aload_n g dX2_takeApart_18 0 rfl ?_
  refine z_get g hX2 0 rfl rfl 5 (by decide) (mi 4 rfl) rfl dX2_takeApart_19 ?_
  refine z_lc0 g dX2_takeApart_22 ?_
  refine z_callSv (w' := [_, _, _, _, _, _, _, _, _, _, _, _, _, _]) (wr := [_, _, _, _, _, _, _, _, _, _, _, _, _]) g (k_J7_fill_d0a16 l G k _ _ _ _ (by decide)) 2 gX2_takeApart_J7_fill_d0a16 rfl rfl rfl nd_J7_fill_d0a16 ⟨by decide, by decide⟩ [8] [0, 1, 2, 3, 4, 5, 6, 7, 9, 10, 11, 12, 13] [0, 1, 2, 3, 4, 5, 6, 7, 13, 8, 9, 10, 11, 12] rfl rfl rfl rfl (by decide) rfl rfl rfl rfl (Nat.le_of_ble_eq_true rfl) dX2_takeApart_23 ⟨by decide, by decide⟩ ?_
  refine z_aload_n g dX2_takeApart_26 0 rfl ?_
  refine z_get g hX2 0 rfl rfl 6 (by decide) (mi 5 rfl) rfl dX2_takeApart_27 ?_
  refine z_lc1 g dX2_takeApart_30 ?_
  refine z_callSv (w' := [_, _, _, _, _, _, _, _, _, _, _, _, _, _]) (wr := [_, _, _, _, _, _, _, _, _, _, _, _, _]) g (k_J7_fill_d0a16 l G k _ _ _ _ (by decide)) 2 gX2_takeApart_J7_fill_d0a16 rfl rfl rfl nd_J7_fill_d0a16 ⟨by decide, by decide⟩ [9] [0, 1, 2, 3, 4, 5, 6, 7, 8, 10, 11, 12, 13] [0, 1, 2, 3, 4, 5, 6, 7, 8, 13, 9, 10, 11, 12] rfl rfl rfl rfl (by decide) rfl rfl rfl rfl (Nat.le_of_ble_eq_true rfl) dX2_takeApart_31 ⟨by decide, by decide⟩ ?_
  refine z_bi g (-3) dX2_takeApart_34 (by decide) ?_
  refine z_istore_n (lv' := [(1, .int _), (0, .ref _)]) g dX2_takeApart_36 (by decide) rfl ?_
  have cut_37 : ∀ (N37 : Nat) (j : Nat), 7 - j < N37 → (j ≤ 7) → Z 0 0 [(h0, .inr (2, [.ref a0, .ref a1, .ref a2, .ref a3, .ref a4, .ref a5, .ref a6, .ref a7, .ref a8, .ref a9, .ref a10])), (a1, .inr (1, [.ref b1])), (b1, .inl (k 2, 7, .inr (.inl f))), (a2, .inr (1, [.ref b2])), (b2, .inl (k 2, 7, .inr (.inl (belF m j)))), (a3, .inr (1, [.ref b3])), (b3, .inl (k 2, 7, .inr (.inl (quoF m f j)))), (a4, .inl (k 1, 7, .inl (fun j => nI (m j)))), (a5, .inl (k 2, 35, .inr (.inl ((tkS m f R O j).1)))), (a6, .inl (k 2, 35, .inr (.inl ((tkS m f R O j).2.1)))), (a9, .inr (1, [.ref b9])), (b9, .inl (k 2, 7, .inr (.inl ((tkS m f R O j).2.2.1)))), (a10, .inr (1, [.ref b10])), (b10, .inl (k 2, 7, .inr (.inl ((tkS m f R O j).2.2.2))))] [(0, .ref h0), (1, .int (nI j - 3))] 37 [] := by
    intro N37
    induction N37 with
    | zero => intro j hms; exact absurd hms (Nat.not_lt_zero _)
    | succ N37 ih37 =>
      intro j hms37 hj
      refine z_iload_n g dX2_takeApart_37 1 rfl ?_
      refine z_ic3 g dX2_takeApart_38 ?_
      refine z_ic_gt g (tgt := 89) dX2_takeApart_39 (by decide) (fun b39 => ?_) (fun b39 => ?_)
      · obtain rfl := rt_gt hj b39
        exact hret _ _ _ dX2_takeApart_89 (rfl)
      · have hj7 := rt_le hj b39
        have hm5 := hm j hj7
        refine z_aload_n g dX2_takeApart_42 0 rfl ?_
        refine z_iload_n g dX2_takeApart_43 1 rfl ?_
        refine z_callVi (w' := [_, _, _, _, _, _, _, _, _, _, _, _, _, _]) (wr := [_, _, _, _, _, _, _, _, _, _, _, _]) g (k_X2_many l G k _ _ _ _ _ _ _ _ _ _ _ _ _ _) 1 gX2_takeApart_X2_many rfl rfl rfl nd_X2_many ⟨by decide, by decide⟩ 0 rfl rfl [0, 7] [1, 2, 3, 4, 5, 6, 8, 9, 10, 11, 12, 13] [12, 0, 1, 2, 3, 4, 5, 13, 6, 7, 8, 9, 10, 11] rfl rfl rfl rfl (by decide) rfl rfl rfl rfl (Nat.le_of_ble_eq_true rfl) dX2_takeApart_44 ⟨by decide, by decide⟩ ?_
        refine z_ti (y := nI (m j)) (by rw [manyP_rt hj7]) ?_
        refine z_istore_n (lv' := [(2, .int _), (0, .ref _), (1, .int _)]) g dX2_takeApart_47 (by decide) rfl ?_
        refine z_ic0 g dX2_takeApart_48 ?_
        refine z_istore_n (lv' := [(3, .int _), (2, .int _), (0, .ref _), (1, .int _)]) g dX2_takeApart_49 (by decide) rfl ?_
        have cut_50 : ∀ (N50 : Nat) (i : Nat), m j - i < N50 → (i ≤ m j) → Z 0 0 [(h0, .inr (2, [.ref a0, .ref a1, .ref a2, .ref a3, .ref a4, .ref a5, .ref a6, .ref a7, .ref a8, .ref a9, .ref a10])), (a1, .inr (1, [.ref b1])), (b1, .inl (k 2, 7, .inr (.inl f))), (a2, .inr (1, [.ref b2])), (b2, .inl (k 2, 7, .inr (.inl (mulN (belF m j) (nI j - 3) i)))), (a3, .inr (1, [.ref b3])), (b3, .inl (k 2, 7, .inr (.inl (dvN (quoF m f j) (nI j - 3) i)))), (a4, .inl (k 1, 7, .inl (fun j => nI (m j)))), (a5, .inl (k 2, 35, .inr (.inl ((tkS m f R O j).1)))), (a6, .inl (k 2, 35, .inr (.inl ((tkS m f R O j).2.1)))), (a9, .inr (1, [.ref b9])), (b9, .inl (k 2, 7, .inr (.inl ((tkS m f R O j).2.2.1)))), (a10, .inr (1, [.ref b10])), (b10, .inl (k 2, 7, .inr (.inl ((tkS m f R O j).2.2.2))))] [(0, .ref h0), (1, .int (nI j - 3)), (2, .int (nI (m j))), (3, .int (nI i))] 50 [] := by
          intro N50
          induction N50 with
          | zero => intro i hms; exact absurd hms (Nat.not_lt_zero _)
          | succ N50 ih50 =>
            intro i hms50 hi
            refine z_iload_n g dX2_takeApart_50 3 rfl ?_
            refine z_iload_n g dX2_takeApart_51 2 rfl ?_
            refine z_n_ge g (a := i) (b := (m j)) (tgt := 78) (by omega) (by omega) dX2_takeApart_52 (by decide) (fun b52 => ?_) (fun b52 => ?_)
            · obtain rfl : i = m j := by omega
              refine z_aload_n g dX2_takeApart_78 0 rfl ?_
              refine z_iload_n g dX2_takeApart_79 1 rfl ?_
              refine z_callVv (w' := [_, _, _, _, _, _, _, _, _, _, _, _, _, _]) (wr := [_, _, _, _]) g (k_X2_makePartsOf l G k _ _ _ _ _ _ _ _ _ _ _ _ _ _ _ _ _ _ _ _ _ _ (by assumption)) 1 gX2_takeApart_X2_makePartsOf rfl rfl rfl nd_X2_makePartsOf ⟨by decide, by decide⟩ 0 rfl rfl [0, 1, 2, 7, 8, 9, 10, 11, 12, 13] [3, 4, 5, 6] [4, 5, 6, 0, 1, 2, 3, 7, 8, 9, 10, 11, 12, 13] rfl rfl rfl rfl (by decide) rfl rfl rfl rfl (Nat.le_of_ble_eq_true rfl) dX2_takeApart_80 ⟨by decide, by decide⟩ ?_
              refine z_iinc (lv' := [(1, .int _), (0, .ref _), (2, .int _), (3, .int _)]) g (nI (j + 1) - 3) dX2_takeApart_83 1 rfl (rt_inc j) (by decide) rfl ?_
              refine z_goto g 37 dX2_takeApart_86 (by decide) ?_
              refine z_locs (lv' := [(0, .ref _), (1, .int _)]) g [1, 0] rfl ?_
              exact ih37 (j + 1) (by omega) (by omega)
            · refine z_aload_n g dX2_takeApart_55 0 rfl ?_
              refine z_get g hX2 0 rfl rfl 2 (by decide) (mi 1 rfl) rfl dX2_takeApart_56 ?_
              refine z_iload_n g dX2_takeApart_59 1 rfl ?_
              refine z_callVv (w' := [_, _, _, _, _, _, _, _, _, _, _, _, _, _]) (wr := [_, _, _, _, _, _, _, _, _, _, _, _]) g (k_X1_multiplyByFactorOf l G k _ _ _ _) 1 gX2_takeApart_X1_multiplyByFactorOf rfl rfl rfl nd_X1_multiplyByFactorOf ⟨by decide, by decide⟩ 3 rfl rfl [3, 4] [0, 1, 2, 5, 6, 7, 8, 9, 10, 11, 12, 13] [0, 1, 2, 12, 13, 3, 4, 5, 6, 7, 8, 9, 10, 11] rfl rfl rfl rfl (by decide) rfl rfl rfl rfl (Nat.le_of_ble_eq_true rfl) dX2_takeApart_60 ⟨by decide, by decide⟩ ?_
              refine z_aload_n g dX2_takeApart_63 0 rfl ?_
              refine z_get g hX2 0 rfl rfl 3 (by decide) (mi 2 rfl) rfl dX2_takeApart_64 ?_
              refine z_iload_n g dX2_takeApart_67 1 rfl ?_
              refine z_callVl (w' := [_, _, _, _, _, _, _, _, _, _, _, _, _, _]) (wr := [_, _, _, _, _, _, _, _, _, _, _, _]) g (k_X1_divideByFactorOf l G k _ _ _ _) 1 gX2_takeApart_X1_divideByFactorOf rfl rfl rfl nd_X1_divideByFactorOf ⟨by decide, by decide⟩ 5 rfl rfl [5, 6] [0, 1, 2, 3, 4, 7, 8, 9, 10, 11, 12, 13] [0, 1, 2, 3, 4, 12, 13, 5, 6, 7, 8, 9, 10, 11] rfl rfl rfl rfl (by decide) rfl rfl rfl rfl (Nat.le_of_ble_eq_true rfl) dX2_takeApart_68 ⟨by decide, by decide⟩ ?_
              refine z_pop2 g dX2_takeApart_71 rfl ?_
              refine z_inc (lv' := [(3, .int _), (0, .ref _), (1, .int _), (2, .int _)]) g dX2_takeApart_72 3 rfl (by decide) rfl ?_
              refine z_goto g 50 dX2_takeApart_75 (by decide) ?_
              refine z_locs (lv' := [(0, .ref _), (1, .int _), (2, .int _), (3, .int _)]) g [1, 2, 3, 0] rfl ?_
              exact ih50 (i + 1) (by omega) (by omega)
        refine z_locs (lv' := [(0, .ref _), (1, .int _), (2, .int _), (3, .int _)]) g [2, 3, 1, 0] rfl ?_
        exact cut_50 _ 0 (Nat.lt_succ_self _) (Nat.zero_le _)
  refine z_locs (lv' := [(0, .ref _), (1, .int _)]) g [1, 0] rfl ?_
  exact cut_37 _ 0 (Nat.lt_succ_self _) (by decide)
theorem nd_X2_takeApart : yX2_takeApart.cls = RX2 ∧ yX2_takeApart.cls ≠ "java/lang/invoke/MethodHandle" ∧ yX2_takeApart.cls ≠ "java/lang/invoke/VarHandle" ∧ (parseMethodDescriptor yX2_takeApart.desc).map (fun d => d.parameters.length) = some 0 := by decide +kernel
