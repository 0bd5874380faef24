theorem ip_ok {m : Nat → Nat} {r k : Int32} (hm : ∀ j, j < 7 → m j ≤ 5) (h : ipP m r k = true) : poss r = true ∧ nI (m (rix r)) - k = nI (manyP m r - k.toNatClampNeg) ∧ manyP m r - k.toNatClampNeg ≤ 4 ∧ manyP m r - k.toNatClampNeg + 1 ≤ manyP m r := by
  unfold ipP at h
  by_cases h1 : nI (manyP m r) ≤ 0
  · rw [if_pos h1] at h; cases h
  · by_cases h2 : k < 1
    · rw [if_neg h1, if_pos h2] at h; cases h
    · by_cases h3 : nI (manyP m r) < k
      · rw [if_neg h1, if_neg h2, if_pos h3] at h; cases h
      · have hp := poss_many h1
        have h5 := manyP_le hm r
        obtain ⟨e1, e2, e3⟩ := k_of h5 h2 h3
        refine ⟨hp, ?_, by omega, by omega⟩
        rw [← many_poss (m := m) hp]
        have e4 : nI (manyP m r) - k = nI (manyP m r) - nI k.toNatClampNeg := congrArg (fun z => nI (manyP m r) - z) e3
        rw [e4, pk_sub e2]
def mpN (m : Nat → Nat) (r k : Int32) : Nat := manyP m r - k.toNatClampNeg
def mpV (F : Nat → Int64) (m : Nat → Nat) (r k w : Int32) : Int64 := if mpOK m r k w then (if w = 0 then tlO (wkA F m r (mpN m r k)) (wkB m r (mpN m r k)) else tlU (wkA F m r (mpN m r k)) (wkB m r (mpN m r k))) else 0
def mpZ (F : Nat → Int64) (m : Nat → Nat) (r k w : Int32) (S : SC) : SC := if mpOK m r k w then wkS F m r (mpN m r k) S else S
/-! integral -/
def pwP (r k : Int32) : Bool := if r = 9 then (if k ≤ 0 then false else true) else false
def gdM (m : Nat → Nat) (r k w : Int32) : Bool := if pwP r k then sd2 w else if k < 0 then false else if nI (manyP m r) ≤ k then false else sd2 w
def igN (m : Nat → Nat) (r k : Int32) : Nat := manyP m r - (k.toNatClampNeg + 1)
def igq (Q : Nat → Int64) (k : Int32) : Int64 := if 8 ≤ k then 0 else Q (k - 1).toNatClampNeg
def igW (F : Nat → Int64) (m : Nat → Nat) (r k : Int32) (S : SC) : SC :=
  if k ≤ 0 then wkS F m r (igN m r k) S else ((wkS F m r (igN m r k) S).1, (wkS F m r (igN m r k) S).2.1, (wkS F m r (igN m r k) S).2.2.1, tlO (-tlO (wkA F m r (igN m r k)) (wkB m r (igN m r k))) (tlU (wkA F m r (igN m r k)) (wkB m r (igN m r k)) * k.toInt64), tlU (-tlO (wkA F m r (igN m r k)) (wkB m r (igN m r k))) (tlU (wkA F m r (igN m r k)) (wkB m r (igN m r k)) * k.toInt64))
def igZ (F : Nat → Int64) (D : (Nat → Int64) × (Nat → Int64)) (m : Nat → Nat) (r k w : Int32) (Q : Nat → Int64) (S : SC) : (Nat → Int64) × SC :=
  if gdM m r k w then (if pwP r k then (D.2, (D.1, S.2.1, S.2.2.1, tlO (igq D.2 k) k.toInt64, tlU (igq D.2 k) k.toInt64)) else (D.2, igW F m r k (D.1, S.2))) else (Q, S)
def igM (F : Nat → Int64) (D : (Nat → Int64) × (Nat → Int64)) (m : Nat → Nat) (r k w : Int32) (Q : Nat → Int64) (S : SC) : Int64 := if gdM m r k w then (if w = 0 then (igZ F D m r k w Q S).2.2.2.2.1 else (igZ F D m r k w Q S).2.2.2.2.2) else 0
def igH (F : Nat → Int64) (D : (Nat → Int64) × (Nat → Int64)) (m : Nat → Nat) (r k : Int32) : Prop := (pwP r k = true → ¬ cgP (igq D.2 k) k.toInt64 = 0) ∧ (pwP r k = false → ¬ k ≤ 0 → ¬ nI (manyP m r) ≤ k → ¬ cgP (-tlO (wkA F m r (igN m r k)) (wkB m r (igN m r k))) (tlU (wkA F m r (igN m r k)) (wkB m r (igN m r k)) * k.toInt64) = 0)
theorem ig_ok {m : Nat → Nat} {r k : Int32} (hm : ∀ j, j < 7 → m j ≤ 5) (h1 : ¬ k < 0) (h2 : ¬ nI (manyP m r) ≤ k) : poss r = true ∧ nI (m (rix r)) - (k + 1) = nI (igN m r k) ∧ igN m r k ≤ 4 ∧ igN m r k + 1 ≤ manyP m r := by
  have h5 := manyP_le hm r
  have hk : k ≤ 5 := Int32.le_trans (Int32.le_of_lt (Int32.not_le.mp h2)) (nI_le (b := 5) h5 (by decide))
  obtain ⟨j, hj, rfl⟩ := nI_of2 (M := 5) (n := 5) (by decide) h1 hk
  have hlt : j < manyP m r := by
    rcases Nat.lt_or_ge j (manyP m r) with h | h
    · exact h
    · exact absurd (nI_le h (by omega)) h2
  have hp : poss r = true := by
    by_cases h3 : poss r = true
    · exact h3
    · unfold manyP at hlt; rw [if_neg h3] at hlt; exact absurd hlt (Nat.not_lt_zero _)
  unfold igN
  rw [nI_clamp (by omega)]
  refine ⟨hp, ?_, by omega, by omega⟩
  rw [← many_poss (m := m) hp, nI_1, pk_sub (by omega)]
theorem igZ_p {F : Nat → Int64} {D : (Nat → Int64) × (Nat → Int64)} {m : Nat → Nat} {r k w : Int32} {Q : Nat → Int64} {S : SC} (h1 : gdM m r k w = true) (h2 : pwP r k = true) : igZ F D m r k w Q S = (D.2, (D.1, S.2.1, S.2.2.1, tlO (igq D.2 k) k.toInt64, tlU (igq D.2 k) k.toInt64)) := by
  unfold igZ; rw [if_pos h1, if_pos h2]
theorem igZ_n {F : Nat → Int64} {D : (Nat → Int64) × (Nat → Int64)} {m : Nat → Nat} {r k w : Int32} {Q : Nat → Int64} {S : SC} (h1 : gdM m r k w = true) (h2 : pwP r k = false) : igZ F D m r k w Q S = (D.2, igW F m r k (D.1, S.2)) := by
  unfold igZ; rw [if_pos h1, h2]; rfl
theorem igZ_f {F : Nat → Int64} {D : (Nat → Int64) × (Nat → Int64)} {m : Nat → Nat} {r k w : Int32} {Q : Nat → Int64} {S : SC} (h1 : gdM m r k w = false) : igZ F D m r k w Q S = (Q, S) := by
  unfold igZ; rw [h1]; rfl
theorem igM_t {F : Nat → Int64} {D : (Nat → Int64) × (Nat → Int64)} {m : Nat → Nat} {r k w : Int32} {Q : Nat → Int64} {S : SC} (h1 : gdM m r k w = true) : igM F D m r k w Q S = if w = 0 then (igZ F D m r k w Q S).2.2.2.2.1 else (igZ F D m r k w Q S).2.2.2.2.2 := by
  unfold igM; rw [if_pos h1]
theorem igM_f {F : Nat → Int64} {D : (Nat → Int64) × (Nat → Int64)} {m : Nat → Nat} {r k w : Int32} {Q : Nat → Int64} {S : SC} (h1 : gdM m r k w = false) : igM F D m r k w Q S = 0 := by
  unfold igM; rw [h1]; rfl
theorem ixq {k : Int32} (h1 : ¬ k ≤ 0) (h2 : ¬ 8 ≤ k) : k - 1 = nI (k - 1).toNatClampNeg ∧ (k - 1).toNatClampNeg < 7 := by
  obtain ⟨j, hj, rfl⟩ := nI_of2 (M := 8) (n := 8) (by decide) (fun h => h1 (Int32.le_of_lt h)) (Int32.le_of_lt (Int32.not_le.mp h2))
  rcases j with _ | j
  · exact absurd (by decide) h1
  · rw [nI_pred, nI_clamp (by omega)]
    refine ⟨rfl, ?_⟩
    rcases Nat.lt_or_ge j 7 with h | h
    · exact h
    · exact absurd (nI_le (a := 8) (b := j + 1) (by omega) (by omega)) h2
/-! values -/
def vmOK (m : Nat → Nat) (t w : Int32) : Bool := if t < -20 then false else if 20 < t then false else if nI (manyP m t) = 0 then sd2 w else false
def vmO (F Lo : Nat → Int64) (t : Int32) : Int64 := tlO (hxP F t.toInt64 6 7) (hxP Lo t.toInt64 5 6)
def vmU (F Lo : Nat → Int64) (t : Int32) : Int64 := tlU (hxP F t.toInt64 6 7) (hxP Lo t.toInt64 5 6)
def amV (F Lo : Nat → Int64) (x : UInt64) : UInt64 := if nearP x then (if dz (hdP Lo x 5 6) then FP.dconst0 else FP.ddiv (hdP F x 6 7) (hdP Lo x 5 6)) else FP.dconst0
def amH (F Lo : Nat → Int64) (x : UInt64) : Prop := nearP x = true → hdOK Lo x 5 ∧ (dz (hdP Lo x 5 6) = false → hdOK F x 6 ∧ vf_n64 (FP.ddiv (hdP F x 6 7) (hdP Lo x 5 6)))
def bmn (F : Nat → Int64) (m : Nat → Nat) (r : Int32) (i : Nat) : Int64 := tlO (wkA F m r (manyP m r - i)) (wkB m r (manyP m r - i))
def bmd (F : Nat → Int64) (m : Nat → Nat) (r : Int32) (i : Nat) : Int64 := tlU (wkA F m r (manyP m r - i)) (wkB m r (manyP m r - i))
def bmS (F : Nat → Int64) (m : Nat → Nat) (Q : Nat → Int64) (x : UInt64) : Nat → UInt64
  | 0 => hdP Q x 6 7
  | j + 1 => wpL (bmn F m (nI j - 3)) (bmd F m (nI j - 3)) (FP.dsub x (FP.i2d (nI j - 3))) (manyP m (nI j - 3)) 1 (bmS F m Q x j) (FP.dsub x (FP.i2d (nI j - 3)))
def bmH (F : Nat → Int64) (m : Nat → Nat) (Q : Nat → Int64) (x : UInt64) : Prop := nearP x = true → hdOK Q x 6 ∧ ∀ j, j < 7 → vf_n64 (FP.dsub x (FP.i2d (nI j - 3))) ∧ wpOK (bmn F m (nI j - 3)) (bmd F m (nI j - 3)) (FP.dsub x (FP.i2d (nI j - 3))) (manyP m (nI j - 3)) 1 (bmS F m Q x j) (FP.dsub x (FP.i2d (nI j - 3)))
def biS (F : Nat → Int64) (m : Nat → Nat) (r : Int32) : Nat → Nat → SC → SC
  | 0, _, S => S
  | t + 1, i, S => biS F m r t (i + 1) (wkS F m r (manyP m r - i) S)
def boS (F : Nat → Int64) (m : Nat → Nat) (S : SC) : Nat → SC
  | 0 => S
  | j + 1 => biS F m (nI j - 3) (manyP m (nI j - 3)) 1 (boS F m S j)
def bmZ (F : Nat → Int64) (D : (Nat → Int64) × (Nat → Int64)) (m : Nat → Nat) (x : UInt64) (S : SC) : SC := if nearP x then boS F m (D.1, S.2) 7 else S
theorem bm_nn {m : Nat → Nat} {j i : Nat} (hj : j < 7) (hi : i ≤ manyP m (nI j - 3)) : nI (m (rix (nI j - 3))) - nI i = nI (manyP m (nI j - 3) - i) := by
  rw [manyP_rt hj] at hi ⊢
  rw [(rt_ok j hj).2, pk_sub hi]
theorem ni1 {i : Nat} (hi : i < 2 ^ 31) (h : nI i = 1) : i = 1 := (nI_eq (b := 1) hi (by decide)).mp h
set_option maxHeartbeats 4000000 in
set_option maxRecDepth 100000 in
/-- part(root, k, w) -/
theorem k_X3_part (l : Launch) (G : va_G) (k : Nat → ClassId) (h0 e1 e3 e4 e5 e7 e8 e11 e12 e13 e14 : Nat) (ft : Int32) (n dg i : Nat) (ov un : Int64) (m : Nat → Nat) (F Ne Re Ro : Nat → Int64) (p0 p1 p2 : Int32) (hm : ∀ j, j < 7 → m j ≤ 5) (hwg : wkG F m) : ∀ sz, Met l yX3_part wsX3_part ({ frames := 3, cells := 0, slots := 0, locals := 75 }) (va_Pc [.ref h0, .int p0, .int p1, .int p2] (KP G k [(h0, .inr (3, [.int ft, .ref e1, .int (nI n), .ref e3, .ref e4, .ref e5, .int (nI dg), .ref e7, .ref e8, .long ov, .long un, .ref e11, .ref e12, .ref e13, .ref e14, .int (nI i)])), (e3, .inl (k 2, 7, .inr (.inl F))), (e7, .inl (k 1, 7, .inl (fun j => nI (m j)))), (e11, .inl (k 2, 7, .inr (.inl Ne))), (e12, .inl (k 2, 6, .inr (.inl Re))), (e13, .inl (k 2, 6, .inr (.inl Ro)))] sz)) (va_Ql (fun r (_ : Unit) => r = mpV F m p0 p1 p2) (KQ G [(h0, .inr (3, [.int (ftB (mpOK m p0 p1 p2)), .ref e1, .int (nI n), .ref e3, .ref e4, .ref e5, .int (nI dg), .ref e7, .ref e8, .long ((mpZ F m p0 p1 p2 (Ne, Re, Ro, ov, un)).2.2.2.1), .long ((mpZ F m p0 p1 p2 (Ne, Re, Ro, ov, un)).2.2.2.2), .ref e11, .ref e12, .ref e13, .ref e14, .int (nI i)])), (e3, .inl (k 2, 7, .inr (.inl F))), (e7, .inl (k 1, 7, .inl (fun j => nI (m j)))), (e11, .inl (k 2, 7, .inr (.inl ((mpZ F m p0 p1 p2 (Ne, Re, Ro, ov, un)).1)))), (e12, .inl (k 2, 6, .inr (.inl ((mpZ F m p0 p1 p2 (Ne, Re, Ro, ov, un)).2.1)))), (e13, .inl (k 2, 6, .inr (.inl ((mpZ F m p0 p1 p2 (Ne, Re, Ro, ov, un)).2.2.1))))] (va_A [(h0, .inr (3, [.int ft, .ref e1, .int (nI n), .ref e3, .ref e4, .ref e5, .int (nI dg), .ref e7, .ref e8, .long ov, .long un, .ref e11, .ref e12, .ref e13, .ref e14, .int (nI i)])), (e3, .inl (k 2, 7, .inr (.inl F))), (e7, .inl (k 1, 7, .inl (fun j => nI (m j)))), (e11, .inl (k 2, 7, .inr (.inl Ne))), (e12, .inl (k 2, 6, .inr (.inl Re))), (e13, .inl (k 2, 6, .inr (.inl Ro)))] sz)) (va_A [(h0, .inr (3, [.int ft, .ref e1, .int (nI n), .ref e3, .ref e4, .ref e5, .int (nI dg), .ref e7, .ref e8, .long ov, .long un, .ref e11, .ref e12, .ref e13, .ref e14, .int (nI i)])), (e3, .inl (k 2, 7, .inr (.inl F))), (e7, .inl (k 1, 7, .inl (fun j => nI (m j)))), (e11, .inl (k 2, 7, .inr (.inl Ne))), (e12, .inl (k 2, 6, .inr (.inl Re))), (e13, .inl (k 2, 6, .inr (.inl Ro)))] sz)) 0 0 (va_A [(h0, .inr (3, [.int ft, .ref e1, .int (nI n), .ref e3, .ref e4, .ref e5, .int (nI dg), .ref e7, .ref e8, .long ov, .long un, .ref e11, .ref e12, .ref e13, .ref e14, .int (nI i)])), (e3, .inl (k 2, 7, .inr (.inl F))), (e7, .inl (k 1, 7, .inl (fun j => nI (m j)))), (e11, .inl (k 2, 7, .inr (.inl Ne))), (e12, .inl (k 2, 6, .inr (.inl Re))), (e13, .inl (k 2, 6, .inr (.inl Ro)))] sz) := by
  refine met_l 0 0 (lv0 := [(0, .ref h0), (1, .int p0), (2, .int p1), (3, .int p2)]) (own := RX3) (by decide) rfl rfl (Nat.le_of_ble_eq_true rfl) rfl (fun Z g hret => ?_)
  have hX3 : ∀ w ∈ u_ws RX3 TX3 16, w ∈ wsX3_part := fun w h => List.mem_cons_of_mem _ (List.mem_append_right _ (h))
  refine z_aload_n g dX3_part_0 0 rfl ?_
  refine z_iload_n g dX3_part_1 1 rfl ?_
  refine z_iload_n g dX3_part_2 2 rfl ?_
  refine z_callVi (w' := [_, _, _, _, _, _]) (wr := [_, _, _, _]) g (k_X3_isPart l G k _ _ _ _ _ _ _ _ _ _ _ _ _ _ _ _ _ _ _ _) 2 gX3_part_X3_isPart rfl rfl rfl nd_X3_isPart ⟨by decide, by decide⟩ 0 rfl rfl [0, 2] [1, 3, 4, 5] [4, 0, 5, 1, 2, 3] rfl rfl rfl rfl (by decide) rfl rfl rfl rfl (Nat.le_of_ble_eq_true rfl) dX3_part_3 ⟨by decide, by decide⟩ ?_
  refine z_bf_eq g (tgt := 22) dX3_part_6 (by decide) (fun b6 => ?_) (fun b6 => ?_)
  · refine z_ic0 g dX3_part_22 ?_
    refine z_istore (lv' := [(4, .int _), (0, .ref _), (1, .int _), (2, .int _), (3, .int _)]) g dX3_part_23 (by decide) rfl ?_
    refine z_aload_n g dX3_part_25 1 rfl ?_
    refine z_iload g dX3_part_26 0 rfl ?_
    refine z_if_eq g (tgt := 35) dX3_part_28 (by decide) (fun b28 => ?_) (fun b28 => ?_)
    · refine z_ic1 g dX3_part_35 ?_
      refine z_put (w' := [(_, .inr (3, [_, _, _, _, _, _, _, _, _, _, _, _, _, _, _, _])), _, _, _, _, _]) g hX3 tyX3 tyX3_ok nmX3 0 rfl rfl 0 (by decide) (mi 1 rfl) rfl rfl rfl (Nat.le_of_ble_eq_true rfl) dX3_part_36 rfl ?_
      refine z_iload g dX3_part_39 0 rfl ?_
      refine z_if_ne g (tgt := 46) dX3_part_41 (by decide) (fun b41 => ?_) (fun b41 => ?_)
      · first | exact absurd b41 (by decide) | exact absurd (by decide) b41
      · refine z_lc0 g dX3_part_44 ?_
        exact hret _ _ _ _ dX3_part_45 ((by first | (unfold mpV mpN; rw [if_pos hok, if_pos b53]; done) | (unfold mpV mpN; rw [if_pos hok, if_neg b53]; done) | (unfold mpV mpOK sd2; simp only [reduceIte, if_neg (Bool.eq_false_iff.mp b6), if_pos b28, if_pos b41, Bool.false_eq_true]))) ((by first | (unfold mpZ ftB; rw [if_pos hok, if_pos hok]; rfl) | (unfold mpZ ftB mpOK sd2; simp only [reduceIte, if_neg (Bool.eq_false_iff.mp b6), if_pos b28, if_pos b41, Bool.false_eq_true])))
    · first | exact absurd b28 (by decide) | exact absurd (by decide) b28
  · refine z_iload_n g dX3_part_9 3 rfl ?_
    refine z_if_lt g (tgt := 22) dX3_part_10 (by decide) (fun b10 => ?_) (fun b10 => ?_)
    · refine z_ic0 g dX3_part_22 ?_
      refine z_istore (lv' := [(4, .int _), (0, .ref _), (1, .int _), (2, .int _), (3, .int _)]) g dX3_part_23 (by decide) rfl ?_
      refine z_aload_n g dX3_part_25 1 rfl ?_
      refine z_iload g dX3_part_26 0 rfl ?_
      refine z_if_eq g (tgt := 35) dX3_part_28 (by decide) (fun b28 => ?_) (fun b28 => ?_)
      · refine z_ic1 g dX3_part_35 ?_
        refine z_put (w' := [(_, .inr (3, [_, _, _, _, _, _, _, _, _, _, _, _, _, _, _, _])), _, _, _, _, _]) g hX3 tyX3 tyX3_ok nmX3 0 rfl rfl 0 (by decide) (mi 1 rfl) rfl rfl rfl (Nat.le_of_ble_eq_true rfl) dX3_part_36 rfl ?_
        refine z_iload g dX3_part_39 0 rfl ?_
        refine z_if_ne g (tgt := 46) dX3_part_41 (by decide) (fun b41 => ?_) (fun b41 => ?_)
        · first | exact absurd b41 (by decide) | exact absurd (by decide) b41
        · refine z_lc0 g dX3_part_44 ?_
          exact hret _ _ _ _ dX3_part_45 ((by first | (unfold mpV mpN; rw [if_pos hok, if_pos b53]; done) | (unfold mpV mpN; rw [if_pos hok, if_neg b53]; done) | (unfold mpV mpOK sd2; simp only [reduceIte, if_pos b6, if_pos b10, if_pos b28, if_pos b41, Bool.false_eq_true]))) ((by first | (unfold mpZ ftB; rw [if_pos hok, if_pos hok]; rfl) | (unfold mpZ ftB mpOK sd2; simp only [reduceIte, if_pos b6, if_pos b10, if_pos b28, if_pos b41, Bool.false_eq_true])))
      · first | exact absurd b28 (by decide) | exact absurd (by decide) b28
    · refine z_iload_n g dX3_part_13 3 rfl ?_
      refine z_ic2 g dX3_part_14 ?_
      refine z_ic_ge g (tgt := 22) dX3_part_15 (by decide) (fun b15 => ?_) (fun b15 => ?_)
      · refine z_ic0 g dX3_part_22 ?_
        refine z_istore (lv' := [(4, .int _), (0, .ref _), (1, .int _), (2, .int _), (3, .int _)]) g dX3_part_23 (by decide) rfl ?_
        refine z_aload_n g dX3_part_25 1 rfl ?_
        refine z_iload g dX3_part_26 0 rfl ?_
        refine z_if_eq g (tgt := 35) dX3_part_28 (by decide) (fun b28 => ?_) (fun b28 => ?_)
        · refine z_ic1 g dX3_part_35 ?_
          refine z_put (w' := [(_, .inr (3, [_, _, _, _, _, _, _, _, _, _, _, _, _, _, _, _])), _, _, _, _, _]) g hX3 tyX3 tyX3_ok nmX3 0 rfl rfl 0 (by decide) (mi 1 rfl) rfl rfl rfl (Nat.le_of_ble_eq_true rfl) dX3_part_36 rfl ?_
          refine z_iload g dX3_part_39 0 rfl ?_
          refine z_if_ne g (tgt := 46) dX3_part_41 (by decide) (fun b41 => ?_) (fun b41 => ?_)
          · first | exact absurd b41 (by decide) | exact absurd (by decide) b41
          · refine z_lc0 g dX3_part_44 ?_
            exact hret _ _ _ _ dX3_part_45 ((by first | (unfold mpV mpN; rw [if_pos hok, if_pos b53]; done) | (unfold mpV mpN; rw [if_pos hok, if_neg b53]; done) | (unfold mpV mpOK sd2; simp only [reduceIte, if_pos b6, if_neg b10, if_pos b15, if_pos b28, if_pos b41, Bool.false_eq_true]))) ((by first | (unfold mpZ ftB; rw [if_pos hok, if_pos hok]; rfl) | (unfold mpZ ftB mpOK sd2; simp only [reduceIte, if_pos b6, if_neg b10, if_pos b15, if_pos b28, if_pos b41, Bool.false_eq_true])))
        · first | exact absurd b28 (by decide) | exact absurd (by decide) b28
      · refine z_ic1 g dX3_part_18 ?_
        refine z_goto g 23 dX3_part_19 (by decide) ?_
        refine z_istore (lv' := [(4, .int _), (0, .ref _), (1, .int _), (2, .int _), (3, .int _)]) g dX3_part_23 (by decide) rfl ?_
        refine z_aload_n g dX3_part_25 1 rfl ?_
        refine z_iload g dX3_part_26 0 rfl ?_
        refine z_if_eq g (tgt := 35) dX3_part_28 (by decide) (fun b28 => ?_) (fun b28 => ?_)
        · first | exact absurd b28 (by decide) | exact absurd (by decide) b28
        · refine z_ic0 g dX3_part_31 ?_
          refine z_goto g 36 dX3_part_32 (by decide) ?_
          refine z_put (w' := [(_, .inr (3, [_, _, _, _, _, _, _, _, _, _, _, _, _, _, _, _])), _, _, _, _, _]) g hX3 tyX3 tyX3_ok nmX3 0 rfl rfl 0 (by decide) (mi 1 rfl) rfl rfl rfl (Nat.le_of_ble_eq_true rfl) dX3_part_36 rfl ?_
          refine z_iload g dX3_part_39 0 rfl ?_
          refine z_if_ne g (tgt := 46) dX3_part_41 (by decide) (fun b41 => ?_) (fun b41 => ?_)
          · have hok : mpOK m p0 p1 p2 = true := by unfold mpOK sd2; rw [if_pos b6, if_neg b10, if_neg b15]
            obtain ⟨i1, i2, i3, i4⟩ := ip_ok hm b6
            refine z_aload_n g dX3_part_46 1 rfl ?_
            refine z_iload_n g dX3_part_47 2 rfl ?_
            refine z_iload_n g dX3_part_48 3 rfl ?_
            refine z_callVv (w' := [_, _, _, _, _, _]) (wr := []) g (k_X3_work l G k _ _ _ _ _ _ _ _ _ _ _ _ _ _ _ _ _ _ _ _ _ _ _ _ _ hm i1 i2 i3 (hwg p0 i1 _ i4)) 2 gX3_part_X3_work rfl rfl rfl nd_X3_work ⟨by decide, by decide⟩ 0 rfl rfl [0, 1, 2, 3, 4, 5] [] [0, 1, 2, 3, 4, 5] rfl rfl rfl rfl (by decide) rfl rfl rfl rfl (Nat.le_of_ble_eq_true rfl) dX3_part_49 ⟨by decide, by decide⟩ ?_
            refine z_iload_n g dX3_part_52 4 rfl ?_
            refine z_if_ne g (tgt := 63) dX3_part_53 (by decide) (fun b53 => ?_) (fun b53 => ?_)
            · refine z_aload_n g dX3_part_63 1 rfl ?_
              refine z_get g hX3 0 rfl rfl 10 (by decide) (mi 3 rfl) rfl dX3_part_64 ?_
              exact hret _ _ _ _ dX3_part_67 ((by first | (unfold mpV mpN; rw [if_pos hok, if_pos b53]; done) | (unfold mpV mpN; rw [if_pos hok, if_neg b53]; done) | (unfold mpV mpOK sd2; simp only [reduceIte, if_pos b6, if_neg b10, if_neg b15, if_neg b28, if_neg b41, if_neg b53, Bool.false_eq_true]))) ((by first | (unfold mpZ ftB; rw [if_pos hok, if_pos hok]; rfl) | (unfold mpZ ftB mpOK sd2; simp only [reduceIte, if_pos b6, if_neg b10, if_neg b15, if_neg b28, if_neg b41, if_neg b53, Bool.false_eq_true])))
            · refine z_aload_n g dX3_part_56 1 rfl ?_
              refine z_get g hX3 0 rfl rfl 9 (by decide) (mi 2 rfl) rfl dX3_part_57 ?_
              refine z_goto g 67 dX3_part_60 (by decide) ?_
              exact hret _ _ _ _ dX3_part_67 ((by first | (unfold mpV mpN; rw [if_pos hok, if_pos b53]; done) | (unfold mpV mpN; rw [if_pos hok, if_neg b53]; done) | (unfold mpV mpOK sd2; simp only [reduceIte, if_pos b6, if_neg b10, if_neg b15, if_neg b28, if_neg b41, if_pos b53, Bool.false_eq_true]))) ((by first | (unfold mpZ ftB; rw [if_pos hok, if_pos hok]; rfl) | (unfold mpZ ftB mpOK sd2; simp only [reduceIte, if_pos b6, if_neg b10, if_neg b15, if_neg b28, if_neg b41, if_pos b53, Bool.false_eq_true])))
          · first | exact absurd b41 (by decide) | exact absurd (by decide) b41
theorem nd_X3_part : yX3_part.cls = RX3 ∧ yX3_part.cls ≠ "java/lang/invoke/MethodHandle" ∧ yX3_part.cls ≠ "java/lang/invoke/VarHandle" ∧ (parseMethodDescriptor yX3_part.desc).map (fun d => d.parameters.length) = some 3 := by decide +kernel
set_option maxHeartbeats 4000000 in
set_option maxRecDepth 100000 in
/-- integral(root, k, w) -/
theorem k_X3_integral (l : Launch) (G : va_G) (k : Nat → ClassId) (h0 e1 e3 e4 e5 e7 e8 e11 e12 e13 e14 : Nat) (ft : Int32) (n dg i : Nat) (ov un : Int64) (m : Nat → Nat) (F Lo Qu Ne Re Ro : Nat → Int64) (p0 p1 p2 : Int32) (hdg : dg ≤ 5) (hm : ∀ j, j < 7 → m j ≤ 5) (hwg : wkG F m) (hz : igH F (dvD Lo dg F) m p0 p1) : ∀ sz, Met l yX3_integral wsX3_integral ({ frames := 3, cells := 0, slots := 0, locals := 75 }) (va_Pc [.ref h0, .int p0, .int p1, .int p2] (KP G k [(h0, .inr (3, [.int ft, .ref e1, .int (nI n), .ref e3, .ref e4, .ref e5, .int (nI dg), .ref e7, .ref e8, .long ov, .long un, .ref e11, .ref e12, .ref e13, .ref e14, .int (nI i)])), (e3, .inl (k 2, 7, .inr (.inl F))), (e4, .inl (k 2, 6, .inr (.inl Lo))), (e5, .inl (k 2, 7, .inr (.inl Qu))), (e7, .inl (k 1, 7, .inl (fun j => nI (m j)))), (e11, .inl (k 2, 7, .inr (.inl Ne))), (e12, .inl (k 2, 6, .inr (.inl Re))), (e13, .inl (k 2, 6, .inr (.inl Ro)))] sz)) (va_Ql (fun r (_ : Unit) => r = igM F (dvD Lo dg F) m p0 p1 p2 Qu (Ne, Re, Ro, ov, un)) (KQ G [(h0, .inr (3, [.int (ftB (gdM m p0 p1 p2)), .ref e1, .int (nI n), .ref e3, .ref e4, .ref e5, .int (nI dg), .ref e7, .ref e8, .long ((igZ F (dvD Lo dg F) m p0 p1 p2 Qu (Ne, Re, Ro, ov, un)).2.2.2.2.1), .long ((igZ F (dvD Lo dg F) m p0 p1 p2 Qu (Ne, Re, Ro, ov, un)).2.2.2.2.2), .ref e11, .ref e12, .ref e13, .ref e14, .int (nI i)])), (e3, .inl (k 2, 7, .inr (.inl F))), (e4, .inl (k 2, 6, .inr (.inl Lo))), (e5, .inl (k 2, 7, .inr (.inl ((igZ F (dvD Lo dg F) m p0 p1 p2 Qu (Ne, Re, Ro, ov, un)).1)))), (e7, .inl (k 1, 7, .inl (fun j => nI (m j)))), (e11, .inl (k 2, 7, .inr (.inl ((igZ F (dvD Lo dg F) m p0 p1 p2 Qu (Ne, Re, Ro, ov, un)).2.1)))), (e12, .inl (k 2, 6, .inr (.inl ((igZ F (dvD Lo dg F) m p0 p1 p2 Qu (Ne, Re, Ro, ov, un)).2.2.1)))), (e13, .inl (k 2, 6, .inr (.inl ((igZ F (dvD Lo dg F) m p0 p1 p2 Qu (Ne, Re, Ro, ov, un)).2.2.2.1))))] (va_A [(h0, .inr (3, [.int ft, .ref e1, .int (nI n), .ref e3, .ref e4, .ref e5, .int (nI dg), .ref e7, .ref e8, .long ov, .long un, .ref e11, .ref e12, .ref e13, .ref e14, .int (nI i)])), (e3, .inl (k 2, 7, .inr (.inl F))), (e4, .inl (k 2, 6, .inr (.inl Lo))), (e5, .inl (k 2, 7, .inr (.inl Qu))), (e7, .inl (k 1, 7, .inl (fun j => nI (m j)))), (e11, .inl (k 2, 7, .inr (.inl Ne))), (e12, .inl (k 2, 6, .inr (.inl Re))), (e13, .inl (k 2, 6, .inr (.inl Ro)))] sz)) (va_A [(h0, .inr (3, [.int ft, .ref e1, .int (nI n), .ref e3, .ref e4, .ref e5, .int (nI dg), .ref e7, .ref e8, .long ov, .long un, .ref e11, .ref e12, .ref e13, .ref e14, .int (nI i)])), (e3, .inl (k 2, 7, .inr (.inl F))), (e4, .inl (k 2, 6, .inr (.inl Lo))), (e5, .inl (k 2, 7, .inr (.inl Qu))), (e7, .inl (k 1, 7, .inl (fun j => nI (m j)))), (e11, .inl (k 2, 7, .inr (.inl Ne))), (e12, .inl (k 2, 6, .inr (.inl Re))), (e13, .inl (k 2, 6, .inr (.inl Ro)))] sz)) 0 0 (va_A [(h0, .inr (3, [.int ft, .ref e1, .int (nI n), .ref e3, .ref e4, .ref e5, .int (nI dg), .ref e7, .ref e8, .long ov, .long un, .ref e11, .ref e12, .ref e13, .ref e14, .int (nI i)])), (e3, .inl (k 2, 7, .inr (.inl F))), (e4, .inl (k 2, 6, .inr (.inl Lo))), (e5, .inl (k 2, 7, .inr (.inl Qu))), (e7, .inl (k 1, 7, .inl (fun j => nI (m j)))), (e11, .inl (k 2, 7, .inr (.inl Ne))), (e12, .inl (k 2, 6, .inr (.inl Re))), (e13, .inl (k 2, 6, .inr (.inl Ro)))] sz) := by
  refine met_l 0 0 (lv0 := [(0, .ref h0), (1, .int p0), (2, .int p1), (3, .int p2)]) (own := RX3) (by decide) rfl rfl (Nat.le_of_ble_eq_true rfl) rfl (fun Z g hret => ?_)
  have hX3 : ∀ w ∈ u_ws RX3 TX3 16, w ∈ wsX3_integral := fun w h => List.mem_cons_of_mem _ (List.mem_append_right _ (h))
  refine z_iload_n g dX3_integral_0 1 rfl ?_
  refine z_bi g 9 dX3_integral_1 (by decide) ?_
  refine z_ic_ne g (tgt := 14) dX3_integral_3 (by decide) (fun b3 => ?_) (fun b3 => ?_)
  · refine z_ic0 g dX3_integral_14 ?_
    refine z_istore (lv' := [(4, .int _), (0, .ref _), (1, .int _), (2, .int _), (3, .int _)]) g dX3_integral_15 (by decide) rfl ?_
    refine z_iload g dX3_integral_17 0 rfl ?_
    refine z_if_ne g (tgt := 35) dX3_integral_19 (by decide) (fun b19 => ?_) (fun b19 => ?_)
    · first | exact absurd b19 (by decide) | exact absurd (by decide) b19
    · refine z_iload_n g dX3_integral_22 3 rfl ?_
      refine z_if_lt g (tgt := 48) dX3_integral_23 (by decide) (fun b23 => ?_) (fun b23 => ?_)
      · refine z_ic0 g dX3_integral_48 ?_
        refine z_istore (lv' := [(5, .int _), (4, .int _), (0, .ref _), (1, .int _), (2, .int _), (3, .int _)]) g dX3_integral_49 (by decide) rfl ?_
        refine z_aload_n g dX3_integral_51 2 rfl ?_
        refine z_iload g dX3_integral_52 0 rfl ?_
        refine z_if_eq g (tgt := 61) dX3_integral_54 (by decide) (fun b54 => ?_) (fun b54 => ?_)
        · refine z_ic1 g dX3_integral_61 ?_
          refine z_put (w' := [(_, .inr (3, [_, _, _, _, _, _, _, _, _, _, _, _, _, _, _, _])), _, _, _, _, _, _, _]) g hX3 tyX3 tyX3_ok nmX3 0 rfl rfl 0 (by decide) (mi 1 rfl) rfl rfl rfl (Nat.le_of_ble_eq_true rfl) dX3_integral_62 rfl ?_
          refine z_iload g dX3_integral_65 0 rfl ?_
          refine z_if_ne g (tgt := 72) dX3_integral_67 (by decide) (fun b67 => ?_) (fun b67 => ?_)
          · first | exact absurd b67 (by decide) | exact absurd (by decide) b67
          · refine z_lc0 g dX3_integral_70 ?_
            exact hret _ _ _ _ dX3_integral_71 ((igM_f (by unfold gdM pwP sd2; simp only [reduceIte, Bool.false_eq_true, if_neg b3, if_pos b19, if_pos b23, if_pos b54, if_pos b67])).symm) ((by have h9 : gdM m p0 p1 p2 = false := (by unfold gdM pwP sd2; simp only [reduceIte, Bool.false_eq_true, if_neg b3, if_pos b19, if_pos b23, if_pos b54, if_pos b67]); rw [igZ_f h9, h9]; rfl))
        · first | exact absurd b54 (by decide) | exact absurd (by decide) b54
      · refine z_iload_n g dX3_integral_26 3 rfl ?_
        refine z_aload_n g dX3_integral_27 1 rfl ?_
        refine z_iload_n g dX3_integral_28 2 rfl ?_
        refine z_callVi (w' := [_, _, _, _, _, _, _, _]) (wr := [_, _, _, _, _, _]) g (k_X3_many l G k _ _ _ _ _ _ _ _ _ _ _ _ _ _ _ _ _ _ _) 1 gX3_integral_X3_many rfl rfl rfl nd_X3_many ⟨by decide, by decide⟩ 0 rfl rfl [0, 4] [1, 2, 3, 5, 6, 7] [6, 0, 1, 2, 7, 3, 4, 5] rfl rfl rfl rfl (by decide) rfl rfl rfl rfl (Nat.le_of_ble_eq_true rfl) dX3_integral_29 ⟨by decide, by decide⟩ ?_
        refine z_ic_ge g (tgt := 48) dX3_integral_32 (by decide) (fun b32 => ?_) (fun b32 => ?_)
        · refine z_ic0 g dX3_integral_48 ?_
          refine z_istore (lv' := [(5, .int _), (4, .int _), (0, .ref _), (1, .int _), (2, .int _), (3, .int _)]) g dX3_integral_49 (by decide) rfl ?_
          refine z_aload_n g dX3_integral_51 2 rfl ?_
          refine z_iload g dX3_integral_52 0 rfl ?_
          refine z_if_eq g (tgt := 61) dX3_integral_54 (by decide) (fun b54 => ?_) (fun b54 => ?_)
          · refine z_ic1 g dX3_integral_61 ?_
            refine z_put (w' := [(_, .inr (3, [_, _, _, _, _, _, _, _, _, _, _, _, _, _, _, _])), _, _, _, _, _, _, _]) g hX3 tyX3 tyX3_ok nmX3 0 rfl rfl 0 (by decide) (mi 1 rfl) rfl rfl rfl (Nat.le_of_ble_eq_true rfl) dX3_integral_62 rfl ?_
            refine z_iload g dX3_integral_65 0 rfl ?_
            refine z_if_ne g (tgt := 72) dX3_integral_67 (by decide) (fun b67 => ?_) (fun b67 => ?_)
            · first | exact absurd b67 (by decide) | exact absurd (by decide) b67
            · refine z_lc0 g dX3_integral_70 ?_
              exact hret _ _ _ _ dX3_integral_71 ((igM_f (by unfold gdM pwP sd2; simp only [reduceIte, Bool.false_eq_true, if_neg b3, if_pos b19, if_neg b23, if_pos b32, if_pos b54, if_pos b67])).symm) ((by have h9 : gdM m p0 p1 p2 = false := (by unfold gdM pwP sd2; simp only [reduceIte, Bool.false_eq_true, if_neg b3, if_pos b19, if_neg b23, if_pos b32, if_pos b54, if_pos b67]); rw [igZ_f h9, h9]; rfl))
          · first | exact absurd b54 (by decide) | exact absurd (by decide) b54
        · refine z_iload_n g dX3_integral_35 4 rfl ?_
          refine z_if_lt g (tgt := 48) dX3_integral_36 (by decide) (fun b36 => ?_) (fun b36 => ?_)
          · refine z_ic0 g dX3_integral_48 ?_
            refine z_istore (lv' := [(5, .int _), (4, .int _), (0, .ref _), (1, .int _), (2, .int _), (3, .int _)]) g dX3_integral_49 (by decide) rfl ?_
            refine z_aload_n g dX3_integral_51 2 rfl ?_
            refine z_iload g dX3_integral_52 0 rfl ?_
            refine z_if_eq g (tgt := 61) dX3_integral_54 (by decide) (fun b54 => ?_) (fun b54 => ?_)
            · refine z_ic1 g dX3_integral_61 ?_
              refine z_put (w' := [(_, .inr (3, [_, _, _, _, _, _, _, _, _, _, _, _, _, _, _, _])), _, _, _, _, _, _, _]) g hX3 tyX3 tyX3_ok nmX3 0 rfl rfl 0 (by decide) (mi 1 rfl) rfl rfl rfl (Nat.le_of_ble_eq_true rfl) dX3_integral_62 rfl ?_
              refine z_iload g dX3_integral_65 0 rfl ?_
              refine z_if_ne g (tgt := 72) dX3_integral_67 (by decide) (fun b67 => ?_) (fun b67 => ?_)
              · first | exact absurd b67 (by decide) | exact absurd (by decide) b67
              · refine z_lc0 g dX3_integral_70 ?_
                exact hret _ _ _ _ dX3_integral_71 ((igM_f (by unfold gdM pwP sd2; simp only [reduceIte, Bool.false_eq_true, if_neg b3, if_pos b19, if_neg b23, if_neg b32, if_pos b36, if_pos b54, if_pos b67])).symm) ((by have h9 : gdM m p0 p1 p2 = false := (by unfold gdM pwP sd2; simp only [reduceIte, Bool.false_eq_true, if_neg b3, if_pos b19, if_neg b23, if_neg b32, if_pos b36, if_pos b54, if_pos b67]); rw [igZ_f h9, h9]; rfl))
            · first | exact absurd b54 (by decide) | exact absurd (by decide) b54
          · refine z_iload_n g dX3_integral_39 4 rfl ?_
            refine z_ic2 g dX3_integral_40 ?_
            refine z_ic_ge g (tgt := 48) dX3_integral_41 (by decide) (fun b41 => ?_) (fun b41 => ?_)
            · refine z_ic0 g dX3_integral_48 ?_
              refine z_istore (lv' := [(5, .int _), (4, .int _), (0, .ref _), (1, .int _), (2, .int _), (3, .int _)]) g dX3_integral_49 (by decide) rfl ?_
              refine z_aload_n g dX3_integral_51 2 rfl ?_
              refine z_iload g dX3_integral_52 0 rfl ?_
              refine z_if_eq g (tgt := 61) dX3_integral_54 (by decide) (fun b54 => ?_) (fun b54 => ?_)
              · refine z_ic1 g dX3_integral_61 ?_
                refine z_put (w' := [(_, .inr (3, [_, _, _, _, _, _, _, _, _, _, _, _, _, _, _, _])), _, _, _, _, _, _, _]) g hX3 tyX3 tyX3_ok nmX3 0 rfl rfl 0 (by decide) (mi 1 rfl) rfl rfl rfl (Nat.le_of_ble_eq_true rfl) dX3_integral_62 rfl ?_
                refine z_iload g dX3_integral_65 0 rfl ?_
                refine z_if_ne g (tgt := 72) dX3_integral_67 (by decide) (fun b67 => ?_) (fun b67 => ?_)
                · first | exact absurd b67 (by decide) | exact absurd (by decide) b67
                · refine z_lc0 g dX3_integral_70 ?_
                  exact hret _ _ _ _ dX3_integral_71 ((igM_f (by unfold gdM pwP sd2; simp only [reduceIte, Bool.false_eq_true, if_neg b3, if_pos b19, if_neg b23, if_neg b32, if_neg b36, if_pos b41, if_pos b54, if_pos b67])).symm) ((by have h9 : gdM m p0 p1 p2 = false := (by unfold gdM pwP sd2; simp only [reduceIte, Bool.false_eq_true, if_neg b3, if_pos b19, if_neg b23, if_neg b32, if_neg b36, if_pos b41, if_pos b54, if_pos b67]); rw [igZ_f h9, h9]; rfl))
              · first | exact absurd b54 (by decide) | exact absurd (by decide) b54
            · refine z_ic1 g dX3_integral_44 ?_
              refine z_goto g 49 dX3_integral_45 (by decide) ?_
              refine z_istore (lv' := [(5, .int _), (4, .int _), (0, .ref _), (1, .int _), (2, .int _), (3, .int _)]) g dX3_integral_49 (by decide) rfl ?_
              refine z_aload_n g dX3_integral_51 2 rfl ?_
              refine z_iload g dX3_integral_52 0 rfl ?_
              refine z_if_eq g (tgt := 61) dX3_integral_54 (by decide) (fun b54 => ?_) (fun b54 => ?_)
              · first | exact absurd b54 (by decide) | exact absurd (by decide) b54
              · refine z_ic0 g dX3_integral_57 ?_
                refine z_goto g 62 dX3_integral_58 (by decide) ?_
                refine z_put (w' := [(_, .inr (3, [_, _, _, _, _, _, _, _, _, _, _, _, _, _, _, _])), _, _, _, _, _, _, _]) g hX3 tyX3 tyX3_ok nmX3 0 rfl rfl 0 (by decide) (mi 1 rfl) rfl rfl rfl (Nat.le_of_ble_eq_true rfl) dX3_integral_62 rfl ?_
                refine z_iload g dX3_integral_65 0 rfl ?_
                refine z_if_ne g (tgt := 72) dX3_integral_67 (by decide) (fun b67 => ?_) (fun b67 => ?_)
                · have hok : gdM m p0 p1 p2 = true := by unfold gdM pwP sd2; simp only [reduceIte, Bool.false_eq_true, if_neg b3, if_pos b19, if_neg b23, if_neg b32, if_neg b36, if_neg b41, if_neg b54, if_neg b67]
                  refine z_aload_n g dX3_integral_72 2 rfl ?_
                  refine z_callVv (w' := [_, _, _, _, _, _, _, _]) (wr := [_, _, _]) g (k_X3_divide l G k _ _ _ _ _ _ _ _ _ _ _ _ _ _ _ _ _ _ _ _ _ (by assumption)) 0 gX3_integral_X3_divide rfl rfl rfl nd_X3_divide ⟨by decide, by decide⟩ 0 rfl rfl [0, 1, 2, 3, 5] [4, 6, 7] [3, 4, 5, 6, 0, 7, 1, 2] rfl rfl rfl rfl (by decide) rfl rfl rfl rfl (Nat.le_of_ble_eq_true rfl) dX3_integral_73 ⟨by decide, by decide⟩ ?_
                  refine z_iload g dX3_integral_76 1 rfl ?_
                  refine z_if_eq g (tgt := 108) dX3_integral_78 (by decide) (fun b78 => ?_) (fun b78 => ?_)
                  · have hpw : pwP p0 p1 = false := by unfold pwP; first | rw [if_pos b3, if_pos b7] | rw [if_neg b3]
                    obtain ⟨i1, i2, i3, i4⟩ := ig_ok hm b23 b32
                    refine z_aload_n g dX3_integral_108 2 rfl ?_
                    refine z_iload_n g dX3_integral_109 3 rfl ?_
                    refine z_iload_n g dX3_integral_110 4 rfl ?_
                    refine z_ic1 g dX3_integral_111 ?_
                    refine z_iadd g dX3_integral_112 ?_
                    refine z_callVv (w' := [_, _, _, _, _, _, _, _]) (wr := [_, _]) g (k_X3_work l G k _ _ _ _ _ _ _ _ _ _ _ _ _ _ _ _ _ _ _ _ _ _ _ _ _ hm i1 i2 i3 (hwg p0 i1 _ i4)) 2 gX3_integral_X3_work rfl rfl rfl nd_X3_work ⟨by decide, by decide⟩ 0 rfl rfl [0, 1, 4, 5, 6, 7] [2, 3] [2, 3, 0, 1, 4, 5, 6, 7] rfl rfl rfl rfl (by decide) rfl rfl rfl rfl (Nat.le_of_ble_eq_true rfl) dX3_integral_113 ⟨by decide, by decide⟩ ?_
                    refine z_iload g dX3_integral_116 1 rfl ?_
                    refine z_if_ne g (tgt := 141) dX3_integral_118 (by decide) (fun b118 => ?_) (fun b118 => ?_)
                    · first | exact absurd b118 (by decide) | exact absurd (by decide) b118
                    · refine z_iload_n g dX3_integral_121 4 rfl ?_
                      refine z_if_le g (tgt := 141) dX3_integral_122 (by decide) (fun b122 => ?_) (fun b122 => ?_)
                      · refine z_iload_n g dX3_integral_141 5 rfl ?_
                        refine z_if_ne g (tgt := 152) dX3_integral_142 (by decide) (fun b142 => ?_) (fun b142 => ?_)
                        · refine z_aload_n g dX3_integral_152 2 rfl ?_
                          refine z_get g hX3 0 rfl rfl 10 (by decide) (mi 4 rfl) rfl dX3_integral_153 ?_
                          exact hret _ _ _ _ dX3_integral_156 ((by rw [igM_t hok]; (first | rw [igZ_p hok hpw] | rw [igZ_n hok hpw]); simp only [igW, igq, wkS, reduceIte, if_neg b3, if_pos b19, if_neg b23, if_neg b32, if_neg b36, if_neg b41, if_neg b54, if_neg b67, if_pos b78, if_pos b118, if_pos b122, if_neg b142])) ((by rw [hok]; (first | rw [igZ_p hok hpw] | rw [igZ_n hok hpw]); simp only [igW, igq, wkS, ftB, reduceIte, if_neg b3, if_pos b19, if_neg b23, if_neg b32, if_neg b36, if_neg b41, if_neg b54, if_neg b67, if_pos b78, if_pos b118, if_pos b122, if_neg b142]))
                        · refine z_aload_n g dX3_integral_145 2 rfl ?_
                          refine z_get g hX3 0 rfl rfl 9 (by decide) (mi 3 rfl) rfl dX3_integral_146 ?_
                          refine z_goto g 156 dX3_integral_149 (by decide) ?_
                          exact hret _ _ _ _ dX3_integral_156 ((by rw [igM_t hok]; (first | rw [igZ_p hok hpw] | rw [igZ_n hok hpw]); simp only [igW, igq, wkS, reduceIte, if_neg b3, if_pos b19, if_neg b23, if_neg b32, if_neg b36, if_neg b41, if_neg b54, if_neg b67, if_pos b78, if_pos b118, if_pos b122, if_pos b142])) ((by rw [hok]; (first | rw [igZ_p hok hpw] | rw [igZ_n hok hpw]); simp only [igW, igq, wkS, ftB, reduceIte, if_neg b3, if_pos b19, if_neg b23, if_neg b32, if_neg b36, if_neg b41, if_neg b54, if_neg b67, if_pos b78, if_pos b118, if_pos b122, if_pos b142]))
                      · refine z_aload_n g dX3_integral_125 2 rfl ?_
                        refine z_aload_n g dX3_integral_126 2 rfl ?_
                        refine z_get g hX3 0 rfl rfl 9 (by decide) (mi 3 rfl) rfl dX3_integral_127 ?_
                        refine z_lneg g dX3_integral_130 ?_
                        refine z_aload_n g dX3_integral_131 2 rfl ?_
                        refine z_get g hX3 0 rfl rfl 10 (by decide) (mi 4 rfl) rfl dX3_integral_132 ?_
                        refine z_iload_n g dX3_integral_135 4 rfl ?_
                        refine z_i2l g dX3_integral_136 ?_
                        refine z_lmul g dX3_integral_137 ?_
                        refine z_callVv (w' := [_, _, _, _, _, _, _, _]) (wr := [_, _, _, _, _, _, _]) g (k_X3_tell l G k _ _ _ _ _ _ _ _ _ _ _ _ _ _ _ _ _ _ _ (hz.2 hpw b122 b32)) 2 gX3_integral_X3_tell rfl rfl rfl nd_X3_tell ⟨by decide, by decide⟩ 0 rfl rfl [0] [1, 2, 3, 4, 5, 6, 7] [7, 0, 1, 2, 3, 4, 5, 6] rfl rfl rfl rfl (by decide) rfl rfl rfl rfl (Nat.le_of_ble_eq_true rfl) dX3_integral_138 ⟨by decide, by decide⟩ ?_
                        refine z_iload_n g dX3_integral_141 5 rfl ?_
                        refine z_if_ne g (tgt := 152) dX3_integral_142 (by decide) (fun b142 => ?_) (fun b142 => ?_)
                        · refine z_aload_n g dX3_integral_152 2 rfl ?_
                          refine z_get g hX3 0 rfl rfl 10 (by decide) (mi 4 rfl) rfl dX3_integral_153 ?_
                          exact hret _ _ _ _ dX3_integral_156 ((by rw [igM_t hok]; (first | rw [igZ_p hok hpw] | rw [igZ_n hok hpw]); simp only [igW, igq, wkS, reduceIte, if_neg b3, if_pos b19, if_neg b23, if_neg b32, if_neg b36, if_neg b41, if_neg b54, if_neg b67, if_pos b78, if_pos b118, if_neg b122, if_neg b142])) ((by rw [hok]; (first | rw [igZ_p hok hpw] | rw [igZ_n hok hpw]); simp only [igW, igq, wkS, ftB, reduceIte, if_neg b3, if_pos b19, if_neg b23, if_neg b32, if_neg b36, if_neg b41, if_neg b54, if_neg b67, if_pos b78, if_pos b118, if_neg b122, if_neg b142]))
                        · refine z_aload_n g dX3_integral_145 2 rfl ?_
                          refine z_get g hX3 0 rfl rfl 9 (by decide) (mi 3 rfl) rfl dX3_integral_146 ?_
                          refine z_goto g 156 dX3_integral_149 (by decide) ?_
                          exact hret _ _ _ _ dX3_integral_156 ((by rw [igM_t hok]; (first | rw [igZ_p hok hpw] | rw [igZ_n hok hpw]); simp only [igW, igq, wkS, reduceIte, if_neg b3, if_pos b19, if_neg b23, if_neg b32, if_neg b36, if_neg b41, if_neg b54, if_neg b67, if_pos b78, if_pos b118, if_neg b122, if_pos b142])) ((by rw [hok]; (first | rw [igZ_p hok hpw] | rw [igZ_n hok hpw]); simp only [igW, igq, wkS, ftB, reduceIte, if_neg b3, if_pos b19, if_neg b23, if_neg b32, if_neg b36, if_neg b41, if_neg b54, if_neg b67, if_pos b78, if_pos b118, if_neg b122, if_pos b142]))
                  · first | exact absurd b78 (by decide) | exact absurd (by decide) b78
                · first | exact absurd b67 (by decide) | exact absurd (by decide) b67
  · refine z_iload_n g dX3_integral_6 2 rfl ?_
    refine z_if_le g (tgt := 14) dX3_integral_7 (by decide) (fun b7 => ?_) (fun b7 => ?_)
    · refine z_ic0 g dX3_integral_14 ?_
      refine z_istore (lv' := [(4, .int _), (0, .ref _), (1, .int _), (2, .int _), (3, .int _)]) g dX3_integral_15 (by decide) rfl ?_
      refine z_iload g dX3_integral_17 0 rfl ?_
      refine z_if_ne g (tgt := 35) dX3_integral_19 (by decide) (fun b19 => ?_) (fun b19 => ?_)
      · first | exact absurd b19 (by decide) | exact absurd (by decide) b19
      · refine z_iload_n g dX3_integral_22 3 rfl ?_
        refine z_if_lt g (tgt := 48) dX3_integral_23 (by decide) (fun b23 => ?_) (fun b23 => ?_)
        · refine z_ic0 g dX3_integral_48 ?_
          refine z_istore (lv' := [(5, .int _), (4, .int _), (0, .ref _), (1, .int _), (2, .int _), (3, .int _)]) g dX3_integral_49 (by decide) rfl ?_
          refine z_aload_n g dX3_integral_51 2 rfl ?_
          refine z_iload g dX3_integral_52 0 rfl ?_
          refine z_if_eq g (tgt := 61) dX3_integral_54 (by decide) (fun b54 => ?_) (fun b54 => ?_)
          · refine z_ic1 g dX3_integral_61 ?_
            refine z_put (w' := [(_, .inr (3, [_, _, _, _, _, _, _, _, _, _, _, _, _, _, _, _])), _, _, _, _, _, _, _]) g hX3 tyX3 tyX3_ok nmX3 0 rfl rfl 0 (by decide) (mi 1 rfl) rfl rfl rfl (Nat.le_of_ble_eq_true rfl) dX3_integral_62 rfl ?_
            refine z_iload g dX3_integral_65 0 rfl ?_
            refine z_if_ne g (tgt := 72) dX3_integral_67 (by decide) (fun b67 => ?_) (fun b67 => ?_)
            · first | exact absurd b67 (by decide) | exact absurd (by decide) b67
            · refine z_lc0 g dX3_integral_70 ?_
              exact hret _ _ _ _ dX3_integral_71 ((igM_f (by unfold gdM pwP sd2; simp only [reduceIte, Bool.false_eq_true, if_pos b3, if_pos b7, if_pos b19, if_pos b23, if_pos b54, if_pos b67])).symm) ((by have h9 : gdM m p0 p1 p2 = false := (by unfold gdM pwP sd2; simp only [reduceIte, Bool.false_eq_true, if_pos b3, if_pos b7, if_pos b19, if_pos b23, if_pos b54, if_pos b67]); rw [igZ_f h9, h9]; rfl))
          · first | exact absurd b54 (by decide) | exact absurd (by decide) b54
        · refine z_iload_n g dX3_integral_26 3 rfl ?_
          refine z_aload_n g dX3_integral_27 1 rfl ?_
          refine z_iload_n g dX3_integral_28 2 rfl ?_
          refine z_callVi (w' := [_, _, _, _, _, _, _, _]) (wr := [_, _, _, _, _, _]) g (k_X3_many l G k _ _ _ _ _ _ _ _ _ _ _ _ _ _ _ _ _ _ _) 1 gX3_integral_X3_many rfl rfl rfl nd_X3_many ⟨by decide, by decide⟩ 0 rfl rfl [0, 4] [1, 2, 3, 5, 6, 7] [6, 0, 1, 2, 7, 3, 4, 5] rfl rfl rfl rfl (by decide) rfl rfl rfl rfl (Nat.le_of_ble_eq_true rfl) dX3_integral_29 ⟨by decide, by decide⟩ ?_
          refine z_ic_ge g (tgt := 48) dX3_integral_32 (by decide) (fun b32 => ?_) (fun b32 => ?_)
          · refine z_ic0 g dX3_integral_48 ?_
            refine z_istore (lv' := [(5, .int _), (4, .int _), (0, .ref _), (1, .int _), (2, .int _), (3, .int _)]) g dX3_integral_49 (by decide) rfl ?_
            refine z_aload_n g dX3_integral_51 2 rfl ?_
            refine z_iload g dX3_integral_52 0 rfl ?_
            refine z_if_eq g (tgt := 61) dX3_integral_54 (by decide) (fun b54 => ?_) (fun b54 => ?_)
            · refine z_ic1 g dX3_integral_61 ?_
              refine z_put (w' := [(_, .inr (3, [_, _, _, _, _, _, _, _, _, _, _, _, _, _, _, _])), _, _, _, _, _, _, _]) g hX3 tyX3 tyX3_ok nmX3 0 rfl rfl 0 (by decide) (mi 1 rfl) rfl rfl rfl (Nat.le_of_ble_eq_true rfl) dX3_integral_62 rfl ?_
              refine z_iload g dX3_integral_65 0 rfl ?_
              refine z_if_ne g (tgt := 72) dX3_integral_67 (by decide) (fun b67 => ?_) (fun b67 => ?_)
              · first | exact absurd b67 (by decide) | exact absurd (by decide) b67
              · refine z_lc0 g dX3_integral_70 ?_
                exact hret _ _ _ _ dX3_integral_71 ((igM_f (by unfold gdM pwP sd2; simp only [reduceIte, Bool.false_eq_true, if_pos b3, if_pos b7, if_pos b19, if_neg b23, if_pos b32, if_pos b54, if_pos b67])).symm) ((by have h9 : gdM m p0 p1 p2 = false := (by unfold gdM pwP sd2; simp only [reduceIte, Bool.false_eq_true, if_pos b3, if_pos b7, if_pos b19, if_neg b23, if_pos b32, if_pos b54, if_pos b67]); rw [igZ_f h9, h9]; rfl))
            · first | exact absurd b54 (by decide) | exact absurd (by decide) b54
          · refine z_iload_n g dX3_integral_35 4 rfl ?_
            refine z_if_lt g (tgt := 48) dX3_integral_36 (by decide) (fun b36 => ?_) (fun b36 => ?_)
            · refine z_ic0 g dX3_integral_48 ?_
              refine z_istore (lv' := [(5, .int _), (4, .int _), (0, .ref _), (1, .int _), (2, .int _), (3, .int _)]) g dX3_integral_49 (by decide) rfl ?_
              refine z_aload_n g dX3_integral_51 2 rfl ?_
              refine z_iload g dX3_integral_52 0 rfl ?_
              refine z_if_eq g (tgt := 61) dX3_integral_54 (by decide) (fun b54 => ?_) (fun b54 => ?_)
              · refine z_ic1 g dX3_integral_61 ?_
                refine z_put (w' := [(_, .inr (3, [_, _, _, _, _, _, _, _, _, _, _, _, _, _, _, _])), _, _, _, _, _, _, _]) g hX3 tyX3 tyX3_ok nmX3 0 rfl rfl 0 (by decide) (mi 1 rfl) rfl rfl rfl (Nat.le_of_ble_eq_true rfl) dX3_integral_62 rfl ?_
                refine z_iload g dX3_integral_65 0 rfl ?_
                refine z_if_ne g (tgt := 72) dX3_integral_67 (by decide) (fun b67 => ?_) (fun b67 => ?_)
                · first | exact absurd b67 (by decide) | exact absurd (by decide) b67
                · refine z_lc0 g dX3_integral_70 ?_
                  exact hret _ _ _ _ dX3_integral_71 ((igM_f (by unfold gdM pwP sd2; simp only [reduceIte, Bool.false_eq_true, if_pos b3, if_pos b7, if_pos b19, if_neg b23, if_neg b32, if_pos b36, if_pos b54, if_pos b67])).symm) ((by have h9 : gdM m p0 p1 p2 = false := (by unfold gdM pwP sd2; simp only [reduceIte, Bool.false_eq_true, if_pos b3, if_pos b7, if_pos b19, if_neg b23, if_neg b32, if_pos b36, if_pos b54, if_pos b67]); rw [igZ_f h9, h9]; rfl))
              · first | exact absurd b54 (by decide) | exact absurd (by decide) b54
            · refine z_iload_n g dX3_integral_39 4 rfl ?_
              refine z_ic2 g dX3_integral_40 ?_
              refine z_ic_ge g (tgt := 48) dX3_integral_41 (by decide) (fun b41 => ?_) (fun b41 => ?_)
              · refine z_ic0 g dX3_integral_48 ?_
                refine z_istore (lv' := [(5, .int _), (4, .int _), (0, .ref _), (1, .int _), (2, .int _), (3, .int _)]) g dX3_integral_49 (by decide) rfl ?_
                refine z_aload_n g dX3_integral_51 2 rfl ?_
                refine z_iload g dX3_integral_52 0 rfl ?_
                refine z_if_eq g (tgt := 61) dX3_integral_54 (by decide) (fun b54 => ?_) (fun b54 => ?_)
                · refine z_ic1 g dX3_integral_61 ?_
                  refine z_put (w' := [(_, .inr (3, [_, _, _, _, _, _, _, _, _, _, _, _, _, _, _, _])), _, _, _, _, _, _, _]) g hX3 tyX3 tyX3_ok nmX3 0 rfl rfl 0 (by decide) (mi 1 rfl) rfl rfl rfl (Nat.le_of_ble_eq_true rfl) dX3_integral_62 rfl ?_
                  refine z_iload g dX3_integral_65 0 rfl ?_
                  refine z_if_ne g (tgt := 72) dX3_integral_67 (by decide) (fun b67 => ?_) (fun b67 => ?_)
                  · first | exact absurd b67 (by decide) | exact absurd (by decide) b67
                  · refine z_lc0 g dX3_integral_70 ?_
                    exact hret _ _ _ _ dX3_integral_71 ((igM_f (by unfold gdM pwP sd2; simp only [reduceIte, Bool.false_eq_true, if_pos b3, if_pos b7, if_pos b19, if_neg b23, if_neg b32, if_neg b36, if_pos b41, if_pos b54, if_pos b67])).symm) ((by have h9 : gdM m p0 p1 p2 = false := (by unfold gdM pwP sd2; simp only [reduceIte, Bool.false_eq_true, if_pos b3, if_pos b7, if_pos b19, if_neg b23, if_neg b32, if_neg b36, if_pos b41, if_pos b54, if_pos b67]); rw [igZ_f h9, h9]; rfl))
                · first | exact absurd b54 (by decide) | exact absurd (by decide) b54
              · refine z_ic1 g dX3_integral_44 ?_
                refine z_goto g 49 dX3_integral_45 (by decide) ?_
                refine z_istore (lv' := [(5, .int _), (4, .int _), (0, .ref _), (1, .int _), (2, .int _), (3, .int _)]) g dX3_integral_49 (by decide) rfl ?_
                refine z_aload_n g dX3_integral_51 2 rfl ?_
                refine z_iload g dX3_integral_52 0 rfl ?_
                refine z_if_eq g (tgt := 61) dX3_integral_54 (by decide) (fun b54 => ?_) (fun b54 => ?_)
                · first | exact absurd b54 (by decide) | exact absurd (by decide) b54
                · refine z_ic0 g dX3_integral_57 ?_
                  refine z_goto g 62 dX3_integral_58 (by decide) ?_
                  refine z_put (w' := [(_, .inr (3, [_, _, _, _, _, _, _, _, _, _, _, _, _, _, _, _])), _, _, _, _, _, _, _]) g hX3 tyX3 tyX3_ok nmX3 0 rfl rfl 0 (by decide) (mi 1 rfl) rfl rfl rfl (Nat.le_of_ble_eq_true rfl) dX3_integral_62 rfl ?_
                  refine z_iload g dX3_integral_65 0 rfl ?_
                  refine z_if_ne g (tgt := 72) dX3_integral_67 (by decide) (fun b67 => ?_) (fun b67 => ?_)
                  · have hok : gdM m p0 p1 p2 = true := by unfold gdM pwP sd2; simp only [reduceIte, Bool.false_eq_true, if_pos b3, if_pos b7, if_pos b19, if_neg b23, if_neg b32, if_neg b36, if_neg b41, if_neg b54, if_neg b67]
                    refine z_aload_n g dX3_integral_72 2 rfl ?_
                    refine z_callVv (w' := [_, _, _, _, _, _, _, _]) (wr := [_, _, _]) g (k_X3_divide l G k _ _ _ _ _ _ _ _ _ _ _ _ _ _ _ _ _ _ _ _ _ (by assumption)) 0 gX3_integral_X3_divide rfl rfl rfl nd_X3_divide ⟨by decide, by decide⟩ 0 rfl rfl [0, 1, 2, 3, 5] [4, 6, 7] [3, 4, 5, 6, 0, 7, 1, 2] rfl rfl rfl rfl (by decide) rfl rfl rfl rfl (Nat.le_of_ble_eq_true rfl) dX3_integral_73 ⟨by decide, by decide⟩ ?_
                    refine z_iload g dX3_integral_76 1 rfl ?_
                    refine z_if_eq g (tgt := 108) dX3_integral_78 (by decide) (fun b78 => ?_) (fun b78 => ?_)
                    · have hpw : pwP p0 p1 = false := by unfold pwP; first | rw [if_pos b3, if_pos b7] | rw [if_neg b3]
                      obtain ⟨i1, i2, i3, i4⟩ := ig_ok hm b23 b32
                      refine z_aload_n g dX3_integral_108 2 rfl ?_
                      refine z_iload_n g dX3_integral_109 3 rfl ?_
                      refine z_iload_n g dX3_integral_110 4 rfl ?_
                      refine z_ic1 g dX3_integral_111 ?_
                      refine z_iadd g dX3_integral_112 ?_
                      refine z_callVv (w' := [_, _, _, _, _, _, _, _]) (wr := [_, _]) g (k_X3_work l G k _ _ _ _ _ _ _ _ _ _ _ _ _ _ _ _ _ _ _ _ _ _ _ _ _ hm i1 i2 i3 (hwg p0 i1 _ i4)) 2 gX3_integral_X3_work rfl rfl rfl nd_X3_work ⟨by decide, by decide⟩ 0 rfl rfl [0, 1, 4, 5, 6, 7] [2, 3] [2, 3, 0, 1, 4, 5, 6, 7] rfl rfl rfl rfl (by decide) rfl rfl rfl rfl (Nat.le_of_ble_eq_true rfl) dX3_integral_113 ⟨by decide, by decide⟩ ?_
                      refine z_iload g dX3_integral_116 1 rfl ?_
                      refine z_if_ne g (tgt := 141) dX3_integral_118 (by decide) (fun b118 => ?_) (fun b118 => ?_)
                      · first | exact absurd b118 (by decide) | exact absurd (by decide) b118
                      · refine z_iload_n g dX3_integral_121 4 rfl ?_
                        refine z_if_le g (tgt := 141) dX3_integral_122 (by decide) (fun b122 => ?_) (fun b122 => ?_)
                        · refine z_iload_n g dX3_integral_141 5 rfl ?_
                          refine z_if_ne g (tgt := 152) dX3_integral_142 (by decide) (fun b142 => ?_) (fun b142 => ?_)
                          · refine z_aload_n g dX3_integral_152 2 rfl ?_
                            refine z_get g hX3 0 rfl rfl 10 (by decide) (mi 4 rfl) rfl dX3_integral_153 ?_
                            exact hret _ _ _ _ dX3_integral_156 ((by rw [igM_t hok]; (first | rw [igZ_p hok hpw] | rw [igZ_n hok hpw]); simp only [igW, igq, wkS, reduceIte, if_pos b3, if_pos b7, if_pos b19, if_neg b23, if_neg b32, if_neg b36, if_neg b41, if_neg b54, if_neg b67, if_pos b78, if_pos b118, if_pos b122, if_neg b142])) ((by rw [hok]; (first | rw [igZ_p hok hpw] | rw [igZ_n hok hpw]); simp only [igW, igq, wkS, ftB, reduceIte, if_pos b3, if_pos b7, if_pos b19, if_neg b23, if_neg b32, if_neg b36, if_neg b41, if_neg b54, if_neg b67, if_pos b78, if_pos b118, if_pos b122, if_neg b142]))
                          · refine z_aload_n g dX3_integral_145 2 rfl ?_
                            refine z_get g hX3 0 rfl rfl 9 (by decide) (mi 3 rfl) rfl dX3_integral_146 ?_
                            refine z_goto g 156 dX3_integral_149 (by decide) ?_
                            exact hret _ _ _ _ dX3_integral_156 ((by rw [igM_t hok]; (first | rw [igZ_p hok hpw] | rw [igZ_n hok hpw]); simp only [igW, igq, wkS, reduceIte, if_pos b3, if_pos b7, if_pos b19, if_neg b23, if_neg b32, if_neg b36, if_neg b41, if_neg b54, if_neg b67, if_pos b78, if_pos b118, if_pos b122, if_pos b142])) ((by rw [hok]; (first | rw [igZ_p hok hpw] | rw [igZ_n hok hpw]); simp only [igW, igq, wkS, ftB, reduceIte, if_pos b3, if_pos b7, if_pos b19, if_neg b23, if_neg b32, if_neg b36, if_neg b41, if_neg b54, if_neg b67, if_pos b78, if_pos b118, if_pos b122, if_pos b142]))
                        · exact absurd b7 b122
                    · first | exact absurd b78 (by decide) | exact absurd (by decide) b78
                  · first | exact absurd b67 (by decide) | exact absurd (by decide) b67
    · refine z_ic1 g dX3_integral_10 ?_
      refine z_goto g 15 dX3_integral_11 (by decide) ?_
      refine z_istore (lv' := [(4, .int _), (0, .ref _), (1, .int _), (2, .int _), (3, .int _)]) g dX3_integral_15 (by decide) rfl ?_
      refine z_iload g dX3_integral_17 0 rfl ?_
      refine z_if_ne g (tgt := 35) dX3_integral_19 (by decide) (fun b19 => ?_) (fun b19 => ?_)
      · refine z_iload_n g dX3_integral_35 4 rfl ?_
        refine z_if_lt g (tgt := 48) dX3_integral_36 (by decide) (fun b36 => ?_) (fun b36 => ?_)
        · refine z_ic0 g dX3_integral_48 ?_
          refine z_istore (lv' := [(5, .int _), (4, .int _), (0, .ref _), (1, .int _), (2, .int _), (3, .int _)]) g dX3_integral_49 (by decide) rfl ?_
          refine z_aload_n g dX3_integral_51 2 rfl ?_
          refine z_iload g dX3_integral_52 0 rfl ?_
          refine z_if_eq g (tgt := 61) dX3_integral_54 (by decide) (fun b54 => ?_) (fun b54 => ?_)
          · refine z_ic1 g dX3_integral_61 ?_
            refine z_put (w' := [(_, .inr (3, [_, _, _, _, _, _, _, _, _, _, _, _, _, _, _, _])), _, _, _, _, _, _, _]) g hX3 tyX3 tyX3_ok nmX3 0 rfl rfl 0 (by decide) (mi 1 rfl) rfl rfl rfl (Nat.le_of_ble_eq_true rfl) dX3_integral_62 rfl ?_
            refine z_iload g dX3_integral_65 0 rfl ?_
            refine z_if_ne g (tgt := 72) dX3_integral_67 (by decide) (fun b67 => ?_) (fun b67 => ?_)
            · first | exact absurd b67 (by decide) | exact absurd (by decide) b67
            · refine z_lc0 g dX3_integral_70 ?_
              exact hret _ _ _ _ dX3_integral_71 ((igM_f (by unfold gdM pwP sd2; simp only [reduceIte, Bool.false_eq_true, if_pos b3, if_neg b7, if_neg b19, if_pos b36, if_pos b54, if_pos b67])).symm) ((by have h9 : gdM m p0 p1 p2 = false := (by unfold gdM pwP sd2; simp only [reduceIte, Bool.false_eq_true, if_pos b3, if_neg b7, if_neg b19, if_pos b36, if_pos b54, if_pos b67]); rw [igZ_f h9, h9]; rfl))
          · first | exact absurd b54 (by decide) | exact absurd (by decide) b54
        · refine z_iload_n g dX3_integral_39 4 rfl ?_
          refine z_ic2 g dX3_integral_40 ?_
          refine z_ic_ge g (tgt := 48) dX3_integral_41 (by decide) (fun b41 => ?_) (fun b41 => ?_)
          · refine z_ic0 g dX3_integral_48 ?_
            refine z_istore (lv' := [(5, .int _), (4, .int _), (0, .ref _), (1, .int _), (2, .int _), (3, .int _)]) g dX3_integral_49 (by decide) rfl ?_
            refine z_aload_n g dX3_integral_51 2 rfl ?_
            refine z_iload g dX3_integral_52 0 rfl ?_
            refine z_if_eq g (tgt := 61) dX3_integral_54 (by decide) (fun b54 => ?_) (fun b54 => ?_)
            · refine z_ic1 g dX3_integral_61 ?_
              refine z_put (w' := [(_, .inr (3, [_, _, _, _, _, _, _, _, _, _, _, _, _, _, _, _])), _, _, _, _, _, _, _]) g hX3 tyX3 tyX3_ok nmX3 0 rfl rfl 0 (by decide) (mi 1 rfl) rfl rfl rfl (Nat.le_of_ble_eq_true rfl) dX3_integral_62 rfl ?_
              refine z_iload g dX3_integral_65 0 rfl ?_
              refine z_if_ne g (tgt := 72) dX3_integral_67 (by decide) (fun b67 => ?_) (fun b67 => ?_)
              · first | exact absurd b67 (by decide) | exact absurd (by decide) b67
              · refine z_lc0 g dX3_integral_70 ?_
                exact hret _ _ _ _ dX3_integral_71 ((igM_f (by unfold gdM pwP sd2; simp only [reduceIte, Bool.false_eq_true, if_pos b3, if_neg b7, if_neg b19, if_neg b36, if_pos b41, if_pos b54, if_pos b67])).symm) ((by have h9 : gdM m p0 p1 p2 = false := (by unfold gdM pwP sd2; simp only [reduceIte, Bool.false_eq_true, if_pos b3, if_neg b7, if_neg b19, if_neg b36, if_pos b41, if_pos b54, if_pos b67]); rw [igZ_f h9, h9]; rfl))
            · first | exact absurd b54 (by decide) | exact absurd (by decide) b54
          · refine z_ic1 g dX3_integral_44 ?_
            refine z_goto g 49 dX3_integral_45 (by decide) ?_
            refine z_istore (lv' := [(5, .int _), (4, .int _), (0, .ref _), (1, .int _), (2, .int _), (3, .int _)]) g dX3_integral_49 (by decide) rfl ?_
            refine z_aload_n g dX3_integral_51 2 rfl ?_
            refine z_iload g dX3_integral_52 0 rfl ?_
            refine z_if_eq g (tgt := 61) dX3_integral_54 (by decide) (fun b54 => ?_) (fun b54 => ?_)
            · first | exact absurd b54 (by decide) | exact absurd (by decide) b54
            · refine z_ic0 g dX3_integral_57 ?_
              refine z_goto g 62 dX3_integral_58 (by decide) ?_
              refine z_put (w' := [(_, .inr (3, [_, _, _, _, _, _, _, _, _, _, _, _, _, _, _, _])), _, _, _, _, _, _, _]) g hX3 tyX3 tyX3_ok nmX3 0 rfl rfl 0 (by decide) (mi 1 rfl) rfl rfl rfl (Nat.le_of_ble_eq_true rfl) dX3_integral_62 rfl ?_
              refine z_iload g dX3_integral_65 0 rfl ?_
              refine z_if_ne g (tgt := 72) dX3_integral_67 (by decide) (fun b67 => ?_) (fun b67 => ?_)
              · have hok : gdM m p0 p1 p2 = true := by unfold gdM pwP sd2; simp only [reduceIte, Bool.false_eq_true, if_pos b3, if_neg b7, if_neg b19, if_neg b36, if_neg b41, if_neg b54, if_neg b67]
                refine z_aload_n g dX3_integral_72 2 rfl ?_
                refine z_callVv (w' := [_, _, _, _, _, _, _, _]) (wr := [_, _, _]) g (k_X3_divide l G k _ _ _ _ _ _ _ _ _ _ _ _ _ _ _ _ _ _ _ _ _ (by assumption)) 0 gX3_integral_X3_divide rfl rfl rfl nd_X3_divide ⟨by decide, by decide⟩ 0 rfl rfl [0, 1, 2, 3, 5] [4, 6, 7] [3, 4, 5, 6, 0, 7, 1, 2] rfl rfl rfl rfl (by decide) rfl rfl rfl rfl (Nat.le_of_ble_eq_true rfl) dX3_integral_73 ⟨by decide, by decide⟩ ?_
                refine z_iload g dX3_integral_76 1 rfl ?_
                refine z_if_eq g (tgt := 108) dX3_integral_78 (by decide) (fun b78 => ?_) (fun b78 => ?_)
                · first | exact absurd b78 (by decide) | exact absurd (by decide) b78
                · have hpw : pwP p0 p1 = true := by unfold pwP; rw [if_pos b3, if_neg b7]
                  refine z_aload_n g dX3_integral_81 2 rfl ?_
                  refine z_iload_n g dX3_integral_82 4 rfl ?_
                  refine z_bi g 8 dX3_integral_83 (by decide) ?_
                  refine z_ic_ge g (tgt := 99) dX3_integral_85 (by decide) (fun b85 => ?_) (fun b85 => ?_)
                  · refine z_lc0 g dX3_integral_99 ?_
                    refine z_iload_n g dX3_integral_100 4 rfl ?_
                    refine z_i2l g dX3_integral_101 ?_
                    refine z_callVv (w' := [_, _, _, _, _, _, _, _]) (wr := [_, _, _, _, _, _, _]) g (k_X3_tell l G k _ _ _ _ _ _ _ _ _ _ _ _ _ _ _ _ _ _ _ (by have h9 := hz.1 hpw; unfold igq at h9; first | (rw [if_pos b85] at h9; exact h9) | (rw [if_neg b85] at h9; exact h9))) 2 gX3_integral_X3_tell rfl rfl rfl nd_X3_tell ⟨by decide, by decide⟩ 0 rfl rfl [0] [1, 2, 3, 4, 5, 6, 7] [7, 0, 1, 2, 3, 4, 5, 6] rfl rfl rfl rfl (by decide) rfl rfl rfl rfl (Nat.le_of_ble_eq_true rfl) dX3_integral_102 ⟨by decide, by decide⟩ ?_
                    refine z_goto g 116 dX3_integral_105 (by decide) ?_
                    refine z_iload g dX3_integral_116 1 rfl ?_
                    refine z_if_ne g (tgt := 141) dX3_integral_118 (by decide) (fun b118 => ?_) (fun b118 => ?_)
                    · refine z_iload_n g dX3_integral_141 5 rfl ?_
                      refine z_if_ne g (tgt := 152) dX3_integral_142 (by decide) (fun b142 => ?_) (fun b142 => ?_)
                      · refine z_aload_n g dX3_integral_152 2 rfl ?_
                        refine z_get g hX3 0 rfl rfl 10 (by decide) (mi 4 rfl) rfl dX3_integral_153 ?_
                        exact hret _ _ _ _ dX3_integral_156 ((by rw [igM_t hok]; (first | rw [igZ_p hok hpw] | rw [igZ_n hok hpw]); simp only [igW, igq, wkS, reduceIte, if_pos b3, if_neg b7, if_neg b19, if_neg b36, if_neg b41, if_neg b54, if_neg b67, if_neg b78, if_pos b85, if_neg b118, if_neg b142])) ((by rw [hok]; (first | rw [igZ_p hok hpw] | rw [igZ_n hok hpw]); simp only [igW, igq, wkS, ftB, reduceIte, if_pos b3, if_neg b7, if_neg b19, if_neg b36, if_neg b41, if_neg b54, if_neg b67, if_neg b78, if_pos b85, if_neg b118, if_neg b142]))
                      · refine z_aload_n g dX3_integral_145 2 rfl ?_
                        refine z_get g hX3 0 rfl rfl 9 (by decide) (mi 3 rfl) rfl dX3_integral_146 ?_
                        refine z_goto g 156 dX3_integral_149 (by decide) ?_
                        exact hret _ _ _ _ dX3_integral_156 ((by rw [igM_t hok]; (first | rw [igZ_p hok hpw] | rw [igZ_n hok hpw]); simp only [igW, igq, wkS, reduceIte, if_pos b3, if_neg b7, if_neg b19, if_neg b36, if_neg b41, if_neg b54, if_neg b67, if_neg b78, if_pos b85, if_neg b118, if_pos b142])) ((by rw [hok]; (first | rw [igZ_p hok hpw] | rw [igZ_n hok hpw]); simp only [igW, igq, wkS, ftB, reduceIte, if_pos b3, if_neg b7, if_neg b19, if_neg b36, if_neg b41, if_neg b54, if_neg b67, if_neg b78, if_pos b85, if_neg b118, if_pos b142]))
                    · first | exact absurd b118 (by decide) | exact absurd (by decide) b118
                  · refine z_aload_n g dX3_integral_88 2 rfl ?_
                    refine z_get g hX3 0 rfl rfl 5 (by decide) (mi 2 rfl) rfl dX3_integral_89 ?_
                    refine z_iload_n g dX3_integral_92 4 rfl ?_
                    refine z_ic1 g dX3_integral_93 ?_
                    refine z_isub g dX3_integral_94 ?_
                    refine z_lald g 3 rfl (p1 - 1).toNatClampNeg (ixq b7 b85).1 (ixq b7 b85).2 (by decide) dX3_integral_95 ?_
                    refine z_goto g 100 dX3_integral_96 (by decide) ?_
                    refine z_iload_n g dX3_integral_100 4 rfl ?_
                    refine z_i2l g dX3_integral_101 ?_
                    refine z_callVv (w' := [_, _, _, _, _, _, _, _]) (wr := [_, _, _, _, _, _, _]) g (k_X3_tell l G k _ _ _ _ _ _ _ _ _ _ _ _ _ _ _ _ _ _ _ (by have h9 := hz.1 hpw; unfold igq at h9; first | (rw [if_pos b85] at h9; exact h9) | (rw [if_neg b85] at h9; exact h9))) 2 gX3_integral_X3_tell rfl rfl rfl nd_X3_tell ⟨by decide, by decide⟩ 0 rfl rfl [0] [1, 2, 3, 4, 5, 6, 7] [7, 0, 1, 2, 3, 4, 5, 6] rfl rfl rfl rfl (by decide) rfl rfl rfl rfl (Nat.le_of_ble_eq_true rfl) dX3_integral_102 ⟨by decide, by decide⟩ ?_
                    refine z_goto g 116 dX3_integral_105 (by decide) ?_
                    refine z_iload g dX3_integral_116 1 rfl ?_
                    refine z_if_ne g (tgt := 141) dX3_integral_118 (by decide) (fun b118 => ?_) (fun b118 => ?_)
                    · refine z_iload_n g dX3_integral_141 5 rfl ?_
                      refine z_if_ne g (tgt := 152) dX3_integral_142 (by decide) (fun b142 => ?_) (fun b142 => ?_)
                      · refine z_aload_n g dX3_integral_152 2 rfl ?_
                        refine z_get g hX3 0 rfl rfl 10 (by decide) (mi 4 rfl) rfl dX3_integral_153 ?_
                        exact hret _ _ _ _ dX3_integral_156 ((by rw [igM_t hok]; (first | rw [igZ_p hok hpw] | rw [igZ_n hok hpw]); simp only [igW, igq, wkS, reduceIte, if_pos b3, if_neg b7, if_neg b19, if_neg b36, if_neg b41, if_neg b54, if_neg b67, if_neg b78, if_neg b85, if_neg b118, if_neg b142])) ((by rw [hok]; (first | rw [igZ_p hok hpw] | rw [igZ_n hok hpw]); simp only [igW, igq, wkS, ftB, reduceIte, if_pos b3, if_neg b7, if_neg b19, if_neg b36, if_neg b41, if_neg b54, if_neg b67, if_neg b78, if_neg b85, if_neg b118, if_neg b142]))
                      · refine z_aload_n g dX3_integral_145 2 rfl ?_
                        refine z_get g hX3 0 rfl rfl 9 (by decide) (mi 3 rfl) rfl dX3_integral_146 ?_
                        refine z_goto g 156 dX3_integral_149 (by decide) ?_
                        exact hret _ _ _ _ dX3_integral_156 ((by rw [igM_t hok]; (first | rw [igZ_p hok hpw] | rw [igZ_n hok hpw]); simp only [igW, igq, wkS, reduceIte, if_pos b3, if_neg b7, if_neg b19, if_neg b36, if_neg b41, if_neg b54, if_neg b67, if_neg b78, if_neg b85, if_neg b118, if_pos b142])) ((by rw [hok]; (first | rw [igZ_p hok hpw] | rw [igZ_n hok hpw]); simp only [igW, igq, wkS, ftB, reduceIte, if_pos b3, if_neg b7, if_neg b19, if_neg b36, if_neg b41, if_neg b54, if_neg b67, if_neg b78, if_neg b85, if_neg b118, if_pos b142]))
                    · first | exact absurd b118 (by decide) | exact absurd (by decide) b118
              · first | exact absurd b67 (by decide) | exact absurd (by decide) b67
      · first | exact absurd b19 (by decide) | exact absurd (by decide) b19
theorem nd_X3_integral : yX3_integral.cls = RX3 ∧ yX3_integral.cls ≠ "java/lang/invoke/MethodHandle" ∧ yX3_integral.cls ≠ "java/lang/invoke/VarHandle" ∧ (parseMethodDescriptor yX3_integral.desc).map (fun d => d.parameters.length) = some 3 := by decide +kernel
set_option maxHeartbeats 4000000 in
set_option maxRecDepth 100000 in
/-- valueOf(p, most, t) -/
theorem k_X3_valueOf (l : Launch) (G : va_G) (k : Nat → ClassId) (h0 n mst : Nat) (f : Nat → Int64) (p0 : Int64) (hn : n < 2 ^ 31) (hmst : mst < n) : ∀ sz, Met l yX3_valueOf wsX3_valueOf ({ frames := 0, cells := 0, slots := 0, locals := 0 }) (va_Pc [.ref h0, .int (nI mst), .long p0] (KP G k [(h0, .inl (k 2, n, .inr (.inl f)))] sz)) (va_Ql (fun r (_ : Unit) => r = hxP f p0 mst (mst + 1)) (KQ G [(h0, .inl (k 2, n, .inr (.inl f)))] (va_A [(h0, .inl (k 2, n, .inr (.inl f)))] sz)) (va_A [(h0, .inl (k 2, n, .inr (.inl f)))] sz)) 0 0 (va_A [(h0, .inl (k 2, n, .inr (.inl f)))] sz) := by
  refine met_l 0 0 (lv0 := [(0, .ref h0), (1, .int (nI mst)), (2, .long p0)]) (own := RX3) (by decide) rfl rfl (Nat.le_of_ble_eq_true rfl) rfl (fun Z g hret => ?_)
  refine z_lc0 g dX3_valueOf_0 ?_
  refine z_lstore (lv' := [(4, .long _), (0, .ref _), (1, .int _), (2, .long _)]) g dX3_valueOf_1 (by decide) rfl ?_
  refine z_iload_n g dX3_valueOf_3 2 rfl ?_
  refine z_istore (lv' := [(6, .int _), (4, .long _), (0, .ref _), (1, .int _), (2, .long _)]) g dX3_valueOf_4 (by decide) rfl ?_
  have cut_6 : ∀ (N6 : Nat) (j : Nat) (x : Int32) (c : Int64), j < N6 → (j ≤ mst + 1) → (x = nI j - 1) → (c = hxP f p0 mst (mst + 1 - j)) → Z 0 0 [(h0, .inl (k 2, n, .inr (.inl f)))] [(0, .ref h0), (2, .long p0), (4, .long c), (6, .int x)] 6 [] := by
    intro N6
    induction N6 with
    | zero => intro j x c hms; exact absurd hms (Nat.not_lt_zero _)
    | succ N6 ih6 =>
      intro j x c hms6 hj hx hc
      refine z_iload g dX3_valueOf_6 3 rfl ?_
      refine z_if_lt g (tgt := 28) dX3_valueOf_8 (by decide) (fun b8 => ?_) (fun b8 => ?_)
      · rw [hx] at b8
        obtain rfl := nIm_neg b8 (by omega)
        refine z_lload g dX3_valueOf_28 2 rfl ?_
        exact hret _ _ _ _ dX3_valueOf_30 (hc) (rfl)
      · rw [hx] at b8
        obtain ⟨j, rfl⟩ := nIm_pos b8
        have hx2 : x = nI j := by rw [hx, nI_pred]
        refine z_lload g dX3_valueOf_11 2 rfl ?_
        refine z_lload_n g dX3_valueOf_13 1 rfl ?_
        refine z_lmul g dX3_valueOf_14 ?_
        refine z_aload_n g dX3_valueOf_15 0 rfl ?_
        refine z_iload g dX3_valueOf_16 3 rfl ?_
        refine z_lald g 0 rfl j hx2 (by omega) (by assumption) dX3_valueOf_18 ?_
        refine z_ladd g dX3_valueOf_19 ?_
        refine z_lstore (lv' := [(4, .long _), (0, .ref _), (2, .long _), (6, .int _)]) g dX3_valueOf_20 (by decide) rfl ?_
        refine z_iinc (lv' := [(6, .int _), (4, .long _), (0, .ref _), (2, .long _)]) g (nI j - 1) dX3_valueOf_22 3 rfl (by rw [hx2, Int32.sub_eq_add_neg]; rfl) (by decide) rfl ?_
        refine z_goto g 6 dX3_valueOf_25 (by decide) ?_
        refine z_locs (lv' := [(0, .ref _), (2, .long _), (4, .long _), (6, .int _)]) g [2, 3, 1, 0] rfl ?_
        exact ih6 j _ _ (by omega) (by omega) rfl (by rw [show mst + 1 - j = (mst + 1 - (j + 1)) + 1 by omega]; show _ = hxP f p0 mst (mst + 1 - (j + 1)) * p0 + f (mst - (mst + 1 - (j + 1))); rw [← hc, show mst - (mst + 1 - (j + 1)) = j by omega])
  refine z_locs (lv' := [(0, .ref _), (2, .long _), (4, .long _), (6, .int _)]) g [2, 4, 1, 0] rfl ?_
  exact cut_6 _ (mst + 1) _ _ (Nat.lt_succ_self _) (Nat.le_refl _) (nI_pred mst).symm (by rw [Nat.sub_self]; rfl)
theorem nd_X3_valueOf : yX3_valueOf.cls ≠ "java/lang/invoke/MethodHandle" ∧ yX3_valueOf.cls ≠ "java/lang/invoke/VarHandle" ∧ (parseMethodDescriptor yX3_valueOf.desc).map (fun d => d.parameters.length) = some 3 := by decide +kernel
set_option maxHeartbeats 4000000 in
set_option maxRecDepth 100000 in
/-- value(t, w) -/
theorem k_X3_value (l : Launch) (G : va_G) (k : Nat → ClassId) (h0 e1 e3 e4 e5 e7 e8 e11 e12 e13 e14 : Nat) (ft : Int32) (n dg i : Nat) (ov un : Int64) (m : Nat → Nat) (F Lo : Nat → Int64) (p0 p1 : Int32) (hz : vmOK m p0 p1 = true → ¬ cgP (hxP F p0.toInt64 6 7) (hxP Lo p0.toInt64 5 6) = 0) : ∀ sz, Met l yX3_value wsX3_value ({ frames := 1, cells := 0, slots := 0, locals := 30 }) (va_Pc [.ref h0, .int p0, .int p1] (KP G k [(h0, .inr (3, [.int ft, .ref e1, .int (nI n), .ref e3, .ref e4, .ref e5, .int (nI dg), .ref e7, .ref e8, .long ov, .long un, .ref e11, .ref e12, .ref e13, .ref e14, .int (nI i)])), (e3, .inl (k 2, 7, .inr (.inl F))), (e4, .inl (k 2, 6, .inr (.inl Lo))), (e7, .inl (k 1, 7, .inl (fun j => nI (m j))))] sz)) (va_Ql (fun r (_ : Unit) => r = if vmOK m p0 p1 then (if p1 = 0 then vmO F Lo p0 else vmU F Lo p0) else 0) (KQ G [(h0, .inr (3, [.int (ftB (vmOK m p0 p1)), .ref e1, .int (nI n), .ref e3, .ref e4, .ref e5, .int (nI dg), .ref e7, .ref e8, .long (if vmOK m p0 p1 then vmO F Lo p0 else ov), .long (if vmOK m p0 p1 then vmU F Lo p0 else un), .ref e11, .ref e12, .ref e13, .ref e14, .int (nI i)])), (e3, .inl (k 2, 7, .inr (.inl F))), (e4, .inl (k 2, 6, .inr (.inl Lo))), (e7, .inl (k 1, 7, .inl (fun j => nI (m j))))] (va_A [(h0, .inr (3, [.int ft, .ref e1, .int (nI n), .ref e3, .ref e4, .ref e5, .int (nI dg), .ref e7, .ref e8, .long ov, .long un, .ref e11, .ref e12, .ref e13, .ref e14, .int (nI i)])), (e3, .inl (k 2, 7, .inr (.inl F))), (e4, .inl (k 2, 6, .inr (.inl Lo))), (e7, .inl (k 1, 7, .inl (fun j => nI (m j))))] sz)) (va_A [(h0, .inr (3, [.int ft, .ref e1, .int (nI n), .ref e3, .ref e4, .ref e5, .int (nI dg), .ref e7, .ref e8, .long ov, .long un, .ref e11, .ref e12, .ref e13, .ref e14, .int (nI i)])), (e3, .inl (k 2, 7, .inr (.inl F))), (e4, .inl (k 2, 6, .inr (.inl Lo))), (e7, .inl (k 1, 7, .inl (fun j => nI (m j))))] sz)) 0 0 (va_A [(h0, .inr (3, [.int ft, .ref e1, .int (nI n), .ref e3, .ref e4, .ref e5, .int (nI dg), .ref e7, .ref e8, .long ov, .long un, .ref e11, .ref e12, .ref e13, .ref e14, .int (nI i)])), (e3, .inl (k 2, 7, .inr (.inl F))), (e4, .inl (k 2, 6, .inr (.inl Lo))), (e7, .inl (k 1, 7, .inl (fun j => nI (m j))))] sz) := by
  refine met_l 0 0 (lv0 := [(0, .ref h0), (1, .int p0), (2, .int p1)]) (own := RX3) (by decide) rfl rfl (Nat.le_of_ble_eq_true rfl) rfl (fun Z g hret => ?_)
  have hX3 : ∀ w ∈ u_ws RX3 TX3 16, w ∈ wsX3_value := fun w h => List.mem_cons_of_mem _ (List.mem_append_right _ (h))
  refine z_iload_n g dX3_value_0 1 rfl ?_
  refine z_bi g (-20) dX3_value_1 (by decide) ?_
  refine z_ic_lt g (tgt := 33) dX3_value_3 (by decide) (fun b3 => ?_) (fun b3 => ?_)
  · refine z_ic0 g dX3_value_33 ?_
    refine z_istore_n (lv' := [(3, .int _), (0, .ref _), (1, .int _), (2, .int _)]) g dX3_value_34 (by decide) rfl ?_
    refine z_aload_n g dX3_value_35 1 rfl ?_
    refine z_iload_n g dX3_value_36 0 rfl ?_
    refine z_if_eq g (tgt := 44) dX3_value_37 (by decide) (fun b37 => ?_) (fun b37 => ?_)
    · refine z_ic1 g dX3_value_44 ?_
      refine z_put (w' := [(_, .inr (3, [_, _, _, _, _, _, _, _, _, _, _, _, _, _, _, _])), _, _, _]) g hX3 tyX3 tyX3_ok nmX3 0 rfl rfl 0 (by decide) (mi 1 rfl) rfl rfl rfl (Nat.le_of_ble_eq_true rfl) dX3_value_45 rfl ?_
      refine z_iload_n g dX3_value_48 0 rfl ?_
      refine z_if_ne g (tgt := 54) dX3_value_49 (by decide) (fun b49 => ?_) (fun b49 => ?_)
      · first | exact absurd b49 (by decide) | exact absurd (by decide) b49
      · refine z_lc0 g dX3_value_52 ?_
        exact hret _ _ _ _ dX3_value_53 ((by first | (rw [if_pos hok, if_pos b80]; rfl) | (rw [if_pos hok, if_neg b80]; rfl) | (unfold vmOK sd2; simp only [reduceIte, if_pos b3, if_pos b37, if_pos b49, Bool.false_eq_true]))) ((by first | (unfold ftB; rw [if_pos hok, if_pos hok, if_pos hok]; rfl) | (unfold ftB vmOK sd2; simp only [reduceIte, if_pos b3, if_pos b37, if_pos b49, Bool.false_eq_true])))
    · first | exact absurd b37 (by decide) | exact absurd (by decide) b37
  · refine z_iload_n g dX3_value_6 1 rfl ?_
    refine z_bi g 20 dX3_value_7 (by decide) ?_
    refine z_ic_gt g (tgt := 33) dX3_value_9 (by decide) (fun b9 => ?_) (fun b9 => ?_)
    · refine z_ic0 g dX3_value_33 ?_
      refine z_istore_n (lv' := [(3, .int _), (0, .ref _), (1, .int _), (2, .int _)]) g dX3_value_34 (by decide) rfl ?_
      refine z_aload_n g dX3_value_35 1 rfl ?_
      refine z_iload_n g dX3_value_36 0 rfl ?_
      refine z_if_eq g (tgt := 44) dX3_value_37 (by decide) (fun b37 => ?_) (fun b37 => ?_)
      · refine z_ic1 g dX3_value_44 ?_
        refine z_put (w' := [(_, .inr (3, [_, _, _, _, _, _, _, _, _, _, _, _, _, _, _, _])), _, _, _]) g hX3 tyX3 tyX3_ok nmX3 0 rfl rfl 0 (by decide) (mi 1 rfl) rfl rfl rfl (Nat.le_of_ble_eq_true rfl) dX3_value_45 rfl ?_
        refine z_iload_n g dX3_value_48 0 rfl ?_
        refine z_if_ne g (tgt := 54) dX3_value_49 (by decide) (fun b49 => ?_) (fun b49 => ?_)
        · first | exact absurd b49 (by decide) | exact absurd (by decide) b49
        · refine z_lc0 g dX3_value_52 ?_
          exact hret _ _ _ _ dX3_value_53 ((by first | (rw [if_pos hok, if_pos b80]; rfl) | (rw [if_pos hok, if_neg b80]; rfl) | (unfold vmOK sd2; simp only [reduceIte, if_neg b3, if_pos b9, if_pos b37, if_pos b49, Bool.false_eq_true]))) ((by first | (unfold ftB; rw [if_pos hok, if_pos hok, if_pos hok]; rfl) | (unfold ftB vmOK sd2; simp only [reduceIte, if_neg b3, if_pos b9, if_pos b37, if_pos b49, Bool.false_eq_true])))
      · first | exact absurd b37 (by decide) | exact absurd (by decide) b37
    · refine z_aload_n g dX3_value_12 0 rfl ?_
      refine z_iload_n g dX3_value_13 1 rfl ?_
      refine z_callVi (w' := [_, _, _, _]) (wr := [_, _]) g (k_X3_many l G k _ _ _ _ _ _ _ _ _ _ _ _ _ _ _ _ _ _ _) 1 gX3_value_X3_many rfl rfl rfl nd_X3_many ⟨by decide, by decide⟩ 0 rfl rfl [0, 3] [1, 2] [2, 0, 1, 3] rfl rfl rfl rfl (by decide) rfl rfl rfl rfl (Nat.le_of_ble_eq_true rfl) dX3_value_14 ⟨by decide, by decide⟩ ?_
      refine z_if_ne g (tgt := 33) dX3_value_17 (by decide) (fun b17 => ?_) (fun b17 => ?_)
      · refine z_ic0 g dX3_value_33 ?_
        refine z_istore_n (lv' := [(3, .int _), (0, .ref _), (1, .int _), (2, .int _)]) g dX3_value_34 (by decide) rfl ?_
        refine z_aload_n g dX3_value_35 1 rfl ?_
        refine z_iload_n g dX3_value_36 0 rfl ?_
        refine z_if_eq g (tgt := 44) dX3_value_37 (by decide) (fun b37 => ?_) (fun b37 => ?_)
        · refine z_ic1 g dX3_value_44 ?_
          refine z_put (w' := [(_, .inr (3, [_, _, _, _, _, _, _, _, _, _, _, _, _, _, _, _])), _, _, _]) g hX3 tyX3 tyX3_ok nmX3 0 rfl rfl 0 (by decide) (mi 1 rfl) rfl rfl rfl (Nat.le_of_ble_eq_true rfl) dX3_value_45 rfl ?_
          refine z_iload_n g dX3_value_48 0 rfl ?_
          refine z_if_ne g (tgt := 54) dX3_value_49 (by decide) (fun b49 => ?_) (fun b49 => ?_)
          · first | exact absurd b49 (by decide) | exact absurd (by decide) b49
          · refine z_lc0 g dX3_value_52 ?_
            exact hret _ _ _ _ dX3_value_53 ((by first | (rw [if_pos hok, if_pos b80]; rfl) | (rw [if_pos hok, if_neg b80]; rfl) | (unfold vmOK sd2; simp only [reduceIte, if_neg b3, if_neg b9, if_neg b17, if_pos b37, if_pos b49, Bool.false_eq_true]))) ((by first | (unfold ftB; rw [if_pos hok, if_pos hok, if_pos hok]; rfl) | (unfold ftB vmOK sd2; simp only [reduceIte, if_neg b3, if_neg b9, if_neg b17, if_pos b37, if_pos b49, Bool.false_eq_true])))
        · first | exact absurd b37 (by decide) | exact absurd (by decide) b37
      · refine z_iload_n g dX3_value_20 2 rfl ?_
        refine z_if_lt g (tgt := 33) dX3_value_21 (by decide) (fun b21 => ?_) (fun b21 => ?_)
        · refine z_ic0 g dX3_value_33 ?_
          refine z_istore_n (lv' := [(3, .int _), (0, .ref _), (1, .int _), (2, .int _)]) g dX3_value_34 (by decide) rfl ?_
          refine z_aload_n g dX3_value_35 1 rfl ?_
          refine z_iload_n g dX3_value_36 0 rfl ?_
          refine z_if_eq g (tgt := 44) dX3_value_37 (by decide) (fun b37 => ?_) (fun b37 => ?_)
          · refine z_ic1 g dX3_value_44 ?_
            refine z_put (w' := [(_, .inr (3, [_, _, _, _, _, _, _, _, _, _, _, _, _, _, _, _])), _, _, _]) g hX3 tyX3 tyX3_ok nmX3 0 rfl rfl 0 (by decide) (mi 1 rfl) rfl rfl rfl (Nat.le_of_ble_eq_true rfl) dX3_value_45 rfl ?_
            refine z_iload_n g dX3_value_48 0 rfl ?_
            refine z_if_ne g (tgt := 54) dX3_value_49 (by decide) (fun b49 => ?_) (fun b49 => ?_)
            · first | exact absurd b49 (by decide) | exact absurd (by decide) b49
            · refine z_lc0 g dX3_value_52 ?_
              exact hret _ _ _ _ dX3_value_53 ((by first | (rw [if_pos hok, if_pos b80]; rfl) | (rw [if_pos hok, if_neg b80]; rfl) | (unfold vmOK sd2; simp only [reduceIte, if_neg b3, if_neg b9, if_pos b17, if_pos b21, if_pos b37, if_pos b49, Bool.false_eq_true]))) ((by first | (unfold ftB; rw [if_pos hok, if_pos hok, if_pos hok]; rfl) | (unfold ftB vmOK sd2; simp only [reduceIte, if_neg b3, if_neg b9, if_pos b17, if_pos b21, if_pos b37, if_pos b49, Bool.false_eq_true])))
          · first | exact absurd b37 (by decide) | exact absurd (by decide) b37
        · refine z_iload_n g dX3_value_24 2 rfl ?_
          refine z_ic2 g dX3_value_25 ?_
          refine z_ic_ge g (tgt := 33) dX3_value_26 (by decide) (fun b26 => ?_) (fun b26 => ?_)
          · refine z_ic0 g dX3_value_33 ?_
            refine z_istore_n (lv' := [(3, .int _), (0, .ref _), (1, .int _), (2, .int _)]) g dX3_value_34 (by decide) rfl ?_
            refine z_aload_n g dX3_value_35 1 rfl ?_
            refine z_iload_n g dX3_value_36 0 rfl ?_
            refine z_if_eq g (tgt := 44) dX3_value_37 (by decide) (fun b37 => ?_) (fun b37 => ?_)
            · refine z_ic1 g dX3_value_44 ?_
              refine z_put (w' := [(_, .inr (3, [_, _, _, _, _, _, _, _, _, _, _, _, _, _, _, _])), _, _, _]) g hX3 tyX3 tyX3_ok nmX3 0 rfl rfl 0 (by decide) (mi 1 rfl) rfl rfl rfl (Nat.le_of_ble_eq_true rfl) dX3_value_45 rfl ?_
              refine z_iload_n g dX3_value_48 0 rfl ?_
              refine z_if_ne g (tgt := 54) dX3_value_49 (by decide) (fun b49 => ?_) (fun b49 => ?_)
              · first | exact absurd b49 (by decide) | exact absurd (by decide) b49
              · refine z_lc0 g dX3_value_52 ?_
                exact hret _ _ _ _ dX3_value_53 ((by first | (rw [if_pos hok, if_pos b80]; rfl) | (rw [if_pos hok, if_neg b80]; rfl) | (unfold vmOK sd2; simp only [reduceIte, if_neg b3, if_neg b9, if_pos b17, if_neg b21, if_pos b26, if_pos b37, if_pos b49, Bool.false_eq_true]))) ((by first | (unfold ftB; rw [if_pos hok, if_pos hok, if_pos hok]; rfl) | (unfold ftB vmOK sd2; simp only [reduceIte, if_neg b3, if_neg b9, if_pos b17, if_neg b21, if_pos b26, if_pos b37, if_pos b49, Bool.false_eq_true])))
            · first | exact absurd b37 (by decide) | exact absurd (by decide) b37
          · refine z_ic1 g dX3_value_29 ?_
            refine z_goto g 34 dX3_value_30 (by decide) ?_
            refine z_istore_n (lv' := [(3, .int _), (0, .ref _), (1, .int _), (2, .int _)]) g dX3_value_34 (by decide) rfl ?_
            refine z_aload_n g dX3_value_35 1 rfl ?_
            refine z_iload_n g dX3_value_36 0 rfl ?_
            refine z_if_eq g (tgt := 44) dX3_value_37 (by decide) (fun b37 => ?_) (fun b37 => ?_)
            · first | exact absurd b37 (by decide) | exact absurd (by decide) b37
            · refine z_ic0 g dX3_value_40 ?_
              refine z_goto g 45 dX3_value_41 (by decide) ?_
              refine z_put (w' := [(_, .inr (3, [_, _, _, _, _, _, _, _, _, _, _, _, _, _, _, _])), _, _, _]) g hX3 tyX3 tyX3_ok nmX3 0 rfl rfl 0 (by decide) (mi 1 rfl) rfl rfl rfl (Nat.le_of_ble_eq_true rfl) dX3_value_45 rfl ?_
              refine z_iload_n g dX3_value_48 0 rfl ?_
              refine z_if_ne g (tgt := 54) dX3_value_49 (by decide) (fun b49 => ?_) (fun b49 => ?_)
              · have hok : vmOK m p0 p1 = true := by unfold vmOK sd2; simp only [reduceIte, if_neg b3, if_neg b9, if_pos b17, if_neg b21, if_neg b26, if_neg b37, if_neg b49]
                refine z_aload_n g dX3_value_54 1 rfl ?_
                refine z_aload_n g dX3_value_55 1 rfl ?_
                refine z_get g hX3 0 rfl rfl 3 (by decide) (mi 2 rfl) rfl dX3_value_56 ?_
                refine z_bi g 6 dX3_value_59 (by decide) ?_
                refine z_iload_n g dX3_value_61 2 rfl ?_
                refine z_i2l g dX3_value_62 ?_
                refine z_callSl (w' := [_, _, _, _]) (wr := [_, _, _]) g (k_X3_valueOf l G k _ _ _ _ _ (by decide) (by decide)) 3 gX3_value_X3_valueOf rfl rfl rfl nd_X3_valueOf ⟨by decide, by decide⟩ [1] [0, 2, 3] [0, 3, 1, 2] rfl rfl rfl rfl (by decide) rfl rfl rfl rfl (Nat.le_of_ble_eq_true rfl) dX3_value_63 ⟨by decide, by decide⟩ ?_
                refine z_aload_n g dX3_value_66 1 rfl ?_
                refine z_get g hX3 0 rfl rfl 4 (by decide) (mi 3 rfl) rfl dX3_value_67 ?_
                refine z_ic5 g dX3_value_70 ?_
                refine z_iload_n g dX3_value_71 2 rfl ?_
                refine z_i2l g dX3_value_72 ?_
                refine z_callSl (w' := [_, _, _, _]) (wr := [_, _, _]) g (k_X3_valueOf l G k _ _ _ _ _ (by decide) (by decide)) 3 gX3_value_X3_valueOf rfl rfl rfl nd_X3_valueOf ⟨by decide, by decide⟩ [2] [0, 1, 3] [0, 1, 3, 2] rfl rfl rfl rfl (by decide) rfl rfl rfl rfl (Nat.le_of_ble_eq_true rfl) dX3_value_73 ⟨by decide, by decide⟩ ?_
                refine z_callVv (w' := [_, _, _, _]) (wr := [_, _, _]) g (k_X3_tell l G k _ _ _ _ _ _ _ _ _ _ _ _ _ _ _ _ _ _ _ (hz hok)) 2 gX3_value_X3_tell rfl rfl rfl nd_X3_tell ⟨by decide, by decide⟩ 0 rfl rfl [0] [1, 2, 3] [3, 0, 1, 2] rfl rfl rfl rfl (by decide) rfl rfl rfl rfl (Nat.le_of_ble_eq_true rfl) dX3_value_76 ⟨by decide, by decide⟩ ?_
                refine z_iload_n g dX3_value_79 3 rfl ?_
                refine z_if_ne g (tgt := 90) dX3_value_80 (by decide) (fun b80 => ?_) (fun b80 => ?_)
                · refine z_aload_n g dX3_value_90 1 rfl ?_
                  refine z_get g hX3 0 rfl rfl 10 (by decide) (mi 5 rfl) rfl dX3_value_91 ?_
                  exact hret _ _ _ _ dX3_value_94 ((by first | (rw [if_pos hok, if_pos b80]; rfl) | (rw [if_pos hok, if_neg b80]; rfl) | (unfold vmOK sd2; simp only [reduceIte, if_neg b3, if_neg b9, if_pos b17, if_neg b21, if_neg b26, if_neg b37, if_neg b49, if_neg b80, Bool.false_eq_true]))) ((by first | (unfold ftB; rw [if_pos hok, if_pos hok, if_pos hok]; rfl) | (unfold ftB vmOK sd2; simp only [reduceIte, if_neg b3, if_neg b9, if_pos b17, if_neg b21, if_neg b26, if_neg b37, if_neg b49, if_neg b80, Bool.false_eq_true])))
                · refine z_aload_n g dX3_value_83 1 rfl ?_
                  refine z_get g hX3 0 rfl rfl 9 (by decide) (mi 4 rfl) rfl dX3_value_84 ?_
                  refine z_goto g 94 dX3_value_87 (by decide) ?_
                  exact hret _ _ _ _ dX3_value_94 ((by first | (rw [if_pos hok, if_pos b80]; rfl) | (rw [if_pos hok, if_neg b80]; rfl) | (unfold vmOK sd2; simp only [reduceIte, if_neg b3, if_neg b9, if_pos b17, if_neg b21, if_neg b26, if_neg b37, if_neg b49, if_pos b80, Bool.false_eq_true]))) ((by first | (unfold ftB; rw [if_pos hok, if_pos hok, if_pos hok]; rfl) | (unfold ftB vmOK sd2; simp only [reduceIte, if_neg b3, if_neg b9, if_pos b17, if_neg b21, if_neg b26, if_neg b37, if_neg b49, if_pos b80, Bool.false_eq_true])))
              · first | exact absurd b49 (by decide) | exact absurd (by decide) b49
theorem nd_X3_value : yX3_value.cls = RX3 ∧ yX3_value.cls ≠ "java/lang/invoke/MethodHandle" ∧ yX3_value.cls ≠ "java/lang/invoke/VarHandle" ∧ (parseMethodDescriptor yX3_value.desc).map (fun d => d.parameters.length) = some 2 := by decide +kernel
set_option maxHeartbeats 4000000 in
set_option maxRecDepth 100000 in
/-- valueAt(p, most, x) -/
theorem k_X3_valueAt (l : Launch) (G : va_G) (k : Nat → ClassId) (h0 n mst : Nat) (f : Nat → Int64) (p0 : UInt64) (hn : n < 2 ^ 31) (hmst : mst < n) (hok : hdOK f p0 mst) : ∀ sz, Met l yX3_valueAt wsX3_valueAt ({ frames := 0, cells := 0, slots := 0, locals := 0 }) (va_Pc [.ref h0, .int (nI mst), .double p0] (KP G k [(h0, .inl (k 2, n, .inr (.inl f)))] sz)) (va_Qd (fun r (_ : Unit) => r = hdP f p0 mst (mst + 1)) (KQ G [(h0, .inl (k 2, n, .inr (.inl f)))] (va_A [(h0, .inl (k 2, n, .inr (.inl f)))] sz)) (va_A [(h0, .inl (k 2, n, .inr (.inl f)))] sz)) 0 0 (va_A [(h0, .inl (k 2, n, .inr (.inl f)))] sz) := by
  refine met_d 0 0 (lv0 := [(0, .ref h0), (1, .int (nI mst)), (2, .double p0)]) (own := RX3) (by decide) rfl rfl (Nat.le_of_ble_eq_true rfl) rfl (fun Z g hret => ?_)
  refine z_dc0 g dX3_valueAt_0 ?_
  refine z_dstore (lv' := [(4, .double _), (0, .ref _), (1, .int _), (2, .double _)]) g dX3_valueAt_1 (by decide) rfl ?_
  refine z_iload_n g dX3_valueAt_3 2 rfl ?_
  refine z_istore (lv' := [(6, .int _), (4, .double _), (0, .ref _), (1, .int _), (2, .double _)]) g dX3_valueAt_4 (by decide) rfl ?_
  have cut_6 : ∀ (N6 : Nat) (j : Nat) (x : Int32) (c : UInt64), j < N6 → (j ≤ mst + 1) → (x = nI j - 1) → (c = hdP f p0 mst (mst + 1 - j)) → Z 0 0 [(h0, .inl (k 2, n, .inr (.inl f)))] [(0, .ref h0), (2, .double p0), (4, .double c), (6, .int x)] 6 [] := by
    intro N6
    induction N6 with
    | zero => intro j x c hms; exact absurd hms (Nat.not_lt_zero _)
    | succ N6 ih6 =>
      intro j x c hms6 hj hx hc
      refine z_iload g dX3_valueAt_6 3 rfl ?_
      refine z_if_lt g (tgt := 29) dX3_valueAt_8 (by decide) (fun b8 => ?_) (fun b8 => ?_)
      · rw [hx] at b8
        obtain rfl := nIm_neg b8 (by omega)
        refine z_dload g dX3_valueAt_29 2 rfl ?_
        exact hret _ _ _ _ dX3_valueAt_31 (hc) (rfl)
      · rw [hx] at b8
        obtain ⟨j, rfl⟩ := nIm_pos b8
        have hx2 : x = nI j := by rw [hx, nI_pred]
        refine z_dload g dX3_valueAt_11 2 rfl ?_
        refine z_dload_n g dX3_valueAt_13 1 rfl ?_
        refine z_dmul g dX3_valueAt_14 (by rw [hc]; exact (hok _ (by omega)).1) ?_
        refine z_aload_n g dX3_valueAt_15 0 rfl ?_
        refine z_iload g dX3_valueAt_16 3 rfl ?_
        refine z_lald g 0 rfl j hx2 (by omega) (by assumption) dX3_valueAt_18 ?_
        refine z_l2d g dX3_valueAt_19 ?_
        refine z_dadd g dX3_valueAt_20 (by rw [hc]; have h9 := (hok (mst + 1 - (j + 1)) (by omega)).2; unfold hdP at h9; rwa [show mst - (mst + 1 - (j + 1)) = j by omega] at h9) ?_
        refine z_dstore (lv' := [(4, .double _), (0, .ref _), (2, .double _), (6, .int _)]) g dX3_valueAt_21 (by decide) rfl ?_
        refine z_iinc (lv' := [(6, .int _), (4, .double _), (0, .ref _), (2, .double _)]) g (nI j - 1) dX3_valueAt_23 3 rfl (by rw [hx2, Int32.sub_eq_add_neg]; rfl) (by decide) rfl ?_
        refine z_goto g 6 dX3_valueAt_26 (by decide) ?_
        refine z_locs (lv' := [(0, .ref _), (2, .double _), (4, .double _), (6, .int _)]) g [2, 3, 1, 0] rfl ?_
        exact ih6 j _ _ (by omega) (by omega) rfl (by rw [show mst + 1 - j = (mst + 1 - (j + 1)) + 1 by omega]; show _ = FP.dadd (FP.dmul (hdP f p0 mst (mst + 1 - (j + 1))) p0) (FP.l2d (f (mst - (mst + 1 - (j + 1))))); rw [← hc, show mst - (mst + 1 - (j + 1)) = j by omega])
  refine z_locs (lv' := [(0, .ref _), (2, .double _), (4, .double _), (6, .int _)]) g [2, 4, 1, 0] rfl ?_
  exact cut_6 _ (mst + 1) _ _ (Nat.lt_succ_self _) (Nat.le_refl _) (nI_pred mst).symm (by rw [Nat.sub_self]; rfl)
theorem nd_X3_valueAt : yX3_valueAt.cls ≠ "java/lang/invoke/MethodHandle" ∧ yX3_valueAt.cls ≠ "java/lang/invoke/VarHandle" ∧ (parseMethodDescriptor yX3_valueAt.desc).map (fun d => d.parameters.length) = some 3 := by decide +kernel
set_option maxHeartbeats 4000000 in
set_option maxRecDepth 100000 in
/-- isPlace(x) -/
theorem k_X3_isPlace (l : Launch) (G : va_G) (k : Nat → ClassId) (h0 e1 e3 e4 e5 e7 e8 e11 e12 e13 e14 : Nat) (ft : Int32) (n dg i : Nat) (ov un : Int64) (p0 : UInt64) : ∀ sz, Met l yX3_isPlace wsX3_isPlace ({ frames := 0, cells := 0, slots := 0, locals := 0 }) (va_Pc [.ref h0, .double p0] (KP G k [(h0, .inr (3, [.int ft, .ref e1, .int (nI n), .ref e3, .ref e4, .ref e5, .int (nI dg), .ref e7, .ref e8, .long ov, .long un, .ref e11, .ref e12, .ref e13, .ref e14, .int (nI i)]))] sz)) (va_Qi (fun r (_ : Unit) => r = bI (nearP p0)) (KQ G [(h0, .inr (3, [.int ft, .ref e1, .int (nI n), .ref e3, .ref e4, .ref e5, .int (nI dg), .ref e7, .ref e8, .long ov, .long un, .ref e11, .ref e12, .ref e13, .ref e14, .int (nI i)]))] (va_A [(h0, .inr (3, [.int ft, .ref e1, .int (nI n), .ref e3, .ref e4, .ref e5, .int (nI dg), .ref e7, .ref e8, .long ov, .long un, .ref e11, .ref e12, .ref e13, .ref e14, .int (nI i)]))] sz)) (va_A [(h0, .inr (3, [.int ft, .ref e1, .int (nI n), .ref e3, .ref e4, .ref e5, .int (nI dg), .ref e7, .ref e8, .long ov, .long un, .ref e11, .ref e12, .ref e13, .ref e14, .int (nI i)]))] sz)) 0 0 (va_A [(h0, .inr (3, [.int ft, .ref e1, .int (nI n), .ref e3, .ref e4, .ref e5, .int (nI dg), .ref e7, .ref e8, .long ov, .long un, .ref e11, .ref e12, .ref e13, .ref e14, .int (nI i)]))] sz) := by
  refine met_z 0 0 (lv0 := [(0, .ref h0), (1, .double p0)]) (own := RX3) (by decide) rfl rfl (Nat.le_of_ble_eq_true rfl) rfl bI_n (fun Z g hret => ?_)
  refine z_dload_n g dX3_isPlace_0 1 rfl ?_
  refine z_ldc2d g (v := (13860109328209412096)) dX3_isPlace_1 (mi 1 rfl) ?_
  refine z_dcmp g dX3_isPlace_4 ?_
  refine z_if_lt g (tgt := 20) dX3_isPlace_5 (by decide) (fun b5 => ?_) (fun b5 => ?_)
  · refine z_ic0 g dX3_isPlace_20 ?_
    exact hret _ _ _ _ dX3_isPlace_21 ((by simp only [nearP, if_pos b5, reduceIte, Bool.false_eq_true] <;> rfl)) (rfl)
  · refine z_dload_n g dX3_isPlace_8 1 rfl ?_
    refine z_ldc2d g (v := (4636737291354636288)) dX3_isPlace_9 (mi 2 rfl) ?_
    refine z_dcmp g dX3_isPlace_12 ?_
    refine z_if_gt g (tgt := 20) dX3_isPlace_13 (by decide) (fun b13 => ?_) (fun b13 => ?_)
    · refine z_ic0 g dX3_isPlace_20 ?_
      exact hret _ _ _ _ dX3_isPlace_21 ((by simp only [nearP, if_neg b5, if_pos b13, reduceIte, Bool.false_eq_true] <;> rfl)) (rfl)
    · refine z_ic1 g dX3_isPlace_16 ?_
      refine z_goto g 21 dX3_isPlace_17 (by decide) ?_
      exact hret _ _ _ _ dX3_isPlace_21 ((by simp only [nearP, if_neg b5, if_neg b13, reduceIte, Bool.false_eq_true] <;> rfl)) (rfl)
theorem nd_X3_isPlace : yX3_isPlace.cls = RX3 ∧ yX3_isPlace.cls ≠ "java/lang/invoke/MethodHandle" ∧ yX3_isPlace.cls ≠ "java/lang/invoke/VarHandle" ∧ (parseMethodDescriptor yX3_isPlace.desc).map (fun d => d.parameters.length) = some 1 := by decide +kernel
set_option maxHeartbeats 4000000 in
set_option maxRecDepth 100000 in
/-- at(x) -/
theorem k_X3_at (l : Launch) (G : va_G) (k : Nat → ClassId) (h0 e1 e3 e4 e5 e7 e8 e11 e12 e13 e14 : Nat) (ft : Int32) (n dg i : Nat) (ov un : Int64) (F Lo : Nat → Int64) (p0 : UInt64) (hH : amH F Lo p0) : ∀ sz, Met l yX3_at wsX3_at ({ frames := 1, cells := 0, slots := 0, locals := 26 }) (va_Pc [.ref h0, .double p0] (KP G k [(h0, .inr (3, [.int ft, .ref e1, .int (nI n), .ref e3, .ref e4, .ref e5, .int (nI dg), .ref e7, .ref e8, .long ov, .long un, .ref e11, .ref e12, .ref e13, .ref e14, .int (nI i)])), (e3, .inl (k 2, 7, .inr (.inl F))), (e4, .inl (k 2, 6, .inr (.inl Lo)))] sz)) (va_Qd (fun r (_ : Unit) => r = amV F Lo p0) (KQ G [(h0, .inr (3, [.int (ftB (nearP p0)), .ref e1, .int (nI n), .ref e3, .ref e4, .ref e5, .int (nI dg), .ref e7, .ref e8, .long ov, .long un, .ref e11, .ref e12, .ref e13, .ref e14, .int (nI i)])), (e3, .inl (k 2, 7, .inr (.inl F))), (e4, .inl (k 2, 6, .inr (.inl Lo)))] (va_A [(h0, .inr (3, [.int ft, .ref e1, .int (nI n), .ref e3, .ref e4, .ref e5, .int (nI dg), .ref e7, .ref e8, .long ov, .long un, .ref e11, .ref e12, .ref e13, .ref e14, .int (nI i)])), (e3, .inl (k 2, 7, .inr (.inl F))), (e4, .inl (k 2, 6, .inr (.inl Lo)))] sz)) (va_A [(h0, .inr (3, [.int ft, .ref e1, .int (nI n), .ref e3, .ref e4, .ref e5, .int (nI dg), .ref e7, .ref e8, .long ov, .long un, .ref e11, .ref e12, .ref e13, .ref e14, .int (nI i)])), (e3, .inl (k 2, 7, .inr (.inl F))), (e4, .inl (k 2, 6, .inr (.inl Lo)))] sz)) 0 0 (va_A [(h0, .inr (3, [.int ft, .ref e1, .int (nI n), .ref e3, .ref e4, .ref e5, .int (nI dg), .ref e7, .ref e8, .long ov, .long un, .ref e11, .ref e12, .ref e13, .ref e14, .int (nI i)])), (e3, .inl (k 2, 7, .inr (.inl F))), (e4, .inl (k 2, 6, .inr (.inl Lo)))] sz) := by
  refine met_d 0 0 (lv0 := [(0, .ref h0), (1, .double p0)]) (own := RX3) (by decide) rfl rfl (Nat.le_of_ble_eq_true rfl) rfl (fun Z g hret => ?_)
  have hX3 : ∀ w ∈ u_ws RX3 TX3 16, w ∈ wsX3_at := fun w h => List.mem_cons_of_mem _ (List.mem_append_right _ (h))
  refine z_aload_n g dX3_at_0 0 rfl ?_
  refine z_aload_n g dX3_at_1 0 rfl ?_
  refine z_dload_n g dX3_at_2 1 rfl ?_
  refine z_callVi (w' := [_, _, _]) (wr := [_, _]) g (k_X3_isPlace l G k _ _ _ _ _ _ _ _ _ _ _ _ _ _ _ _ _ _) 1 gX3_at_X3_isPlace rfl rfl rfl nd_X3_isPlace ⟨by decide, by decide⟩ 0 rfl rfl [0] [1, 2] [2, 0, 1] rfl rfl rfl rfl (by decide) rfl rfl rfl rfl (Nat.le_of_ble_eq_true rfl) dX3_at_3 ⟨by decide, by decide⟩ ?_
  refine z_bf_eq g (tgt := 13) dX3_at_6 (by decide) (fun b6 => ?_) (fun b6 => ?_)
  · refine z_ic1 g dX3_at_13 ?_
    refine z_put (w' := [(_, .inr (3, [_, _, _, _, _, _, _, _, _, _, _, _, _, _, _, _])), _, _]) g hX3 tyX3 tyX3_ok nmX3 0 rfl rfl 0 (by decide) (mi 1 rfl) rfl rfl rfl (Nat.le_of_ble_eq_true rfl) dX3_at_14 rfl ?_
    refine z_aload_n g dX3_at_17 0 rfl ?_
    refine z_get g hX3 0 rfl rfl 0 (by decide) (mi 1 rfl) rfl dX3_at_18 ?_
    refine z_if_le g (tgt := 26) dX3_at_21 (by decide) (fun b21 => ?_) (fun b21 => ?_)
    · first | exact absurd b21 (by decide) | exact absurd (by decide) b21
    · refine z_dc0 g dX3_at_24 ?_
      exact hret _ _ _ _ dX3_at_25 ((by unfold amV; rw [b6]; first | (rw [if_pos rfl, if_pos (show dz (hdP Lo p0 5 6) = true from decide_eq_true b39)]; done) | (rw [if_pos rfl, if_neg (show ¬ dz (hdP Lo p0 5 6) = true from Bool.eq_false_iff.mp (decide_eq_false b39))]; done) | rfl)) ((by rw [b6]; rfl))
  · refine z_ic0 g dX3_at_9 ?_
    refine z_goto g 14 dX3_at_10 (by decide) ?_
    refine z_put (w' := [(_, .inr (3, [_, _, _, _, _, _, _, _, _, _, _, _, _, _, _, _])), _, _]) g hX3 tyX3 tyX3_ok nmX3 0 rfl rfl 0 (by decide) (mi 1 rfl) rfl rfl rfl (Nat.le_of_ble_eq_true rfl) dX3_at_14 rfl ?_
    refine z_aload_n g dX3_at_17 0 rfl ?_
    refine z_get g hX3 0 rfl rfl 0 (by decide) (mi 1 rfl) rfl dX3_at_18 ?_
    refine z_if_le g (tgt := 26) dX3_at_21 (by decide) (fun b21 => ?_) (fun b21 => ?_)
    · refine z_aload_n g dX3_at_26 0 rfl ?_
      refine z_get g hX3 0 rfl rfl 4 (by decide) (mi 2 rfl) rfl dX3_at_27 ?_
      refine z_ic5 g dX3_at_30 ?_
      refine z_dload_n g dX3_at_31 1 rfl ?_
      refine z_callSd (w' := [_, _, _]) (wr := [_, _]) g (k_X3_valueAt l G k _ _ _ _ _ (by decide) (by decide) (hH b6).1) 3 gX3_at_X3_valueAt rfl rfl rfl nd_X3_valueAt ⟨by decide, by decide⟩ [2] [0, 1] [0, 1, 2] rfl rfl rfl rfl (by decide) rfl rfl rfl rfl (Nat.le_of_ble_eq_true rfl) dX3_at_32 ⟨by decide, by decide⟩ ?_
      refine z_dstore_n (lv' := [(3, .double _), (0, .ref _), (1, .double _)]) g dX3_at_35 (by decide) rfl ?_
      refine z_dload_n g dX3_at_36 0 rfl ?_
      refine z_dc0 g dX3_at_37 ?_
      refine z_dcmp g dX3_at_38 ?_
      refine z_if_ne g (tgt := 46) dX3_at_39 (by decide) (fun b39 => ?_) (fun b39 => ?_)
      · refine z_aload_n g dX3_at_46 1 rfl ?_
        refine z_get g hX3 0 rfl rfl 3 (by decide) (mi 3 rfl) rfl dX3_at_47 ?_
        refine z_bi g 6 dX3_at_50 (by decide) ?_
        refine z_dload_n g dX3_at_52 2 rfl ?_
        refine z_callSd (w' := [_, _, _]) (wr := [_, _]) g (k_X3_valueAt l G k _ _ _ _ _ (by decide) (by decide) ((hH b6).2 (decide_eq_false b39)).1) 3 gX3_at_X3_valueAt rfl rfl rfl nd_X3_valueAt ⟨by decide, by decide⟩ [1] [0, 2] [0, 2, 1] rfl rfl rfl rfl (by decide) rfl rfl rfl rfl (Nat.le_of_ble_eq_true rfl) dX3_at_53 ⟨by decide, by decide⟩ ?_
        refine z_dload_n g dX3_at_56 0 rfl ?_
        refine z_ddiv g dX3_at_57 ((hH b6).2 (decide_eq_false b39)).2 ?_
        exact hret _ _ _ _ dX3_at_58 ((by unfold amV; rw [b6]; first | (rw [if_pos rfl, if_pos (show dz (hdP Lo p0 5 6) = true from decide_eq_true b39)]; done) | (rw [if_pos rfl, if_neg (show ¬ dz (hdP Lo p0 5 6) = true from Bool.eq_false_iff.mp (decide_eq_false b39))]; done) | rfl)) ((by rw [b6]; rfl))
      · refine z_dc0 g dX3_at_42 ?_
        refine z_goto g 58 dX3_at_43 (by decide) ?_
        exact hret _ _ _ _ dX3_at_58 ((by unfold amV; rw [b6]; first | (rw [if_pos rfl, if_pos (show dz (hdP Lo p0 5 6) = true from decide_eq_true b39)]; done) | (rw [if_pos rfl, if_neg (show ¬ dz (hdP Lo p0 5 6) = true from Bool.eq_false_iff.mp (decide_eq_false b39))]; done) | rfl)) ((by rw [b6]; rfl))
    · first | exact absurd b21 (by decide) | exact absurd (by decide) b21
theorem nd_X3_at : yX3_at.cls = RX3 ∧ yX3_at.cls ≠ "java/lang/invoke/MethodHandle" ∧ yX3_at.cls ≠ "java/lang/invoke/VarHandle" ∧ (parseMethodDescriptor yX3_at.desc).map (fun d => d.parameters.length) = some 1 := by decide +kernel
set_option maxHeartbeats 4000000 in
set_option maxRecDepth 100000 in
/-- byParts(x) -/
theorem k_X3_byParts (l : Launch) (G : va_G) (k : Nat → ClassId) (h0 e1 e3 e4 e5 e7 e8 e11 e12 e13 e14 : Nat) (ft : Int32) (n dg i : Nat) (ov un : Int64) (m : Nat → Nat) (F Lo Qu Ne Re Ro : Nat → Int64) (p0 : UInt64) (hdg : dg ≤ 5) (hm : ∀ j, j < 7 → m j ≤ 5) (hwg : wkG F m) (hH : bmH F m (dvD Lo dg F).2 p0) : ∀ sz, Met l yX3_byParts wsX3_byParts ({ frames := 3, cells := 0, slots := 0, locals := 75 }) (va_Pc [.ref h0, .double p0] (KP G k [(h0, .inr (3, [.int ft, .ref e1, .int (nI n), .ref e3, .ref e4, .ref e5, .int (nI dg), .ref e7, .ref e8, .long ov, .long un, .ref e11, .ref e12, .ref e13, .ref e14, .int (nI i)])), (e3, .inl (k 2, 7, .inr (.inl F))), (e4, .inl (k 2, 6, .inr (.inl Lo))), (e5, .inl (k 2, 7, .inr (.inl Qu))), (e7, .inl (k 1, 7, .inl (fun j => nI (m j)))), (e11, .inl (k 2, 7, .inr (.inl Ne))), (e12, .inl (k 2, 6, .inr (.inl Re))), (e13, .inl (k 2, 6, .inr (.inl Ro)))] sz)) (va_Qd (fun r (_ : Unit) => r = if nearP p0 then bmS F m (dvD Lo dg F).2 p0 7 else FP.dconst0) (KQ G [(h0, .inr (3, [.int (ftB (nearP p0)), .ref e1, .int (nI n), .ref e3, .ref e4, .ref e5, .int (nI dg), .ref e7, .ref e8, .long ((bmZ F (dvD Lo dg F) m p0 (Ne, Re, Ro, ov, un)).2.2.2.1), .long ((bmZ F (dvD Lo dg F) m p0 (Ne, Re, Ro, ov, un)).2.2.2.2), .ref e11, .ref e12, .ref e13, .ref e14, .int (nI i)])), (e3, .inl (k 2, 7, .inr (.inl F))), (e4, .inl (k 2, 6, .inr (.inl Lo))), (e5, .inl (k 2, 7, .inr (.inl (if nearP p0 then (dvD Lo dg F).2 else Qu)))), (e7, .inl (k 1, 7, .inl (fun j => nI (m j)))), (e11, .inl (k 2, 7, .inr (.inl ((bmZ F (dvD Lo dg F) m p0 (Ne, Re, Ro, ov, un)).1)))), (e12, .inl (k 2, 6, .inr (.inl ((bmZ F (dvD Lo dg F) m p0 (Ne, Re, Ro, ov, un)).2.1)))), (e13, .inl (k 2, 6, .inr (.inl ((bmZ F (dvD Lo dg F) m p0 (Ne, Re, Ro, ov, un)).2.2.1))))] (va_A [(h0, .inr (3, [.int ft, .ref e1, .int (nI n), .ref e3, .ref e4, .ref e5, .int (nI dg), .ref e7, .ref e8, .long ov, .long un, .ref e11, .ref e12, .ref e13, .ref e14, .int (nI i)])), (e3, .inl (k 2, 7, .inr (.inl F))), (e4, .inl (k 2, 6, .inr (.inl Lo))), (e5, .inl (k 2, 7, .inr (.inl Qu))), (e7, .inl (k 1, 7, .inl (fun j => nI (m j)))), (e11, .inl (k 2, 7, .inr (.inl Ne))), (e12, .inl (k 2, 6, .inr (.inl Re))), (e13, .inl (k 2, 6, .inr (.inl Ro)))] sz)) (va_A [(h0, .inr (3, [.int ft, .ref e1, .int (nI n), .ref e3, .ref e4, .ref e5, .int (nI dg), .ref e7, .ref e8, .long ov, .long un, .ref e11, .ref e12, .ref e13, .ref e14, .int (nI i)])), (e3, .inl (k 2, 7, .inr (.inl F))), (e4, .inl (k 2, 6, .inr (.inl Lo))), (e5, .inl (k 2, 7, .inr (.inl Qu))), (e7, .inl (k 1, 7, .inl (fun j => nI (m j)))), (e11, .inl (k 2, 7, .inr (.inl Ne))), (e12, .inl (k 2, 6, .inr (.inl Re))), (e13, .inl (k 2, 6, .inr (.inl Ro)))] sz)) 0 0 (va_A [(h0, .inr (3, [.int ft, .ref e1, .int (nI n), .ref e3, .ref e4, .ref e5, .int (nI dg), .ref e7, .ref e8, .long ov, .long un, .ref e11, .ref e12, .ref e13, .ref e14, .int (nI i)])), (e3, .inl (k 2, 7, .inr (.inl F))), (e4, .inl (k 2, 6, .inr (.inl Lo))), (e5, .inl (k 2, 7, .inr (.inl Qu))), (e7, .inl (k 1, 7, .inl (fun j => nI (m j)))), (e11, .inl (k 2, 7, .inr (.inl Ne))), (e12, .inl (k 2, 6, .inr (.inl Re))), (e13, .inl (k 2, 6, .inr (.inl Ro)))] sz) := by
  refine met_d 0 0 (lv0 := [(0, .ref h0), (1, .double p0)]) (own := RX3) (by decide) rfl rfl (Nat.le_of_ble_eq_true rfl) rfl (fun Z g hret => ?_)
  have hX3 : ∀ w ∈ u_ws RX3 TX3 16, w ∈ wsX3_byParts := fun w h => List.mem_cons_of_mem _ (List.mem_append_right _ (h))
  refine z_aload_n g dX3_byParts_0 0 rfl ?_
  refine z_aload_n g dX3_byParts_1 0 rfl ?_
  refine z_dload_n g dX3_byParts_2 1 rfl ?_
  refine z_callVi (w' := [_, _, _, _, _, _, _, _]) (wr := [_, _, _, _, _, _, _]) g (k_X3_isPlace l G k _ _ _ _ _ _ _ _ _ _ _ _ _ _ _ _ _ _) 1 gX3_byParts_X3_isPlace rfl rfl rfl nd_X3_isPlace ⟨by decide, by decide⟩ 0 rfl rfl [0] [1, 2, 3, 4, 5, 6, 7] [7, 0, 1, 2, 3, 4, 5, 6] rfl rfl rfl rfl (by decide) rfl rfl rfl rfl (Nat.le_of_ble_eq_true rfl) dX3_byParts_3 ⟨by decide, by decide⟩ ?_
  refine z_bf_eq g (tgt := 13) dX3_byParts_6 (by decide) (fun b6 => ?_) (fun b6 => ?_)
  · refine z_ic1 g dX3_byParts_13 ?_
    refine z_put (w' := [(_, .inr (3, [_, _, _, _, _, _, _, _, _, _, _, _, _, _, _, _])), _, _, _, _, _, _, _]) g hX3 tyX3 tyX3_ok nmX3 0 rfl rfl 0 (by decide) (mi 1 rfl) rfl rfl rfl (Nat.le_of_ble_eq_true rfl) dX3_byParts_14 rfl ?_
    refine z_aload_n g dX3_byParts_17 0 rfl ?_
    refine z_get g hX3 0 rfl rfl 0 (by decide) (mi 1 rfl) rfl dX3_byParts_18 ?_
    refine z_if_le g (tgt := 26) dX3_byParts_21 (by decide) (fun b21 => ?_) (fun b21 => ?_)
    · first | exact absurd b21 (by decide) | exact absurd (by decide) b21
    · refine z_dc0 g dX3_byParts_24 ?_
      exact hret _ _ _ _ dX3_byParts_25 ((by first | (rw [b6]; rfl) | (rw [if_pos b6]))) ((by unfold bmZ ftB; first | (rw [b6]; rfl) | (simp only [b6, reduceIte])))
  · refine z_ic0 g dX3_byParts_9 ?_
    refine z_goto g 14 dX3_byParts_10 (by decide) ?_
    refine z_put (w' := [(_, .inr (3, [_, _, _, _, _, _, _, _, _, _, _, _, _, _, _, _])), _, _, _, _, _, _, _]) g hX3 tyX3 tyX3_ok nmX3 0 rfl rfl 0 (by decide) (mi 1 rfl) rfl rfl rfl (Nat.le_of_ble_eq_true rfl) dX3_byParts_14 rfl ?_
    refine z_aload_n g dX3_byParts_17 0 rfl ?_
    refine z_get g hX3 0 rfl rfl 0 (by decide) (mi 1 rfl) rfl dX3_byParts_18 ?_
    refine z_if_le g (tgt := 26) dX3_byParts_21 (by decide) (fun b21 => ?_) (fun b21 => ?_)
    · refine z_aload_n g dX3_byParts_26 0 rfl ?_
      refine z_callVv (w' := [_, _, _, _, _, _, _, _]) (wr := [_, _, _]) g (k_X3_divide l G k _ _ _ _ _ _ _ _ _ _ _ _ _ _ _ _ _ _ _ _ _ (by assumption)) 0 gX3_byParts_X3_divide rfl rfl rfl nd_X3_divide ⟨by decide, by decide⟩ 0 rfl rfl [0, 1, 2, 3, 5] [4, 6, 7] [3, 4, 5, 6, 0, 7, 1, 2] rfl rfl rfl rfl (by decide) rfl rfl rfl rfl (Nat.le_of_ble_eq_true rfl) dX3_byParts_27 ⟨by decide, by decide⟩ ?_
      refine z_aload_n g dX3_byParts_30 0 rfl ?_
      refine z_get g hX3 0 rfl rfl 5 (by decide) (mi 2 rfl) rfl dX3_byParts_31 ?_
      refine z_bi g 6 dX3_byParts_34 (by decide) ?_
      refine z_dload_n g dX3_byParts_36 1 rfl ?_
      refine z_callSd (w' := [_, _, _, _, _, _, _, _]) (wr := [_, _, _, _, _, _, _]) g (k_X3_valueAt l G k _ _ _ _ _ (by decide) (by decide) (hH b6).1) 3 gX3_byParts_X3_valueAt rfl rfl rfl nd_X3_valueAt ⟨by decide, by decide⟩ [3] [0, 1, 2, 4, 5, 6, 7] [0, 1, 2, 7, 3, 4, 5, 6] rfl rfl rfl rfl (by decide) rfl rfl rfl rfl (Nat.le_of_ble_eq_true rfl) dX3_byParts_37 ⟨by decide, by decide⟩ ?_
      refine z_dstore_n (lv' := [(3, .double _), (0, .ref _), (1, .double _)]) g dX3_byParts_40 (by decide) rfl ?_
      refine z_bi g (-3) dX3_byParts_41 (by decide) ?_
      refine z_istore (lv' := [(5, .int _), (3, .double _), (0, .ref _), (1, .double _)]) g dX3_byParts_43 (by decide) rfl ?_
      have cut_45 : ∀ (N45 : Nat) (j : Nat), 7 - j < N45 → (j ≤ 7) → Z 0 0 [(h0, .inr (3, [.int 0, .ref e1, .int (nI n), .ref e3, .ref e4, .ref e5, .int (nI dg), .ref e7, .ref e8, .long ((boS F m ((dvD Lo dg F).1, Re, Ro, ov, un) j).2.2.2.1), .long ((boS F m ((dvD Lo dg F).1, Re, Ro, ov, un) j).2.2.2.2), .ref e11, .ref e12, .ref e13, .ref e14, .int (nI i)])), (e3, .inl (k 2, 7, .inr (.inl F))), (e4, .inl (k 2, 6, .inr (.inl Lo))), (e5, .inl (k 2, 7, .inr (.inl ((dvD Lo dg F).2)))), (e7, .inl (k 1, 7, .inl (fun j => nI (m j)))), (e11, .inl (k 2, 7, .inr (.inl ((boS F m ((dvD Lo dg F).1, Re, Ro, ov, un) j).1)))), (e12, .inl (k 2, 6, .inr (.inl ((boS F m ((dvD Lo dg F).1, Re, Ro, ov, un) j).2.1)))), (e13, .inl (k 2, 6, .inr (.inl ((boS F m ((dvD Lo dg F).1, Re, Ro, ov, un) j).2.2.1))))] [(0, .ref h0), (1, .double p0), (3, .double (bmS F m (dvD Lo dg F).2 p0 j)), (5, .int (nI j - 3))] 45 [] := by
        intro N45
        induction N45 with
        | zero => intro j hms; exact absurd hms (Nat.not_lt_zero _)
        | succ N45 ih45 =>
          intro j hms45 hj
          refine z_iload g dX3_byParts_45 3 rfl ?_
          refine z_ic4 g dX3_byParts_47 ?_
          refine z_ic_ge g (tgt := 143) dX3_byParts_48 (by decide) (fun b48 => ?_) (fun b48 => ?_)
          · obtain rfl := rt4_ge hj b48
            refine z_dload_n g dX3_byParts_143 2 rfl ?_
            exact hret _ _ _ _ dX3_byParts_144 ((by first | (rw [b6]; rfl) | (rw [if_pos b6]))) ((by unfold bmZ ftB; first | (rw [b6]; rfl) | (simp only [b6, reduceIte])))
          · have hj7 : j < 7 := rt4_lt hj b48
            have hw9 := (hH b6).2 j hj7
            have hm5 := manyP_le hm (nI j - 3)
            refine z_dc1 g dX3_byParts_51 ?_
            refine z_dstore (lv' := [(6, .double _), (0, .ref _), (1, .double _), (3, .double _), (5, .int _)]) g dX3_byParts_52 (by decide) rfl ?_
            refine z_ic1 g dX3_byParts_54 ?_
            refine z_istore (lv' := [(8, .int _), (6, .double _), (0, .ref _), (1, .double _), (3, .double _), (5, .int _)]) g dX3_byParts_55 (by decide) rfl ?_
            have cut_57 : ∀ (N57 : Nat) (t i9 : Nat) (sum p pv : UInt64) (S : SC), t < N57 → (i9 + t = manyP m (nI j - 3) + 1) → (1 ≤ i9) → ((i9 = 1 ∧ p = FP.dsub p0 (FP.i2d (nI j - 3))) ∨ (¬ i9 = 1 ∧ p = FP.dmul pv (FP.dsub p0 (FP.i2d (nI j - 3))) ∧ vf_n64 (FP.dmul pv (FP.dsub p0 (FP.i2d (nI j - 3)))))) → (wpOK (bmn F m (nI j - 3)) (bmd F m (nI j - 3)) (FP.dsub p0 (FP.i2d (nI j - 3))) t i9 sum p) → (wpL (bmn F m (nI j - 3)) (bmd F m (nI j - 3)) (FP.dsub p0 (FP.i2d (nI j - 3))) t i9 sum p = bmS F m (dvD Lo dg F).2 p0 (j + 1)) → (biS F m (nI j - 3) t i9 S = (boS F m ((dvD Lo dg F).1, Re, Ro, ov, un) (j + 1))) → Z 0 0 [(h0, .inr (3, [.int 0, .ref e1, .int (nI n), .ref e3, .ref e4, .ref e5, .int (nI dg), .ref e7, .ref e8, .long S.2.2.2.1, .long S.2.2.2.2, .ref e11, .ref e12, .ref e13, .ref e14, .int (nI i)])), (e3, .inl (k 2, 7, .inr (.inl F))), (e4, .inl (k 2, 6, .inr (.inl Lo))), (e5, .inl (k 2, 7, .inr (.inl ((dvD Lo dg F).2)))), (e7, .inl (k 1, 7, .inl (fun j => nI (m j)))), (e11, .inl (k 2, 7, .inr (.inl S.1))), (e12, .inl (k 2, 6, .inr (.inl S.2.1))), (e13, .inl (k 2, 6, .inr (.inl S.2.2.1)))] [(0, .ref h0), (1, .double p0), (3, .double sum), (5, .int (nI j - 3)), (6, .double pv), (8, .int (nI i9))] 57 [] := by
              intro N57
              induction N57 with
              | zero => intro t i9 sum p pv S hms; exact absurd hms (Nat.not_lt_zero _)
              | succ N57 ih57 =>
                intro t i9 sum p pv S hms57 ht h1 hp hok hI hS
                refine z_iload g dX3_byParts_57 5 rfl ?_
                refine z_aload_n g dX3_byParts_59 0 rfl ?_
                refine z_get g hX3 0 rfl rfl 7 (by decide) (mi 3 rfl) rfl dX3_byParts_60 ?_
                refine z_iload g dX3_byParts_63 3 rfl ?_
                refine z_ic3 g dX3_byParts_65 ?_
                refine z_iadd g dX3_byParts_66 ?_
                refine z_iald g 4 rfl j (rt3 j) (by omega) (by decide) dX3_byParts_67 ?_
                refine z_ti (y := nI (manyP m (nI j - 3))) (by rw [manyP_rt hj7]) ?_
                refine z_n_gt g (a := i9) (b := (manyP m (nI j - 3))) (tgt := 137) (by omega) (by omega) dX3_byParts_68 (by decide) (fun b68 => ?_) (fun b68 => ?_)
                · obtain rfl : t = 0 := by omega
                  obtain rfl : S = (boS F m ((dvD Lo dg F).1, Re, Ro, ov, un) (j + 1)) := hS
                  obtain rfl : sum = bmS F m (dvD Lo dg F).2 p0 (j + 1) := hI
                  refine z_iinc (lv' := [(5, .int _), (0, .ref _), (1, .double _), (3, .double _), (6, .double _), (8, .int _)]) g (nI (j + 1) - 3) dX3_byParts_137 3 rfl (rt_inc j) (by decide) rfl ?_
                  refine z_goto g 45 dX3_byParts_140 (by decide) ?_
                  refine z_locs (lv' := [(0, .ref _), (1, .double _), (3, .double _), (5, .int _)]) g [1, 2, 3, 0] rfl ?_
                  exact ih45 (j + 1) (by omega) (by omega)
                · obtain ⟨t, rfl⟩ : ∃ q, t = q + 1 := ⟨t - 1, by omega⟩
                  have hpv : ¬ nI i9 = 1 → vf_n64 (FP.dmul pv (FP.dsub p0 (FP.i2d (nI j - 3)))) := fun h9 => by rcases hp with ⟨h, _⟩ | ⟨_, _, h⟩; exact absurd (by rw [h]; rfl) h9; exact h
                  have cut_93 : ∀ (p' : UInt64), (p = p') → Z 0 0 [(h0, .inr (3, [.int 0, .ref e1, .int (nI n), .ref e3, .ref e4, .ref e5, .int (nI dg), .ref e7, .ref e8, .long S.2.2.2.1, .long S.2.2.2.2, .ref e11, .ref e12, .ref e13, .ref e14, .int (nI i)])), (e3, .inl (k 2, 7, .inr (.inl F))), (e4, .inl (k 2, 6, .inr (.inl Lo))), (e5, .inl (k 2, 7, .inr (.inl ((dvD Lo dg F).2)))), (e7, .inl (k 1, 7, .inl (fun j => nI (m j)))), (e11, .inl (k 2, 7, .inr (.inl S.1))), (e12, .inl (k 2, 6, .inr (.inl S.2.1))), (e13, .inl (k 2, 6, .inr (.inl S.2.2.1)))] [(0, .ref h0), (1, .double p0), (3, .double sum), (5, .int (nI j - 3)), (8, .int (nI i9))] 93 [.double p'] := by
                    intro p' hp2
                    subst hp2
                    refine z_dstore (lv' := [(6, .double _), (0, .ref _), (1, .double _), (3, .double _), (5, .int _), (8, .int _)]) g dX3_byParts_93 (by decide) rfl ?_
                    refine z_aload_n g dX3_byParts_95 1 rfl ?_
                    refine z_iload g dX3_byParts_96 4 rfl ?_
                    refine z_iload g dX3_byParts_98 5 rfl ?_
                    refine z_callVv (w' := [_, _, _, _, _, _, _, _]) (wr := [_, _]) g (k_X3_work l G k _ _ _ _ _ _ _ _ _ _ _ _ _ _ _ _ _ _ _ _ _ _ _ _ _ hm (rt_ok j hj7).1 (bm_nn hj7 (by omega)) (by have := manyP_le hm (nI j - 3); omega) (hwg _ (rt_ok j hj7).1 _ (by omega))) 2 gX3_byParts_X3_work rfl rfl rfl nd_X3_work ⟨by decide, by decide⟩ 0 rfl rfl [0, 1, 4, 5, 6, 7] [2, 3] [2, 3, 0, 1, 4, 5, 6, 7] rfl rfl rfl rfl (by decide) rfl rfl rfl rfl (Nat.le_of_ble_eq_true rfl) dX3_byParts_100 ⟨by decide, by decide⟩ ?_
                    have cut_130 : ∀ (sum' : UInt64), (sum' = wpT (bmn F m (nI j - 3) i9) (bmd F m (nI j - 3) i9) sum p) → Z 0 0 [(h0, .inr (3, [.int 0, .ref e1, .int (nI n), .ref e3, .ref e4, .ref e5, .int (nI dg), .ref e7, .ref e8, .long (tlO (wkA F m (nI j - 3) (manyP m (nI j - 3) - i9)) (wkB m (nI j - 3) (manyP m (nI j - 3) - i9))), .long (tlU (wkA F m (nI j - 3) (manyP m (nI j - 3) - i9)) (wkB m (nI j - 3) (manyP m (nI j - 3) - i9))), .ref e11, .ref e12, .ref e13, .ref e14, .int (nI i)])), (e3, .inl (k 2, 7, .inr (.inl F))), (e4, .inl (k 2, 6, .inr (.inl Lo))), (e5, .inl (k 2, 7, .inr (.inl ((dvD Lo dg F).2)))), (e7, .inl (k 1, 7, .inl (fun j => nI (m j)))), (e11, .inl (k 2, 7, .inr (.inl (arO (nI j - 3).toInt64 F 6)))), (e12, .inl (k 2, 6, .inr (.inl (rsF m (nI j - 3) 7)))), (e13, .inl (k 2, 6, .inr (.inl (rwF (arO (nI j - 3).toInt64 F 6) (rsF m (nI j - 3) 7) S.2.2.1 (manyP m (nI j - 3) - i9 + 1)))))] [(0, .ref h0), (1, .double p0), (5, .int (nI j - 3)), (6, .double p), (8, .int (nI i9))] 130 [.double sum'] := by
                      intro sum' hs9
                      subst hs9
                      refine z_dstore_n (lv' := [(3, .double _), (0, .ref _), (1, .double _), (5, .int _), (6, .double _), (8, .int _)]) g dX3_byParts_130 (by decide) rfl ?_
                      refine z_inc (lv' := [(8, .int _), (3, .double _), (0, .ref _), (1, .double _), (5, .int _), (6, .double _)]) g dX3_byParts_131 5 rfl (by decide) rfl ?_
                      refine z_goto g 57 dX3_byParts_134 (by decide) ?_
                      refine z_locs (lv' := [(0, .ref _), (1, .double _), (3, .double _), (5, .int _), (6, .double _), (8, .int _)]) g [2, 3, 1, 4, 5, 0] rfl ?_
                      exact ih57 t (i9 + 1) _ (FP.dmul p (FP.dsub p0 (FP.i2d (nI j - 3)))) _ (wkS F m (nI j - 3) (manyP m (nI j - 3) - i9) S) (by omega) (by omega) (by omega) (Or.inr ⟨by omega, rfl, hok.2.1⟩) hok.2.2 hI hS
                    refine z_dload g dX3_byParts_103 0 rfl ?_
                    refine z_dc0 g dX3_byParts_105 ?_
                    refine z_dcmp g dX3_byParts_106 ?_
                    refine z_if_ne g (tgt := 114) dX3_byParts_107 (by decide) (fun b107 => ?_) (fun b107 => ?_)
                    · have hq : dz p = false → _ := hok.1
                      have b107 : dz p = false := decide_eq_false b107
                      refine z_dload_n g dX3_byParts_114 3 rfl ?_
                      refine z_aload_n g dX3_byParts_115 1 rfl ?_
                      refine z_get g hX3 0 rfl rfl 9 (by decide) (mi 4 rfl) rfl dX3_byParts_116 ?_
                      refine z_l2d g dX3_byParts_119 ?_
                      refine z_aload_n g dX3_byParts_120 1 rfl ?_
                      refine z_get g hX3 0 rfl rfl 10 (by decide) (mi 5 rfl) rfl dX3_byParts_121 ?_
                      refine z_l2d g dX3_byParts_124 ?_
                      refine z_ddiv g dX3_byParts_125 (hq b107).1 ?_
                      refine z_dload g dX3_byParts_126 0 rfl ?_
                      refine z_ddiv g dX3_byParts_128 (hq b107).2.1 ?_
                      refine z_dadd g dX3_byParts_129 (hq b107).2.2 ?_
                      refine z_locs (lv' := [(0, .ref _), (1, .double _), (5, .int _), (6, .double _), (8, .int _)]) g [1, 2, 4, 0, 5] rfl ?_
                      exact cut_130 _ (by unfold wpT; first | (rw [if_pos (show dz p = true from decide_eq_true b107)]; done) | (rw [if_neg (show ¬ dz p = true from Bool.eq_false_iff.mp b107)]; rfl))
                    · refine z_dload_n g dX3_byParts_110 3 rfl ?_
                      refine z_goto g 130 dX3_byParts_111 (by decide) ?_
                      refine z_locs (lv' := [(0, .ref _), (1, .double _), (5, .int _), (6, .double _), (8, .int _)]) g [1, 2, 4, 0, 5] rfl ?_
                      exact cut_130 _ (by unfold wpT; first | (rw [if_pos (show dz p = true from decide_eq_true b107)]; done) | (rw [if_neg (show ¬ dz p = true from Bool.eq_false_iff.mp b107)]; rfl))
                  refine z_iload g dX3_byParts_71 5 rfl ?_
                  refine z_ic1 g dX3_byParts_73 ?_
                  refine z_ic_ne g (tgt := 85) dX3_byParts_74 (by decide) (fun b74 => ?_) (fun b74 => ?_)
                  · refine z_dload g dX3_byParts_85 4 rfl ?_
                    refine z_dload_n g dX3_byParts_87 1 rfl ?_
                    refine z_iload g dX3_byParts_88 3 rfl ?_
                    refine z_i2d g dX3_byParts_90 ?_
                    refine z_dsub g dX3_byParts_91 hw9.1 ?_
                    refine z_dmul g dX3_byParts_92 (hpv b74) ?_
                    refine z_locs (lv' := [(0, .ref _), (1, .double _), (3, .double _), (5, .int _), (8, .int _)]) g [0, 1, 2, 3, 5] rfl ?_
                    exact cut_93 _ (by rcases hp with ⟨h, h2⟩ | ⟨h, h2, _⟩; (first | exact h2 | exact absurd (by rw [h]; rfl) b74); (first | exact h2 | exact absurd (ni1 (by omega) b74) h))
                  · refine z_dload_n g dX3_byParts_77 1 rfl ?_
                    refine z_iload g dX3_byParts_78 3 rfl ?_
                    refine z_i2d g dX3_byParts_80 ?_
                    refine z_dsub g dX3_byParts_81 hw9.1 ?_
                    refine z_goto g 93 dX3_byParts_82 (by decide) ?_
                    refine z_locs (lv' := [(0, .ref _), (1, .double _), (3, .double _), (5, .int _), (8, .int _)]) g [0, 1, 2, 3, 5] rfl ?_
                    exact cut_93 _ (by rcases hp with ⟨h, h2⟩ | ⟨h, h2, _⟩; (first | exact h2 | exact absurd (by rw [h]; rfl) b74); (first | exact h2 | exact absurd (ni1 (by omega) b74) h))
            refine z_locs (lv' := [(0, .ref _), (1, .double _), (3, .double _), (5, .int _), (6, .double _), (8, .int _)]) g [2, 3, 4, 5, 1, 0] rfl ?_
            exact cut_57 _ (manyP m (nI j - 3)) 1 _ (FP.dsub p0 (FP.i2d (nI j - 3))) _ (boS F m ((dvD Lo dg F).1, Re, Ro, ov, un) j) (Nat.lt_succ_self _) (by omega) (by decide) (Or.inl ⟨rfl, rfl⟩) hw9.2 rfl rfl
      refine z_locs (lv' := [(0, .ref _), (1, .double _), (3, .double _), (5, .int _)]) g [2, 3, 1, 0] rfl ?_
      exact cut_45 _ 0 (Nat.lt_succ_self _) (by decide)
    · first | exact absurd b21 (by decide) | exact absurd (by decide) b21
theorem nd_X3_byParts : yX3_byParts.cls = RX3 ∧ yX3_byParts.cls ≠ "java/lang/invoke/MethodHandle" ∧ yX3_byParts.cls ≠ "java/lang/invoke/VarHandle" ∧ (parseMethodDescriptor yX3_byParts.desc).map (fun d => d.parameters.length) = some 1 := by decide +kernel
