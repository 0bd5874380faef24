/-! the common divisor: its sign, its size -/
theorem cgL_ne : ∀ (n : Nat) (d r : Int64), ¬ d = 0 → ¬ cgL n d r = 0
  | 0, d, r, h => h
  | n + 1, d, r, h => by
    show ¬ (if r = 0 then d else cgL n r (d - d / r * r)) = 0
    by_cases hr : r = 0
    · rw [if_pos hr]; exact h
    · rw [if_neg hr]; exact cgL_ne n _ _ hr
theorem absL_ne {x : Int64} (h : ¬ x = 0) : ¬ absL x = 0 := by
  unfold absL
  split
  · exact h
  · exact neg_ne0 h
theorem cgP_ne (a : Int64) {b : Int64} (hb : ¬ b = 0) : ¬ cgP a b = 0 := by
  show ¬ (if absL b = 0 then absL a else cgL 99 (absL b) _) = 0
  rw [if_neg (absL_ne hb)]
  exact cgL_ne _ _ _ (absL_ne hb)
theorem cgL_pos : ∀ (n : Nat) (d r : Int64), 0 < d.toInt → 0 ≤ r.toInt → r.toInt < d.toInt → 0 < (cgL n d r).toInt ∧ (cgL n d r).toInt ≤ d.toInt
  | 0, d, r, h, _, _ => ⟨h, Int.le_refl _⟩
  | n + 1, d, r, h, h0, h1 => by
    show 0 < (if r = 0 then d else cgL n r (d - d / r * r)).toInt ∧ (if r = 0 then d else cgL n r (d - d / r * r)).toInt ≤ _
    by_cases hr : r = 0
    · rw [if_pos hr]; exact ⟨h, Int.le_refl _⟩
    · rw [if_neg hr]
      have hr0 : 0 < r.toInt := by
        rcases Int.lt_or_eq_of_le h0 with q | q
        · exact q
        · exact absurd (Int64.toInt_inj.mp q.symm) hr
      have e := rem_int d r hr
      obtain ⟨a, b⟩ := cgL_pos n r (d - d / r * r) hr0 (by rw [e]; exact Int.tmod_nonneg _ (by omega)) (by rw [e]; exact Int.tmod_lt_of_pos _ hr0)
      exact ⟨a, by omega⟩
/-- not the one long that has no opposite -/
def fine (x : Int64) : Prop := -(2 : Int) ^ 63 < x.toInt
theorem neg_int {x : Int64} (h : fine x) : (-x).toInt = -x.toInt := by
  unfold fine at h
  have h1 := x.toInt_lt
  rw [Int64.toInt_neg]
  exact Int.bmod_eq_of_le (by omega) (by omega)
theorem abs_int {x : Int64} (h : fine x) : (absL x).toInt = (nA x : Int) := by
  unfold absL nA
  by_cases h0 : 0 < x
  · rw [if_pos h0]
    have : (0 : Int) < x.toInt := Int64.lt_iff_toInt_lt.mp h0
    omega
  · rw [if_neg h0, neg_int h]
    have : ¬ (0 : Int) < x.toInt := fun q => h0 (Int64.lt_iff_toInt_lt.mpr q)
    omega
theorem cgP_pos {a b : Int64} (ha : fine a) (hb : fine b) (h0 : ¬ b = 0) : 0 < (cgP a b).toInt ∧ (cgP a b).toInt ≤ (nA b : Int) := by
  have hb1 := abs_int hb
  have hn := nA_ne h0
  have e := rem_int (absL a) (absL b) (absL_ne h0)
  have hx : cgP a b = cgL 99 (absL b) (absL a - absL a / absL b * absL b) := by
    show (if absL b = 0 then absL a else cgL 99 (absL b) _) = _
    rw [if_neg (absL_ne h0)]
  rw [hx, ← hb1]
  have ha1 := abs_int ha
  exact cgL_pos 99 _ _ (by omega) (by rw [e]; exact Int.tmod_nonneg _ (by omega)) (by rw [e]; exact Int.tmod_lt_of_pos _ (by omega))
theorem low_pos {n d : Int64} (h0 : ¬ d = 0) (hd : 0 ≤ d) (w : Int32) : lowP n d w = if w = 0 then tlO n d else tlU n d := by
  unfold lowP tlO tlU
  rw [if_neg h0, if_neg (cgP_ne n h0), if_pos hd, if_pos hd]
  split <;> simp only [if_pos hd]
theorem div_neg {n g : Int64} (hn : fine n) (hg : fine g) : n / -g = -n / g := by
  apply Int64.toInt_inj.mp
  rw [Int64.toInt_div, Int64.toInt_div, neg_int hn, neg_int hg, Int.tdiv_neg, Int.neg_tdiv]
theorem low_tl {n d : Int64} (h0 : ¬ d = 0) (hn : fine n) (hd : fine d) (w : Int32) : lowP n d w = if w = 0 then tlO n d else tlU n d := by
  by_cases hp : 0 ≤ d
  · exact low_pos h0 hp w
  · obtain ⟨g1, g2⟩ := cgP_pos hn hd h0
    have hg : fine (cgP n d) := by unfold fine; omega
    unfold lowP tlO tlU
    rw [if_neg h0, if_neg (cgP_ne n h0), if_neg hp, if_neg hp, if_neg hp]
    by_cases hw : w = 0
    · rw [if_pos hw, if_pos hw]; exact div_neg hn hg
    · rw [if_neg hw, if_neg hw]; exact div_neg hd hg
/-- what stands below is positive -/
theorem tlU_pos {n d : Int64} (h0 : ¬ d = 0) (hn : fine n) (hd : fine d) : 0 < (tlU n d).toInt ∧ (tlU n d).toInt ≤ (nA d : Int) := by
  obtain ⟨g1, g2⟩ := cgP_pos hn hd h0
  have hne := nA_ne h0
  have hl := nA_le d
  have e : (if 0 ≤ d then d else -d).toInt = (nA d : Int) := by
    unfold nA
    by_cases hp : 0 ≤ d
    · rw [if_pos hp]
      have : (0 : Int) ≤ d.toInt := Int64.le_iff_toInt_le.mp hp
      omega
    · rw [if_neg hp, neg_int hd]
      have : ¬ (0 : Int) ≤ d.toInt := fun q => hp (Int64.le_iff_toInt_le.mpr q)
      omega
  have hlt : (nA d : Int) < 2 ^ 63 := by
    have h9 : nA d = d.toInt.natAbs := rfl
    have h1 := d.toInt_lt
    unfold fine at hd
    omega
  unfold tlU
  rw [Int64.toInt_div, e]
  have h1 : 1 ≤ (nA d : Int).tdiv (cgP n d).toInt := by
    rw [Int.tdiv_eq_ediv_of_nonneg (by omega)]
    exact Int.le_ediv_of_mul_le g1 (by omega)
  have h2 : (nA d : Int).tdiv (cgP n d).toInt ≤ (nA d : Int) := by
    rw [Int.tdiv_eq_ediv_of_nonneg (by omega)]
    exact Int.ediv_le_self _ (by omega)
  rw [Int.bmod_eq_of_le (by omega) (by omega)]
  omega
/-! sizes: a sum's, a product's -/
theorem bmod_abs (z : Int) : (z.bmod (2 ^ 64)).natAbs ≤ z.natAbs := by
  by_cases h : -(2 : Int) ^ 63 ≤ z ∧ z < 2 ^ 63
  · rw [Int.bmod_eq_of_le (by omega) (by omega)]
    exact Nat.le_refl _
  · have h1 := Int.le_bmod (x := z) (m := 2 ^ 64) (by decide)
    have h2 := Int.bmod_lt (x := z) (m := 2 ^ 64) (by decide)
    omega
theorem nA_add (x y : Int64) : nA (x + y) ≤ nA x + nA y := by
  unfold nA
  rw [Int64.toInt_add]
  exact Nat.le_trans (bmod_abs _) (Int.natAbs_add_le _ _)
theorem nA_sub (x y : Int64) : nA (x - y) ≤ nA x + nA y := by
  unfold nA
  rw [Int64.toInt_sub]
  exact Nat.le_trans (bmod_abs _) (Int.natAbs_sub_le _ _)
theorem nA_mul (x y : Int64) : nA (x * y) ≤ nA x * nA y := by
  unfold nA
  rw [Int64.toInt_mul]
  exact Nat.le_trans (bmod_abs _) (Nat.le_of_eq (Int.natAbs_mul _ _))
theorem nA_mulE {x y : Int64} (h : nA x * nA y < 2 ^ 63) : nA (x * y) = nA x * nA y := by
  unfold nA at h ⊢
  rw [← Int.natAbs_mul] at h ⊢
  rw [Int64.toInt_mul, Int.bmod_eq_of_le (by omega) (by omega)]
theorem fine_nA {x : Int64} (h : nA x < 2 ^ 63) : fine x := by
  unfold fine
  unfold nA at h
  omega
theorem nA_toInt {x : Int64} {B : Nat} (h : -(B : Int) ≤ x.toInt ∧ x.toInt ≤ (B : Int)) : nA x ≤ B := by
  unfold nA
  omega
