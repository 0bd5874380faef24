/-! the common divisor: its fuel, its sign, its size -/
def fibA : Nat → Nat → Nat → Nat
  | 0, a, _ => a
  | n + 1, a, b => fibA n b (a + b)
theorem fibA_add : ∀ (n a b : Nat), fibA (n + 2) a b = fibA (n + 1) a b + fibA n a b
  | 0, a, b => Nat.add_comm a b
  | n + 1, a, b => fibA_add n b (a + b)
def nA (x : Int64) : Nat := x.toInt.natAbs
theorem nA_0 {x : Int64} (h : nA x = 0) : x = 0 := by
  unfold nA at h
  exact Int64.toInt_inj.mp (Int.natAbs_eq_zero.mp h)
theorem nA_ne {x : Int64} (h : ¬ x = 0) : 0 < nA x := Nat.pos_of_ne_zero fun e => h (nA_0 e)
theorem rem_int (x y : Int64) (hy : ¬ y = 0) : (x - x / y * y).toInt = x.toInt.tmod y.toInt := by
  have h1 := x.toInt_lt
  have h2 := x.le_toInt
  have hb : -(2 : Int) ^ 63 ≤ x.toInt.tmod y.toInt ∧ x.toInt.tmod y.toInt < 2 ^ 63 := by
    have h := Int.natAbs_tmod_le x.toInt y.toInt
    have h3 := Nat.mod_le x.toInt.natAbs y.toInt.natAbs
    have h5 : (x.toInt.tmod y.toInt).natAbs = x.toInt.natAbs % y.toInt.natAbs := Int.natAbs_tmod ..
    by_cases h0 : 0 ≤ x.toInt
    · have := Int.tmod_nonneg y.toInt h0
      omega
    · have : x.toInt.tmod y.toInt ≤ 0 := by
        have h6 := Int.tmod_nonneg y.toInt (show 0 ≤ -x.toInt by omega)
        rw [Int.neg_tmod] at h6
        omega
      omega
  have e : x.toInt - x.toInt.tdiv y.toInt * y.toInt = x.toInt.tmod y.toInt := by
    have := Int.mul_tdiv_add_tmod x.toInt y.toInt
    rw [Int.mul_comm] at this
    omega
  rw [Int64.toInt_sub, Int64.toInt_mul, Int64.toInt_div]
  simp only [Int.bmod_mul_bmod, Int.bmod_sub_bmod]
  rw [e]
  exact Int.bmod_eq_of_le (by omega) (by omega)
theorem rem_nA (x y : Int64) (hy : ¬ y = 0) : nA (x - x / y * y) = nA x % nA y := by
  unfold nA
  rw [rem_int x y hy]
  exact Int.natAbs_tmod ..
theorem cgT_fib : ∀ (c : Nat) (x y : Int64), nA y < nA x → (nA x < fibA (c + 1) 1 1 ∨ nA y < fibA c 1 1) → cgT c x y
  | 0, x, y, h1, h2 => by
    rcases h2 with h | h
    · exact absurd h (by show ¬ nA x < 1; omega)
    · exact nA_0 (by have h : nA y < 1 := h; omega)
  | c + 1, x, y, h1, h2 => by
    by_cases hy : y = 0
    · exact Or.inl hy
    · refine Or.inr (cgT_fib c y _ ?_ ?_)
      · rw [rem_nA x y hy]
        exact Nat.mod_lt _ (nA_ne hy)
      · rw [rem_nA x y hy]
        by_cases h : nA y < fibA (c + 1) 1 1
        · exact Or.inl h
        · right
          rcases h2 with h3 | h3
          · have e := fibA_add c 1 1
            have h4 : nA x % nA y ≤ nA x - nA y := by
              rw [Nat.mod_eq_sub_mod (Nat.le_of_lt h1)]
              exact Nat.mod_le _ _
            have h3 : nA x < fibA (c + 2) 1 1 := h3
            omega
          · exact absurd h3 h
theorem nA_le (x : Int64) : nA x ≤ 2 ^ 63 := by
  unfold nA
  have h1 := x.toInt_lt
  have h2 := x.le_toInt
  omega
theorem cgT_100' (a b : Int64) : cgT 100 a b := by
  by_cases hb : b = 0
  · exact Or.inl hb
  · refine Or.inr (cgT_fib 99 b _ ?_ (Or.inl ?_))
    · rw [rem_nA a b hb]
      exact Nat.mod_lt _ (nA_ne hb)
    · exact Nat.lt_of_le_of_lt (nA_le b) (by decide +kernel)
