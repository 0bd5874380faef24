/-! desk and reference give the same part, integral and value -/
theorem st_AB {m : Nat → Nat} (hs : sumN m 7 ≤ 5) {F : Nat → Int64} (hF : ∀ j, nA (F j) ≤ 4000) (R O : Nat → Int64) {j i : Nat} (hj : j < 7) (hi : i < m j) : paP (tkS m F R O 7).1 0 (nI j - 3) (nI (i + 1)) = tlO (wkA F m (nI j - 3) (m j - 1 - i)) (wkB m (nI j - 3) (m j - 1 - i)) ∧ paP (tkS m F R O 7).2.1 1 (nI j - 3) (nI (i + 1)) = tlU (wkA F m (nI j - 3) (m j - 1 - i)) (wkB m (nI j - 3) (m j - 1 - i)) := by
  have hm : ∀ j, j < 7 → m j ≤ 5 := fun j hj => Nat.le_trans (sumN_le 7 j hj) hs
  have h5 := hm j hj
  obtain ⟨h1, h2⟩ := tk_spec hm hs F R O 7 (Nat.le_refl _) j hj i hi
  obtain ⟨b1, b2, b3⟩ := wk_small hs hF hj (n := m j - 1 - i) (by omega)
  have hne : ¬ wkB m (nI j - 3) (m j - 1 - i) = 0 := fun e => by rw [e] at b2; exact absurd b2 (by decide)
  rw [pa_at hj (by omega), pa_at hj (by omega), h1, h2, low_tl hne (fine_nA (by omega)) (fine_nA (by omega)), low_tl hne (fine_nA (by omega)) (fine_nA (by omega))]
  exact ⟨rfl, rfl⟩
theorem wkB_ne {m : Nat → Nat} (hs : sumN m 7 ≤ 5) {F : Nat → Int64} (hF : ∀ j, nA (F j) ≤ 4000) {j n : Nat} (hj : j < 7) (hn : n + 1 ≤ m j) : ¬ wkB m (nI j - 3) n = 0 := fun e => by
  have b2 := (wk_small hs hF hj hn).2.1
  rw [e] at b2
  exact absurd b2 (by decide)
theorem wkG_ok {m : Nat → Nat} (hs : sumN m 7 ≤ 5) {F : Nat → Int64} (hF : ∀ j, nA (F j) ≤ 4000) : wkG F m := by
  intro r hr n hn
  obtain ⟨j, hj, rfl⟩ := poss_of hr
  rw [manyP_rt hj] at hn
  exact cgP_ne _ (wkB_ne hs hF hj hn)
theorem i32_01 {w : Int32} : (w = 0 ∨ w = 1) ↔ (¬ w < 0 ∧ ¬ 2 ≤ w) := by
  constructor
  · rintro (rfl | rfl) <;> decide
  · intro ⟨h1, h2⟩
    obtain ⟨d, hd, e⟩ := nI_of2 (M := 1) (n := 1) (by decide) h1 (by
      have h3 := Int32.not_le.mp h2
      rw [Int32.lt_iff_toInt_lt] at h3
      rw [Int32.le_iff_toInt_le]
      have a1 : (2 : Int32).toInt = 2 := rfl
      have a2 : (1 : Int32).toInt = 1 := rfl
      omega)
    rcases (show d = 0 ∨ d = 1 by omega) with rfl | rfl
    · exact Or.inl e
    · exact Or.inr e
theorem sd_eq (w : Int32) : sd2 w = if w = 0 ∨ w = 1 then true else false := by
  unfold sd2
  by_cases h : w = 0 ∨ w = 1
  · obtain ⟨a, b⟩ := i32_01.mp h
    rw [if_pos h, if_neg a, if_neg b]
  · rw [if_neg h]
    by_cases a : w < 0
    · rw [if_pos a]
    · by_cases b : 2 ≤ w
      · rw [if_neg a, if_pos b]
      · exact absurd (i32_01.mpr ⟨a, b⟩) h
theorem pt_eq (m : Nat → Nat) (r k w : Int32) : mpOK m r k w = ptOK m r k w := by
  unfold mpOK ipP ptOK
  rw [sd_eq]
  by_cases h1 : k < 1
  · simp only [if_pos h1]
    split <;> simp_all
  · by_cases h2 : nI (manyP m r) < k
    · simp only [if_neg h1, if_pos h2]
      split <;> simp_all
    · have h3 : ¬ nI (manyP m r) ≤ 0 := fun q => h1 (Int32.lt_of_le_of_lt (Int32.le_trans (Int32.not_lt.mp h2) q) (by decide))
      simp only [if_neg h1, if_neg h2, if_neg h3]
      rfl
/-- the places of a part -/
theorem pt_at {m : Nat → Nat} (hs : sumN m 7 ≤ 5) {r k : Int32} (h1 : ¬ k < 1) (h2 : ¬ nI (manyP m r) < k) : ∃ j i, j < 7 ∧ i < m j ∧ r = nI j - 3 ∧ k = nI (i + 1) := by
  have hm : ∀ j, j < 7 → m j ≤ 5 := fun j hj => Nat.le_trans (sumN_le 7 j hj) hs
  have h3 : ¬ nI (manyP m r) ≤ 0 := fun q => h1 (Int32.lt_of_le_of_lt (Int32.le_trans (Int32.not_lt.mp h2) q) (by decide))
  obtain ⟨j, hj, rfl⟩ := poss_of (poss_many h3)
  rw [manyP_rt hj] at h2
  have h5 := hm j hj
  have h6 : ¬ 5 < k := fun q => h2 (Int32.lt_of_le_of_lt ((by decide +kernel : ∀ a, a < 6 → nI a ≤ 5) (m j) (by omega)) q)
  obtain ⟨i, hi, rfl⟩ := k5_of h1 h6
  have h7 := (nI_leI (a := i + 1) (b := m j) (by omega) (by omega)).mp (Int32.not_lt.mp h2)
  exact ⟨j, i, hj, by omega, rfl, rfl⟩
theorem part_main {m : Nat → Nat} (hs : sumN m 7 ≤ 5) {F : Nat → Int64} (hF : ∀ j, nA (F j) ≤ 4000) (R O : Nat → Int64) (r k w : Int32) (h : ptOK m r k w = true) : mpV F m r k w = ptV (tkS m F R O 7).1 (tkS m F R O 7).2.1 r k w := by
  have hm := (pt_eq m r k w).trans h
  unfold mpV ptV
  rw [if_pos hm]
  unfold ptOK at h
  by_cases h1 : k < 1
  · rw [if_pos h1] at h; cases h
  · by_cases h2 : nI (manyP m r) < k
    · rw [if_neg h1, if_pos h2] at h; cases h
    · obtain ⟨j, i, hj, hi, rfl, rfl⟩ := pt_at hs h1 h2
      obtain ⟨a, b⟩ := st_AB hs hF R O hj hi
      have hm5 : m j ≤ 5 := Nat.le_trans (sumN_le 7 j hj) hs
      have e : mpN m (nI j - 3) (nI (i + 1)) = m j - 1 - i := by
        unfold mpN
        rw [manyP_rt hj, nI_clamp (by omega)]
        omega
      rw [a, b, e]
theorem ig_eq (m : Nat → Nat) (r k w : Int32) : gdM m r k w = igOK m r k w := by
  unfold gdM igOK iiP pwP
  rw [sd_eq]
  have hk : k < 1 ↔ k ≤ 0 := by
    rw [Int32.lt_iff_toInt_lt, Int32.le_iff_toInt_le]
    have a1 : (1 : Int32).toInt = 1 := rfl
    have a2 : (0 : Int32).toInt = 0 := rfl
    omega
  by_cases h9 : r = 9
  · subst h9
    have e : manyP m 9 = 0 := by unfold manyP; rw [show poss 9 = false by decide]; rfl
    simp only [if_true, e]
    by_cases h0 : k ≤ 0
    · rw [if_pos h0, if_pos (hk.mpr h0)]
      simp only [Bool.false_eq_true, if_false]
      by_cases h1 : k < 0
      · rw [if_pos h1]
      · rw [if_neg h1, if_pos (show nI 0 ≤ k from Int32.not_lt.mp h1)]
    · rw [if_neg h0, if_neg (fun q => h0 (hk.mp q))]
      simp only [if_true]
  · simp only [if_neg h9, Bool.false_eq_true, if_false]
    by_cases h1 : k < 0
    · simp only [if_pos h1, Bool.false_eq_true, if_false]
    · by_cases h2 : nI (manyP m r) ≤ k
      · simp only [if_neg h1, if_pos h2, Bool.false_eq_true, if_false]
      · simp only [if_neg h1, if_neg h2, if_true]
theorem k64_ne {k : Int32} (h : ¬ k ≤ 0) : ¬ k.toInt64 = 0 ∧ 0 ≤ k.toInt64 := by
  have h1 : (0 : Int) < k.toInt := by
    have := Int32.not_le.mp h
    rw [Int32.lt_iff_toInt_lt] at this
    exact this
  have e : k.toInt64.toInt = k.toInt := Int32.toInt_toInt64 k
  refine ⟨fun q => ?_, ?_⟩
  · rw [q] at e
    have a2 : (0 : Int64).toInt = 0 := rfl
    omega
  · rw [Int64.le_iff_toInt_le, e]
    have a2 : (0 : Int64).toInt = 0 := rfl
    omega
/-- the places of an integral -/
theorem ig_at {m : Nat → Nat} (hs : sumN m 7 ≤ 5) {r k : Int32} (h1 : ¬ k < 0) (h2 : ¬ nI (manyP m r) ≤ k) : ∃ j i, j < 7 ∧ i < m j ∧ m j ≤ 5 ∧ r = nI j - 3 ∧ k = nI i ∧ k + 1 = nI (i + 1) ∧ igN m r k = m j - 1 - i := by
  have hm : ∀ j, j < 7 → m j ≤ 5 := fun j hj => Nat.le_trans (sumN_le 7 j hj) hs
  have h3 : ¬ nI (manyP m r) ≤ 0 := fun q => h2 (Int32.le_trans q (Int32.not_lt.mp h1))
  obtain ⟨j, hj, rfl⟩ := poss_of (poss_many h3)
  rw [manyP_rt hj] at h2
  have h5 := hm j hj
  obtain ⟨i, hi, rfl⟩ := nI_of2 (M := 5) (n := 5) (by decide) h1 (Int32.le_of_lt (Int32.lt_of_lt_of_le (Int32.not_le.mp h2) ((by decide +kernel : ∀ a, a < 6 → nI a ≤ 5) (m j) (by omega))))
  have h7 : ¬ m j ≤ i := fun q => h2 ((nI_leI (by omega) (by omega)).mpr q)
  refine ⟨j, i, hj, by omega, h5, rfl, rfl, nI_add i 1, ?_⟩
  unfold igN
  rw [manyP_rt hj, nI_clamp (by omega)]
  omega
/-- the lower number of an integral of a higher part -/
theorem ig_low {m : Nat → Nat} (hs : sumN m 7 ≤ 5) {F : Nat → Int64} (hF : ∀ j, nA (F j) ≤ 4000) {j n i : Nat} (hj : j < 7) (hn : n + 1 ≤ m j) (h0 : 0 < i) (h5 : i < 5) : ¬ tlU (wkA F m (nI j - 3) n) (wkB m (nI j - 3) n) * (nI i).toInt64 = 0 ∧ 0 ≤ tlU (wkA F m (nI j - 3) n) (wkB m (nI j - 3) n) * (nI i).toInt64 := by
  obtain ⟨b1, b2, b3⟩ := wk_small hs hF hj hn
  obtain ⟨t1, t2⟩ := tlU_pos (wkB_ne hs hF hj hn) (fine_nA (x := wkA F m (nI j - 3) n) (by omega)) (fine_nA (x := wkB m (nI j - 3) n) (by omega))
  generalize tlU (wkA F m (nI j - 3) n) (wkB m (nI j - 3) n) = u at t1 t2
  have ei : (nI i).toInt64.toInt = (i : Int) := by rw [Int32.toInt_toInt64, nI_toInt (by omega)]
  have hb : (1 : Int) ≤ u.toInt * (i : Int) ∧ u.toInt * (i : Int) ≤ 200000 * 5 := by
    constructor
    · have := Int.mul_le_mul (show (1 : Int) ≤ u.toInt by omega) (show (1 : Int) ≤ (i : Int) by omega) (by decide) (by omega)
      omega
    · exact Int.mul_le_mul (by omega) (by omega) (by omega) (by decide)
  have e : (u * (nI i).toInt64).toInt = u.toInt * (i : Int) := by
    rw [Int64.toInt_mul, ei]
    exact Int.bmod_eq_of_le (by omega) (by omega)
  refine ⟨fun q => ?_, ?_⟩
  · rw [q] at e
    have a2 : (0 : Int64).toInt = 0 := rfl
    omega
  · rw [Int64.le_iff_toInt_le, e]
    have a2 : (0 : Int64).toInt = 0 := rfl
    omega
theorem igH_ok {m : Nat → Nat} (hs : sumN m 7 ≤ 5) {F : Nat → Int64} (hF : ∀ j, nA (F j) ≤ 4000) (D : (Nat → Int64) × (Nat → Int64)) (r k : Int32) : igH F D m r k := by
  refine ⟨fun h => ?_, fun h h0 h1 => ?_⟩
  · unfold pwP at h
    have h0 : ¬ k ≤ 0 := fun q => by
      rw [if_pos q] at h
      split at h <;> cases h
    exact cgP_ne _ (k64_ne h0).1
  · obtain ⟨j, i, hj, hi, h5, rfl, rfl, e1, e2⟩ := ig_at hs (fun q => h0 (Int32.le_of_lt q)) h1
    have hi0 : 0 < i := Nat.pos_of_ne_zero fun q => h0 (by rw [q]; decide)
    rw [e2]
    exact cgP_ne _ (ig_low hs hF hj (by omega) hi0 (by omega)).1
theorem ig_main {m : Nat → Nat} (hs : sumN m 7 ≤ 5) {F : Nat → Int64} (hF : ∀ j, nA (F j) ≤ 4000) (R O : Nat → Int64) (r k w : Int32) (h : igOK m r k w = true) (Q : Nat → Int64) (S : SC) : igM F (dvD (belF m 7) (sumN m 7) F) m r k w Q S = igV (tkS m F R O 7).1 (tkS m F R O 7).2.1 (quoF m F 7) r k w := by
  have hg := (ig_eq m r k w).trans h
  rw [igM_t hg]
  unfold igV
  rcases hp : pwP r k with _ | _
  · rw [igZ_n hg hp]
    unfold gdM at hg
    rw [hp] at hg
    simp only [Bool.false_eq_true, if_false] at hg
    have h1 : ¬ k < 0 := fun q => by rw [if_pos q] at hg; cases hg
    have h2 : ¬ nI (manyP m r) ≤ k := fun q => by rw [if_neg h1, if_pos q] at hg; cases hg
    obtain ⟨j, i, hj, hi, h5, rfl, rfl, e1, e2⟩ := ig_at hs h1 h2
    have h9 : ¬ nI j - 3 = 9 := (by decide +kernel : ∀ j, j < 7 → ¬ nI j - 3 = 9) j hj
    rw [if_neg h9]
    obtain ⟨a, b⟩ := st_AB hs hF R O hj hi
    rw [e1, a, b]
    unfold igW
    rw [e2]
    by_cases h0 : i = 0
    · subst h0
      have z1 : nI 0 ≤ 0 := by decide
      have z2 : nI 0 = (0 : Int32) := rfl
      obtain ⟨a1, b1⟩ := st_AB hs hF R O hj hi
      simp only [if_pos z1, if_pos z2]
      rw [show (1 : Int32) = nI (0 + 1) from rfl, a1, b1]
      rfl
    · have z1 : ¬ nI i ≤ 0 := fun q => h0 (by have := (nI_leI (a := i) (b := 0) (by omega) (by decide)).mp q; omega)
      have z2 : ¬ nI i = (0 : Int32) := fun q => h0 (n0_eq (by omega) q)
      obtain ⟨l1, l2⟩ := ig_low hs hF hj (n := m j - 1 - i) (i := i) (by omega) (by omega) (by omega)
      rw [if_neg z1, if_neg z2, low_pos l1 l2]
  · rw [igZ_p hg hp]
    unfold pwP at hp
    have h9 : r = 9 := by
      by_cases q : r = 9
      · exact q
      · rw [if_neg q] at hp; cases hp
    have h0 : ¬ k ≤ 0 := fun q => by rw [if_pos h9, if_pos q] at hp; cases hp
    obtain ⟨k1, k2⟩ := k64_ne h0
    rw [if_pos h9, low_pos k1 k2]
    have e : getP (quoF m F 7) (k - 1) = igq (dvD (belF m 7) (sumN m 7) F).2 k := by
      have hk1 : (0 : Int) < k.toInt := by
        have := Int32.not_le.mp h0
        rw [Int32.lt_iff_toInt_lt] at this
        exact this
      have hk2 := k.toInt_lt
      have em : (k - 1).toInt = k.toInt - 1 := by
        rw [Int32.toInt_sub, show (1 : Int32).toInt = 1 from rfl]
        exact Int.bmod_eq_of_le (by omega) (by omega)
      unfold getP igq
      have c1 : ¬ k - 1 < 0 := by
        rw [Int32.lt_iff_toInt_lt, em, show (0 : Int32).toInt = 0 from rfl]
        omega
      have c2 : 6 < k - 1 ↔ 8 ≤ k := by
        rw [Int32.lt_iff_toInt_lt, Int32.le_iff_toInt_le, em, show (6 : Int32).toInt = 6 from rfl, show (8 : Int32).toInt = 8 from rfl]
        omega
      rw [if_neg c1]
      by_cases h8 : 8 ≤ k
      · rw [if_pos (c2.mpr h8), if_pos h8]
      · obtain ⟨-, q2⟩ := ixq h0 h8
        rw [if_neg (fun q => h8 (c2.mp q)), if_neg h8, quo_eq hs F (by omega)]
    rw [e]
/-! the value at t -/
theorem hx_mul {f : Nat → Int64} {t : Int64} {r : Int32} (hr : (-r).toInt64 = -r.toInt64) (hz : f 6 = 0) : hxP (mulP f r) t 6 7 = (t - r.toInt64) * hxP f t 6 7 := by
  simp only [hxP, mulP, Nat.reduceSub, Nat.reduceEqDiff, if_false, if_true, hr, hz, reduceIte]
  grind
theorem hx_56 {f : Nat → Int64} {t : Int64} (hz : f 6 = 0) : hxP f t 6 7 = hxP f t 5 6 := by
  simp only [hxP, Nat.reduceSub, hz]
  grind
def hxN (a b : Nat) : Nat → Nat
  | 0 => 0
  | n + 1 => hxN a b n * a + b
theorem hx_bd {f : Nat → Int64} {t : Int64} {a b m : Nat} (ht : nA t ≤ a) (hf : ∀ j, nA (f j) ≤ b) : ∀ n, nA (hxP f t m n) ≤ hxN a b n
  | 0 => Nat.le_refl _
  | n + 1 => Nat.le_trans (nA_add _ _) (Nat.add_le_add (Nat.le_trans (nA_mul _ _) (Nat.mul_le_mul (hx_bd ht hf n) ht)) (hf _))
theorem t20 {t : Int32} (h1 : ¬ t < -20) (h2 : ¬ 20 < t) : -20 ≤ t.toInt ∧ t.toInt ≤ 20 := by
  have a := Int32.not_lt.mp h1
  have b := Int32.not_lt.mp h2
  rw [Int32.le_iff_toInt_le] at a b
  exact ⟨a, b⟩
theorem rt_int : ∀ j, j < 7 → (nI j - 3).toInt64.toInt = (j : Int) - 3 ∧ (nI j - 3).toInt = (j : Int) - 3 := by decide +kernel
theorem hx_muls {f : Nat → Int64} {t : Int32} {s j : Nat} (hj : j < 7) (hM : Mon f s) (h1 : -20 ≤ t.toInt ∧ t.toInt ≤ 20) (hne : ¬ t = nI j - 3) (h0 : 0 < nA (hxP f t.toInt64 6 7) ∧ nA (hxP f t.toInt64 6 7) ≤ 23 ^ s) : ∀ k, s + k ≤ 5 → 0 < nA (hxP (mulN f (nI j - 3) k) t.toInt64 6 7) ∧ nA (hxP (mulN f (nI j - 3) k) t.toInt64 6 7) ≤ 23 ^ (s + k)
  | 0, _ => h0
  | k + 1, hk => by
    obtain ⟨a, b⟩ := hx_muls hj hM h1 hne h0 k (by omega)
    have hz : mulN f (nI j - 3) k 6 = 0 := (hM.muls (nI j - 3) k).2 6 (by omega)
    show 0 < nA (hxP (mulP (mulN f (nI j - 3) k) (nI j - 3)) t.toInt64 6 7) ∧ nA (hxP (mulP (mulN f (nI j - 3) k) (nI j - 3)) t.toInt64 6 7) ≤ 23 ^ (s + k + 1)
    rw [hx_mul (neg32 j hj) hz]
    have e : (t.toInt64 - (nI j - 3).toInt64).toInt = t.toInt - ((j : Int) - 3) := by
      rw [Int64.toInt_sub, Int32.toInt_toInt64, (rt_int j hj).1]
      exact Int.bmod_eq_of_le (by omega) (by omega)
    have hd0 : ¬ t.toInt = (j : Int) - 3 := fun q => hne (Int32.toInt_inj.mp (q.trans (rt_int j hj).2.symm))
    have hd : 0 < nA (t.toInt64 - (nI j - 3).toInt64) ∧ nA (t.toInt64 - (nI j - 3).toInt64) ≤ 23 := by
      unfold nA
      rw [e]
      omega
    have hp : 23 ^ (s + k + 1) ≤ 6436343 := (by decide +kernel : ∀ s, s < 6 → 23 ^ s ≤ 6436343) (s + k + 1) (by omega)
    have hm : nA (t.toInt64 - (nI j - 3).toInt64) * nA (hxP (mulN f (nI j - 3) k) t.toInt64 6 7) ≤ 23 ^ (s + k + 1) := by
      rw [Nat.pow_succ, Nat.mul_comm]
      exact Nat.mul_le_mul b hd.2
    rw [nA_mulE (by omega)]
    exact ⟨Nat.mul_pos hd.1 a, hm⟩
theorem hx_bel {m : Nat → Nat} (hs : sumN m 7 ≤ 5) {t : Int32} (h1 : -20 ≤ t.toInt ∧ t.toInt ≤ 20) (hn : ∀ j, j < 7 → t = nI j - 3 → m j = 0) : ∀ j, j ≤ 7 → 0 < nA (hxP (belF m j) t.toInt64 6 7) ∧ nA (hxP (belF m j) t.toInt64 6 7) ≤ 23 ^ sumN m j
  | 0, _ => by
    have e : hxP oneP t.toInt64 6 7 = 1 := by
      simp only [hxP, oneP, Nat.reduceSub, Nat.reduceEqDiff, if_false, if_true, reduceIte]
      grind
    show 0 < nA (hxP oneP t.toInt64 6 7) ∧ nA (hxP oneP t.toInt64 6 7) ≤ 1
    rw [e]
    decide
  | j + 1, h => by
    have ih := hx_bel hs h1 hn j (by omega)
    have h5 : sumN m (j + 1) ≤ 5 := Nat.le_trans (sumN_mono h) hs
    by_cases e : t = nI j - 3
    · have e0 := hn j (by omega) e
      show 0 < nA (hxP (mulN (belF m j) (nI j - 3) (m j)) t.toInt64 6 7) ∧ nA (hxP (mulN (belF m j) (nI j - 3) (m j)) t.toInt64 6 7) ≤ 23 ^ (sumN m j + m j)
      rw [e0]
      exact ih
    · exact hx_muls (show j < 7 by omega) (Mon.bel m j) h1 e ih (m j) h5
theorem val_main {m : Nat → Nat} (hs : sumN m 7 ≤ 5) {F : Nat → Int64} (hF : ∀ j, nA (F j) ≤ 4000) (t w : Int32) : vmOK m t w = vlOK m t w ∧ (vlOK m t w = true → ¬ cgP (hxP F t.toInt64 6 7) (hxP (belF m 7) t.toInt64 5 6) = 0 ∧ (if w = 0 then vmO F (belF m 7) t else vmU F (belF m 7) t) = vlV F (belF m 7) t w) := by
  have hm : ∀ j, j < 7 → m j ≤ 5 := fun j hj => Nat.le_trans (sumN_le 7 j hj) hs
  have hq : 0 < nI (manyP m t) ↔ ¬ nI (manyP m t) = 0 := (by decide +kernel : ∀ a, a < 6 → (0 < nI a ↔ ¬ nI a = 0)) (manyP m t) (Nat.lt_succ_of_le (manyP_le hm t))
  refine ⟨?_, fun h => ?_⟩
  · unfold vmOK vlOK
    rw [sd_eq]
    by_cases a : t < -20
    · rw [if_pos a, if_pos a]
    · rw [if_neg a, if_neg a]
      by_cases b : 20 < t
      · rw [if_pos b, if_pos b]
      · rw [if_neg b, if_neg b]
        by_cases c : nI (manyP m t) = 0
        · rw [if_pos c, if_neg (fun q => hq.mp q c)]
        · rw [if_neg c, if_pos (hq.mpr c)]
  · unfold vlOK at h
    have a : ¬ t < -20 := fun q => by rw [if_pos q] at h; cases h
    have b : ¬ 20 < t := fun q => by rw [if_neg a, if_pos q] at h; cases h
    have c : ¬ 0 < nI (manyP m t) := fun q => by rw [if_neg a, if_neg b, if_pos q] at h; cases h
    have ht := t20 a b
    have hn : ∀ j, j < 7 → t = nI j - 3 → m j = 0 := fun j hj e => by
      have c2 : nI (manyP m t) = 0 := by
        by_cases q : nI (manyP m t) = 0
        · exact q
        · exact absurd (hq.mpr q) c
      rw [e, manyP_rt hj] at c2
      exact n0_eq (by have := hm j hj; omega) c2
    obtain ⟨z1, z2⟩ := hx_bel hs ht hn 7 (Nat.le_refl _)
    have hp : 23 ^ sumN m 7 ≤ 6436343 := (by decide +kernel : ∀ s, s < 6 → 23 ^ s ≤ 6436343) (sumN m 7) (by omega)
    have hz : belF m 7 6 = 0 := (Mon.bel m 7).2 6 (by omega)
    have e56 := hx_56 (t := t.toInt64) hz
    have hne : ¬ hxP (belF m 7) t.toInt64 6 7 = 0 := fun q => by rw [q] at z1; exact absurd z1 (by decide)
    have hb : nA (hxP F t.toInt64 6 7) ≤ hxN 20 4000 7 := hx_bd (nA_toInt (by rw [Int32.toInt_toInt64]; exact ht)) hF 7
    have hb2 : hxN 20 4000 7 < 2 ^ 62 := by decide +kernel
    unfold vmO vmU vlV
    rw [← e56]
    exact ⟨cgP_ne _ hne, (low_tl hne (fine_nA (by omega)) (fine_nA (by omega)) w).symm⟩
theorem cof_main {m : Nat → Nat} (hs : sumN m 7 ≤ 5) (F : Nat → Int64) (o i : Int32) : mcV F (belF m 7) (dvD (belF m 7) (sumN m 7) F).2 o i = cfP F (belF m 7) (quoF m F 7) o i := by
  unfold mcV mcOK cfP
  have hi : ¬ i < 0 → ¬ 6 < i → i.toNatClampNeg ≤ 6 := fun a b => by have := (ix6 a b).2; omega
  by_cases h0 : o = 0
  · subst h0
    have a1 : ¬ (0 : Int32) < 0 := by decide
    have a2 : ¬ (2 : Int32) < 0 := by decide
    have a3 : ¬ (0 : Int32) = 1 := by decide
    unfold getP
    simp only [if_neg a1, if_neg a2, if_neg a3, if_true]
    by_cases b1 : i < 0
    · simp only [if_pos b1, Bool.false_eq_true, if_false]
    · by_cases b2 : 6 < i
      · simp only [if_neg b1, if_pos b2, Bool.false_eq_true, if_false]
      · simp only [if_neg b1, if_neg b2, if_true]
  · by_cases h1 : o = 1
    · subst h1
      have a1 : ¬ (1 : Int32) < 0 := by decide
      have a2 : ¬ (2 : Int32) < 1 := by decide
      have a3 : ¬ (1 : Int32) = 0 := by decide
      unfold getP
      simp only [if_neg a1, if_neg a2, if_neg a3, if_true]
      by_cases b1 : i < 0
      · simp only [if_pos b1, Bool.false_eq_true, if_false]
      · by_cases b2 : 6 < i
        · simp only [if_neg b1, if_pos b2, Bool.false_eq_true, if_false]
        · by_cases b3 : i ≤ 5
          · simp only [if_neg b1, if_neg b2, if_pos b3, if_true]
          · simp only [if_neg b1, if_neg b2, if_neg b3, Bool.false_eq_true, if_false]
            obtain ⟨e, q⟩ := ix6 b1 b2
            have e6 : i.toNatClampNeg = 6 := by
              by_cases h6 : i.toNatClampNeg ≤ 5
              · exact absurd (by rw [e]; exact (nI_leI (a := i.toNatClampNeg) (b := 5) (by omega) (by decide)).mpr h6) b3
              · omega
            rw [e6]
            exact ((Mon.bel m 7).2 6 (by omega)).symm
    · by_cases h2 : o = 2
      · subst h2
        have a1 : ¬ (2 : Int32) < 0 := by decide
        have a2 : ¬ (2 : Int32) < 2 := by decide
        have a3 : ¬ (2 : Int32) = 0 := by decide
        have a4 : ¬ (2 : Int32) = 1 := by decide
        unfold getP
        simp only [if_neg a1, if_neg a2, if_neg a3, if_neg a4, if_true]
        by_cases b1 : i < 0
        · simp only [if_pos b1, Bool.false_eq_true, if_false]
        · by_cases b2 : 6 < i
          · simp only [if_neg b1, if_pos b2, Bool.false_eq_true, if_false]
          · simp only [if_neg b1, if_neg b2, if_true]
            exact quo_eq hs F (hi b1 b2)
      · simp only [if_neg h0, if_neg h1, if_neg h2]
        by_cases c1 : o < 0
        · simp only [if_pos c1, Bool.false_eq_true, if_false]
        · by_cases c2 : 2 < o
          · simp only [if_neg c1, if_pos c2, Bool.false_eq_true, if_false]
          · obtain ⟨d, hd, e⟩ := nI_of2 (M := 2) (n := 2) (by decide) c1 (Int32.not_lt.mp c2)
            rcases (show d = 0 ∨ d = 1 ∨ d = 2 by omega) with rfl | rfl | rfl
            · exact absurd e h0
            · exact absurd e h1
            · exact absurd e h2
