/-! sizes of all that the parts are made of -/
def hbN (b : Nat → Nat) : Nat → Nat
  | 0 => 0
  | n + 1 => b (6 - n) + 3 * hbN b n
def dbN (b : Nat → Nat) : Nat → Nat → Nat
  | 0 => b
  | k + 1 => fun j => hbN (dbN b k) (6 - j)
theorem hrn_bd {f : Nat → Int64} {r : Int64} {b : Nat → Nat} (hr : nA r ≤ 3) (hf : ∀ j, nA (f j) ≤ b j) : ∀ n, nA (hrn f r n) ≤ hbN b n
  | 0 => Nat.le_refl _
  | n + 1 => Nat.le_trans (nA_add _ _) (Nat.add_le_add (hf _) (Nat.le_trans (nA_mul _ _) (Nat.mul_le_mul hr (hrn_bd hr hf n))))
theorem dvN_bd {f : Nat → Int64} {r : Int32} {b : Nat → Nat} (hr : nA r.toInt64 ≤ 3) (hf : ∀ j, nA (f j) ≤ b j) : ∀ k j, nA (dvN f r k j) ≤ dbN b k j
  | 0, j => hf j
  | k + 1, j => hrn_bd hr (fun j => dvN_bd hr hf k j) (6 - j)
theorem rt_3 : ∀ j, j < 7 → nA (nI j - 3).toInt64 ≤ 3 := by decide +kernel
theorem tau_bd {F : Nat → Int64} (hF : ∀ j, nA (F j) ≤ 4000) {j0 : Nat} (hj : j0 < 7) {k : Nat} (hk : k ≤ 4) : nA (tau F (nI j0 - 3) k) ≤ 10000000 := by
  refine Nat.le_trans (hrn_bd (b := dbN (fun _ => 4000) k) (rt_3 j0 hj) (fun j => dvN_bd (rt_3 j0 hj) hF k j) 7) ?_
  rcases (show k = 0 ∨ k = 1 ∨ k = 2 ∨ k = 3 ∨ k = 4 by omega) with rfl | rfl | rfl | rfl | rfl <;> decide +kernel
theorem mulP_bd {f : Nat → Int64} {r : Int32} {B : Nat} (h1 : nA r.toInt64 ≤ 6) (h2 : nA (-r).toInt64 ≤ 6) (hf : ∀ j, nA (f j) ≤ B) (j : Nat) : nA (mulP f r j) ≤ 7 * B := by
  unfold mulP
  by_cases h : j = 0
  · simp only [if_pos h]
    have := Nat.le_trans (nA_mul _ _) (Nat.mul_le_mul h2 (hf 0))
    omega
  · simp only [if_neg h]
    have a1 := nA_sub (f (j - 1)) (r.toInt64 * f j)
    have a2 := Nat.le_trans (nA_mul _ _) (Nat.mul_le_mul h1 (hf j))
    have a3 := hf (j - 1)
    omega
theorem mulN_bd {f : Nat → Int64} {r : Int32} {B : Nat} (h1 : nA r.toInt64 ≤ 6) (h2 : nA (-r).toInt64 ≤ 6) (hf : ∀ j, nA (f j) ≤ B) : ∀ t j, nA (mulN f r t j) ≤ 7 ^ t * B
  | 0, j => by rw [Nat.pow_zero, Nat.one_mul]; exact hf j
  | t + 1, j => by
    have := mulP_bd h1 h2 (mulN_bd h1 h2 hf t) j
    rw [Nat.pow_succ, Nat.mul_comm (7 ^ t) 7, Nat.mul_assoc]
    exact this
theorem df_6 : ∀ i, i < 7 → ∀ j, j < 7 → nA (nI i - 3 - (nI j - 3)).toInt64 ≤ 6 ∧ nA (-(nI i - 3 - (nI j - 3))).toInt64 ≤ 6 ∧ (¬ i = j → 0 < nA (-(nI i - 3 - (nI j - 3))).toInt64) := by decide +kernel
theorem rs_bd (m : Nat → Nat) {j0 : Nat} (hj : j0 < 7) : ∀ j, j ≤ 7 → ∀ i, nA (rsF m (nI j0 - 3) j i) ≤ 7 ^ sumN (othT m (nI j0 - 3)) j
  | 0, _, i => by
    show nA (if i = 0 then 1 else 0) ≤ 1
    split <;> decide
  | j + 1, h, i => by
    have k := df_6 j (by omega) j0 hj
    have := mulN_bd (r := nI j - 3 - (nI j0 - 3)) k.1 k.2.1 (rs_bd m hj j (by omega)) (othT m (nI j0 - 3) j) i
    show _ ≤ 7 ^ (sumN (othT m (nI j0 - 3)) j + othT m (nI j0 - 3) j)
    rw [Nat.pow_add, Nat.mul_comm]
    exact this
theorem mulN_0 {f : Nat → Int64} {r : Int32} {B : Nat} (h0 : 0 < nA (-r).toInt64) (h2 : nA (-r).toInt64 ≤ 6) (hf : 0 < nA (f 0) ∧ nA (f 0) ≤ B) : ∀ t, 6 ^ t * B < 2 ^ 63 → 0 < nA (mulN f r t 0) ∧ nA (mulN f r t 0) ≤ 6 ^ t * B
  | 0, _ => by rw [Nat.pow_zero, Nat.one_mul]; exact hf
  | t + 1, h => by
    rw [Nat.pow_succ, Nat.mul_comm (6 ^ t) 6, Nat.mul_assoc] at h ⊢
    obtain ⟨a, b⟩ := mulN_0 h0 h2 hf t (by omega)
    show 0 < nA ((-r).toInt64 * mulN f r t 0) ∧ _
    have hm : nA (-r).toInt64 * nA (mulN f r t 0) ≤ 6 * (6 ^ t * B) := Nat.mul_le_mul h2 b
    have e : nA ((-r).toInt64 * mulN f r t 0) = nA (-r).toInt64 * nA (mulN f r t 0) := nA_mulE (by omega)
    refine ⟨by rw [e]; exact Nat.mul_pos h0 a, ?_⟩
    show nA ((-r).toInt64 * mulN f r t 0) ≤ _
    rw [e]; exact hm
theorem oth_ne {m : Nat → Nat} {j j0 : Nat} (h : j = j0) : othT m (nI j0 - 3) j = 0 := by
  subst h
  exact if_pos rfl
theorem p6_le {s : Nat} (h : s ≤ 5) : 6 ^ s ≤ 7776 := (by decide +kernel : ∀ s, s < 6 → 6 ^ s ≤ 7776) s (by omega)
theorem rs_0 {m : Nat → Nat} (hs : sumN m 7 ≤ 5) {j0 : Nat} (hj : j0 < 7) : ∀ j, j ≤ 7 → 0 < nA (rsF m (nI j0 - 3) j 0) ∧ nA (rsF m (nI j0 - 3) j 0) ≤ 6 ^ sumN (othT m (nI j0 - 3)) j
  | 0, _ => (by decide : 0 < nA (1 : Int64) ∧ nA (1 : Int64) ≤ 1)
  | j + 1, h => by
    have h5 : sumN (othT m (nI j0 - 3)) (j + 1) ≤ 5 := Nat.le_trans (oth_le m _ (j + 1)) (Nat.le_trans (sumN_mono h) hs)
    have ih := rs_0 hs hj j (by omega)
    by_cases e : j = j0
    · have e0 := oth_ne (m := m) e
      show 0 < nA (mulN (rsF m (nI j0 - 3) j) (nI j - 3 - (nI j0 - 3)) (othT m (nI j0 - 3) j) 0) ∧ nA (mulN (rsF m (nI j0 - 3) j) (nI j - 3 - (nI j0 - 3)) (othT m (nI j0 - 3) j) 0) ≤ 6 ^ (sumN (othT m (nI j0 - 3)) j + othT m (nI j0 - 3) j)
      rw [e0]
      exact ih
    · have k := df_6 j (by omega) j0 hj
      have hp : 6 ^ (sumN (othT m (nI j0 - 3)) j + othT m (nI j0 - 3) j) ≤ 7776 := p6_le h5
      have := mulN_0 (r := nI j - 3 - (nI j0 - 3)) (k.2.2 e) k.2.1 ih (othT m (nI j0 - 3) j) (by rw [← Nat.pow_add, Nat.add_comm]; omega)
      show 0 < nA (mulN (rsF m (nI j0 - 3) j) (nI j - 3 - (nI j0 - 3)) (othT m (nI j0 - 3) j) 0) ∧ nA (mulN (rsF m (nI j0 - 3) j) (nI j - 3 - (nI j0 - 3)) (othT m (nI j0 - 3) j) 0) ≤ 6 ^ (sumN (othT m (nI j0 - 3)) j + othT m (nI j0 - 3) j)
      rw [Nat.pow_add, Nat.mul_comm]
      exact this
/-- the other roots are as many as are left -/
theorem oth_sum (m : Nat → Nat) {j0 : Nat} (hj : j0 < 7) : ∀ j, j ≤ 7 → sumN (othT m (nI j0 - 3)) j + (if j0 < j then m j0 else 0) = sumN m j
  | 0, _ => by rw [if_neg (by omega)]; rfl
  | j + 1, h => by
    have ih := oth_sum m hj j (by omega)
    show sumN (othT m (nI j0 - 3)) j + othT m (nI j0 - 3) j + _ = sumN m j + m j
    by_cases e : j = j0
    · rw [oth_ne e, if_pos (by omega), e]
      rw [e, if_neg (by omega)] at ih
      omega
    · have e1 : othT m (nI j0 - 3) j = m j := by
        unfold othT
        rw [if_neg (fun q => e ((by decide +kernel : ∀ a, a < 7 → ∀ b, b < 7 → nI a - 3 = nI b - 3 → a = b) j (by omega) j0 hj q))]
      rw [e1]
      by_cases h1 : j0 < j
      · rw [if_pos h1] at ih
        rw [if_pos (by omega)]
        omega
      · rw [if_neg h1] at ih
        rw [if_neg (by omega)]
        omega
theorem oth_7 {m : Nat → Nat} (hs : sumN m 7 ≤ 5) {j0 : Nat} (hj : j0 < 7) : sumN (othT m (nI j0 - 3)) 7 + m j0 ≤ 5 := by
  have := oth_sum m hj 7 (Nat.le_refl _)
  rw [if_pos hj] at this
  omega
theorem pwM_bd {v g0 : Int64} {g : Nat} (hg : nA g0 ≤ g) : ∀ n, nA (pwM v g0 n) ≤ nA v * g ^ n
  | 0 => by rw [Nat.pow_zero, Nat.mul_one]; exact Nat.le_refl _
  | n + 1 => by
    rw [Nat.pow_succ, ← Nat.mul_assoc]
    exact Nat.le_trans (nA_mul _ _) (Nat.mul_le_mul (pwM_bd hg n) hg)
theorem pwM_0 {g0 : Int64} {g : Nat} (h0 : 0 < nA g0) (hg : nA g0 ≤ g) : ∀ n, g ^ n < 2 ^ 63 → 0 < nA (pwM 1 g0 n)
  | 0, _ => (by decide : 0 < nA (1 : Int64))
  | n + 1, h => by
    have hg1 : 1 ≤ g := Nat.le_trans h0 hg
    have h9 : g ^ n ≤ g ^ (n + 1) := Nat.pow_le_pow_right hg1 (Nat.le_succ n)
    have ih := pwM_0 h0 hg n (by omega)
    have hb := pwM_bd (v := 1) hg n
    have h1 : nA (1 : Int64) = 1 := by decide
    rw [h1, Nat.one_mul] at hb
    show 0 < nA (pwM 1 g0 n * g0)
    have hm : nA (pwM 1 g0 n) * nA g0 ≤ g ^ (n + 1) := by
      rw [Nat.pow_succ]
      exact Nat.mul_le_mul hb hg
    rw [nA_mulE (by omega)]
    exact Nat.mul_pos ih h0
theorem wkV_bd {G row : Nat → Int64} {g X j : Nat} {v : Int64} (hg1 : 1 ≤ g) (hG : ∀ i, nA (G i) ≤ g) (hX : ∀ q, q < j → nA (row q) ≤ X) : ∀ i, i ≤ j → nA (wkV G row j v i) ≤ nA v + i * (g ^ j * X)
  | 0, _ => by rw [Nat.zero_mul]; exact Nat.le_refl _
  | i + 1, h => by
    have ih := wkV_bd (v := v) hg1 hG hX i (by omega)
    have h1 : nA (G (i + 1) * row (j - (i + 1))) ≤ g * X := Nat.le_trans (nA_mul _ _) (Nat.mul_le_mul (hG _) (hX _ (by omega)))
    have h2 : nA (pwM (G (i + 1) * row (j - (i + 1))) (G 0) i) ≤ g ^ j * X := by
      refine Nat.le_trans (pwM_bd (hG 0) i) (Nat.le_trans (Nat.mul_le_mul h1 (Nat.le_refl _)) ?_)
      rw [Nat.mul_comm g X, Nat.mul_assoc, Nat.mul_comm, ← Nat.pow_succ']
      exact Nat.mul_le_mul (Nat.pow_le_pow_right hg1 h) (Nat.le_refl _)
    have h3 := nA_sub (wkV G row j v i) (pwM (G (i + 1) * row (j - (i + 1))) (G 0) i)
    show nA (wkV G row j v i - pwM (G (i + 1) * row (j - (i + 1))) (G 0) i) ≤ _
    rw [Nat.succ_mul]
    omega
def xb (g : Nat) : Nat → Nat
  | 0 => 10000000
  | n + 1 => g ^ (n + 1) * (10000000 + (n + 1) * xb g n)
theorem xb_mono {g : Nat} (hg : 1 ≤ g) (n : Nat) : xb g n ≤ xb g (n + 1) := by
  show _ ≤ g ^ (n + 1) * (10000000 + (n + 1) * xb g n)
  have h1 : 1 ≤ g ^ (n + 1) := Nat.one_le_pow _ _ hg
  have h2 : xb g n ≤ 10000000 + (n + 1) * xb g n := by rw [Nat.succ_mul]; omega
  calc xb g n ≤ 10000000 + (n + 1) * xb g n := h2
    _ = 1 * (10000000 + (n + 1) * xb g n) := (Nat.one_mul _).symm
    _ ≤ _ := Nat.mul_le_mul h1 (Nat.le_refl _)
theorem xb_le {g : Nat} (hg : 1 ≤ g) {a b : Nat} (h : a ≤ b) : xb g a ≤ xb g b := by
  induction h with
  | refl => exact Nat.le_refl _
  | step _ ih => exact Nat.le_trans ih (xb_mono hg _)
theorem wkX_bd {N G : Nat → Int64} {g : Nat} (hg1 : 1 ≤ g) (hG : ∀ i, nA (G i) ≤ g) : ∀ n, (∀ j, j ≤ n → nA (N j) ≤ 10000000) → nA (wkX N G n) ≤ xb g n := by
  intro n
  induction n using Nat.strongRecOn with
  | ind n ih =>
    intro hN
    rw [wkX_rec]
    cases n with
    | zero => exact hN 0 (Nat.le_refl _)
    | succ n =>
      have h := wkV_bd (row := wkX N G) (v := pwM (N (n + 1)) (G 0) (n + 1)) (X := xb g n) (j := n + 1) hg1 hG (fun q hq => Nat.le_trans (ih q hq (fun j hj => hN j (by omega))) (xb_le hg1 (by omega))) (n + 1) (Nat.le_refl _)
      have h2 : nA (pwM (N (n + 1)) (G 0) (n + 1)) ≤ 10000000 * g ^ (n + 1) := Nat.le_trans (pwM_bd (hG 0) (n + 1)) (Nat.mul_le_mul (hN _ (Nat.le_refl _)) (Nat.le_refl _))
      refine Nat.le_trans h ?_
      show _ ≤ g ^ (n + 1) * (10000000 + (n + 1) * xb g n)
      rw [Nat.mul_add, Nat.mul_comm (g ^ (n + 1)) 10000000, Nat.mul_left_comm (n + 1)]
      omega
theorem xb_num : ∀ d, d < 5 → ∀ n, n < 5 → d + n + 1 ≤ 5 → xb (7 ^ d) n < 2 ^ 62 ∧ (7 ^ d) ^ (n + 1) ≤ 200000 := by decide +kernel
/-- what a part is made of: both numbers are small, and the lower one is not 0 -/
theorem wk_small {m : Nat → Nat} (hs : sumN m 7 ≤ 5) {F : Nat → Int64} (hF : ∀ j, nA (F j) ≤ 4000) {j0 : Nat} (hj : j0 < 7) {n : Nat} (hn : n + 1 ≤ m j0) : nA (wkA F m (nI j0 - 3) n) < 2 ^ 62 ∧ 0 < nA (wkB m (nI j0 - 3) n) ∧ nA (wkB m (nI j0 - 3) n) ≤ 200000 := by
  have h7 := oth_7 hs hj
  obtain ⟨x1, x2⟩ := xb_num (sumN (othT m (nI j0 - 3)) 7) (by omega) n (by omega) (by omega)
  have hG := rs_bd m hj 7 (Nat.le_refl _)
  have hg1 : 1 ≤ 7 ^ sumN (othT m (nI j0 - 3)) 7 := Nat.one_le_pow _ _ (by decide)
  obtain ⟨z1, z2⟩ := rs_0 hs hj 7 (Nat.le_refl _)
  refine ⟨Nat.lt_of_le_of_lt (wkX_bd hg1 hG n (fun j hjn => ?_)) x1, pwM_0 z1 (hG 0) (n + 1) (by omega), ?_⟩
  · rw [(arO_spec F (nI j0 - 3) 6 (Nat.le_refl _)).1 j (by omega)]
    exact tau_bd hF hj (by omega)
  · have hb := pwM_bd (v := 1) (hG 0) (n + 1)
    have h1 : nA (1 : Int64) = 1 := by decide
    rw [h1, Nat.one_mul] at hb
    exact Nat.le_trans hb x2
