/-! the reference: f its draft (n characters), read up to i -/
def lookM (f : Nat → Int32) (n i : Nat) : Int32 := if n ≤ i then 0 else f i
def chOK (f : Nat → Int32) (n : Nat) : Prop := ∀ j, j < n → narrow .char (.int (f j)) = .int (f j)
theorem look_n {f : Nat → Int32} {n i : Nat} (h : chOK f n) : narrow .char (.int (lookM f n i)) = .int (lookM f n i) := by
  unfold lookM
  split
  · rfl
  · exact h i (by omega)
theorem takes_look {f : Nat → Int32} {n i : Nat} {c : Int32} (hc : ¬ c = 0) (h : lookM f n i = c) : takesP f n i c = true := by
  unfold lookM at h
  unfold takesP
  split at h
  · exact absurd h.symm hc
  · next e => rw [if_neg e, if_pos h]
theorem takes_nlook {f : Nat → Int32} {n i : Nat} {c : Int32} (h : ¬ lookM f n i = c) : takesP f n i c = false := by
  unfold lookM at h
  unfold takesP
  split at h
  · next e => rw [if_pos e]
  · next e => rw [if_neg e, if_neg h]
def apM (n : Nat) (c : Int32) : Bool := if c < 32 then false else if 126 < c then false else if n < 30 then true else false
def apMF (f : Nat → Int32) (n : Nat) (c : Int32) : Nat → Int32 := if apM n c then upd f n (vp_nar .char c) else f
def apMN (n : Nat) (c : Int32) : Nat := if apM n c then n + 1 else n
def isdM (f : Nat → Int32) (n i : Nat) : Bool := if lookM f n i < 48 then false else if 57 < lookM f n i then false else true
theorem isd_lt {f : Nat → Int32} {n i : Nat} (h : isdM f n i = true) : i < n := by
  rcases Nat.lt_or_ge i n with h2 | h2
  · exact h2
  · unfold isdM lookM at h
    rw [if_pos h2] at h
    exact absurd h (by decide)
theorem isd_v {f : Nat → Int32} {n i : Nat} (h : isdM f n i = true) : ∃ d : Nat, d ≤ 9 ∧ f i - 48 = nI d := by
  have hi := isd_lt h
  have e0 : lookM f n i = f i := by unfold lookM; rw [if_neg (by omega)]
  unfold isdM at h
  rw [e0] at h
  by_cases h1 : f i < 48
  · rw [if_pos h1] at h; cases h
  · by_cases h2 : 57 < f i
    · rw [if_neg h1, if_pos h2] at h; cases h
    · have e1 : ¬ f i < 0 := fun h => h1 (Int32.lt_trans h (by decide))
      obtain ⟨d, hd, e⟩ := nI_of2 (M := 57) (n := 57) (by decide) e1 (Int32.not_lt.mp h2)
      rw [e] at h1 ⊢
      have h3 : 48 ≤ d := by
        rcases Nat.lt_or_ge d 48 with h4 | h4
        · exact absurd (nI_lt h4 (by decide)) h1
        · exact h4
      exact ⟨d - 48, by omega, pk_sub h3⟩
def tnV (f : Nat → Int32) (n i : Nat) : Int64 := if isdM f n i then (if isdM f n (i + 1) then 10 * (f i - 48).toInt64 + (f (i + 1) - 48).toInt64 else (f i - 48).toInt64) else 1
def tnN (f : Nat → Int32) (n i : Nat) : Nat := if isdM f n i then (if isdM f n (i + 1) then i + 1 + 1 else i + 1) else i
theorem tnN_le {f : Nat → Int32} {n i : Nat} (h : i ≤ n) : tnN f n i ≤ n := by
  unfold tnN
  repeat' split
  · next e => exact isd_lt e
  · next e _ => exact isd_lt e
  · exact h
def mtE (sg num : Int64) (T : Nat → Int64) (pw : Int32) (j : Nat) : Bool × Nat × (Nat → Int64) :=
  if pw ≤ 6 then (true, j, vp_updL T pw.toNatClampNeg (T pw.toNatClampNeg + sg * num)) else (false, j, T)
def mtX (f : Nat → Int32) (n : Nat) (sg num : Int64) (T : Nat → Int64) (j : Nat) : Bool × Nat × (Nat → Int64) :=
  if takesP f n j 94 then (if isdM f n (takesN f n j 94) then mtE sg num T (f (takesN f n j 94) - 48) (takesN f n j 94 + 1) else (false, takesN f n j 94, T)) else mtE sg num T 1 (takesN f n j 94)
def mtB (f : Nat → Int32) (n : Nat) (sg num : Int64) (dg : Bool) (T : Nat → Int64) (j : Nat) : Bool × Nat × (Nat → Int64) :=
  if takesP f n j 120 then mtX f n sg num T (takesN f n j 120) else if dg then mtE sg num T 0 (takesN f n j 120) else (false, takesN f n j 120, T)
def mtS (f : Nat → Int32) (n : Nat) (sg : Int64) (i : Nat) (T : Nat → Int64) : Bool × Nat × (Nat → Int64) := mtB f n sg (tnV f n i) (isdM f n i) T (tnN f n i)
theorem mtE_n (sg num : Int64) (T : Nat → Int64) (pw : Int32) (j : Nat) : (mtE sg num T pw j).2.1 = j := by
  unfold mtE
  split <;> rfl
theorem mtS_le {f : Nat → Int32} {n i : Nat} {sg : Int64} {T : Nat → Int64} (h : i ≤ n) : (mtS f n sg i T).2.1 ≤ n := by
  unfold mtS mtB mtX
  repeat' split
  · next e => rw [mtE_n]; exact isd_lt e
  · exact takesN_le (takesN_le (tnN_le h))
  · rw [mtE_n]; exact takesN_le (takesN_le (tnN_le h))
  · rw [mtE_n]; exact takesN_le (tnN_le h)
  · exact takesN_le (tnN_le h)
def sgL (b : Bool) : Int64 := if b then -1 else 1
def mstep (f : Nat → Int32) (n i : Nat) (T : Nat → Int64) : Bool × Nat × (Nat → Int64) :=
  if takesP f n i 43 then mtS f n (sgL (takesP f n i 45)) (takesN f n i 43) T
  else if takesP f n (takesN f n i 43) 45 then mtS f n (sgL (takesP f n i 45)) (takesN f n (takesN f n i 43) 45) T else (false, takesN f n (takesN f n i 43) 45, T)
theorem takesN_gt {f : Nat → Int32} {n i : Nat} {c : Int32} (h : takesP f n i c = true) : takesN f n i c = i + 1 := by
  unfold takesN
  rw [if_pos h]
theorem takesN_ge (f : Nat → Int32) (n i : Nat) (c : Int32) : i ≤ takesN f n i c := by
  unfold takesN
  split <;> omega
theorem tnN_ge (f : Nat → Int32) (n i : Nat) : i ≤ tnN f n i := by
  unfold tnN
  repeat' split
  all_goals omega
theorem mtS_ge (f : Nat → Int32) (n : Nat) (sg : Int64) (i : Nat) (T : Nat → Int64) : i ≤ (mtS f n sg i T).2.1 := by
  have h1 := tnN_ge f n i
  have h2 := takesN_ge f n (tnN f n i) 120
  have h3 := takesN_ge f n (takesN f n (tnN f n i) 120) 94
  unfold mtS mtB mtX
  repeat' split
  · rw [mtE_n]; omega
  · show i ≤ takesN f n (takesN f n (tnN f n i) 120) 94; omega
  · rw [mtE_n]; omega
  · rw [mtE_n]; omega
  · show i ≤ takesN f n (tnN f n i) 120; omega
theorem mstep_le {f : Nat → Int32} {n i : Nat} {T : Nat → Int64} (h : i ≤ n) : (mstep f n i T).2.1 ≤ n := by
  unfold mstep
  repeat' split
  · exact mtS_le (takesN_le h)
  · exact mtS_le (takesN_le (takesN_le h))
  · exact takesN_le (takesN_le h)
theorem mstep_gt {f : Nat → Int32} {n i : Nat} {T : Nat → Int64} (h : (mstep f n i T).1 = true) : i + 1 ≤ (mstep f n i T).2.1 := by
  unfold mstep at h ⊢
  by_cases h1 : takesP f n i 43 = true
  · rw [if_pos h1]
    have := mtS_ge f n (sgL (takesP f n i 45)) (takesN f n i 43) T
    rw [takesN_gt h1] at this ⊢
    exact this
  · rw [if_neg h1] at h ⊢
    by_cases h2 : takesP f n (takesN f n i 43) 45 = true
    · rw [if_pos h2]
      have := mtS_ge f n (sgL (takesP f n i 45)) (takesN f n (takesN f n i 43) 45) T
      have h3 := takesN_ge f n i 43
      rw [takesN_gt h2] at this ⊢
      omega
    · rw [if_neg h2] at h
      cases h
def mlS (f : Nat → Int32) (n : Nat) : Nat → Bool → Nat → (Nat → Int64) → Bool × Nat × (Nat → Int64)
  | 0, g, i, T => (g, i, T)
  | c + 1, g, i, T => if g then (if n ≤ i then (g, i, T) else mlS f n c (mstep f n i T).1 (mstep f n i T).2.1 (mstep f n i T).2.2) else (g, i, T)
def mpF (f : Nat → Int32) (n : Nat) : Bool × Nat × (Nat → Int64) := mtS f n (sgL (takesP f n 0 45)) (sgN f n 0) (fun _ => 0)
def mpS (f : Nat → Int32) (n : Nat) : Bool × Nat × (Nat → Int64) := mlS f n 30 (mpF f n).1 (mpF f n).2.1 (mpF f n).2.2
def dgU (T : Nat → Int64) : Nat → Nat
  | 0 => 0
  | k + 1 => if T k = 0 then dgU T k else k
/-! products -/
def is13 (f : Nat → Int32) (n i : Nat) : Bool := if lookM f n i < 49 then false else if lookM f n i ≤ 51 then true else false
theorem is13_lt {f : Nat → Int32} {n i : Nat} (h : is13 f n i = true) : i < n := by
  rcases Nat.lt_or_ge i n with h2 | h2
  · exact h2
  · unfold is13 lookM at h
    rw [if_pos h2] at h
    exact absurd h (by decide)
theorem is13_v {f : Nat → Int32} {n i : Nat} (h : is13 f n i = true) : ∃ d : Nat, 1 ≤ d ∧ d ≤ 3 ∧ f i - 48 = nI d := by
  have hi := is13_lt h
  have e0 : lookM f n i = f i := by unfold lookM; rw [if_neg (by omega)]
  unfold is13 at h
  rw [e0] at h
  by_cases h1 : f i < 49
  · rw [if_pos h1] at h; cases h
  · by_cases h2 : f i ≤ 51
    · have e1 : ¬ f i < 0 := fun h => h1 (Int32.lt_trans h (by decide))
      obtain ⟨d, hd, e⟩ := nI_of2 (M := 51) (n := 51) (by decide) e1 h2
      rw [e] at h1 ⊢
      have h3 : 49 ≤ d := by
        rcases Nat.lt_or_ge d 49 with h4 | h4
        · exact absurd (nI_lt h4 (by decide)) h1
        · exact h4
      exact ⟨d - 48, by omega, by omega, pk_sub (a := d) (b := 48) (by omega)⟩
    · rw [if_neg h1, if_neg h2] at h; cases h
/-- behind the root: ')', perhaps ^ and a digit; r is the root -/
def mfC (f : Nat → Int32) (n : Nat) (r : Int32) (i : Nat) (T : Nat → Int32) : Bool × Nat × (Nat → Int32) :=
  if takesP f n i 41 then
    (if takesP f n (takesN f n i 41) 94 then
      (if is13 f n (takesN f n (takesN f n i 41) 94) then (true, takesN f n (takesN f n i 41) 94 + 1, upd T (r + 3).toNatClampNeg (T (r + 3).toNatClampNeg + (f (takesN f n (takesN f n i 41) 94) - 48)))
       else (false, takesN f n (takesN f n i 41) 94, T))
     else (true, takesN f n (takesN f n i 41) 94, upd T (r + 3).toNatClampNeg (T (r + 3).toNatClampNeg + 1)))
  else (false, takesN f n i 41, T)
def mfR (f : Nat → Int32) (n : Nat) (pl : Bool) (i : Nat) (T : Nat → Int32) : Bool × Nat × (Nat → Int32) :=
  if is13 f n i then mfC f n (if pl then -(f i - 48) else f i - 48) (i + 1) T else (false, i, T)
def mfB (f : Nat → Int32) (n i : Nat) (T : Nat → Int32) : Bool × Nat × (Nat → Int32) :=
  if takesP f n i 43 then mfR f n true (takesN f n i 43) T
  else if takesP f n (takesN f n i 43) 45 then mfR f n false (takesN f n (takesN f n i 43) 45) T else mfC f n 0 (takesN f n (takesN f n i 43) 45) T
def mfS (f : Nat → Int32) (n i : Nat) (T : Nat → Int32) : Bool × Nat × (Nat → Int32) :=
  if takesP f n i 40 then (if takesP f n (takesN f n i 40) 120 then mfB f n (takesN f n (takesN f n i 40) 120) T else (false, takesN f n (takesN f n i 40) 120, T)) else (false, takesN f n i 40, T)
theorem mfC_le {f : Nat → Int32} {n i : Nat} {r : Int32} {T : Nat → Int32} (h : i ≤ n) : (mfC f n r i T).2.1 ≤ n := by
  unfold mfC
  repeat' split
  · next e => exact is13_lt e
  · exact takesN_le (takesN_le h)
  · exact takesN_le (takesN_le h)
  · exact takesN_le h
theorem mfR_le {f : Nat → Int32} {n i : Nat} {pl : Bool} {T : Nat → Int32} (h : i ≤ n) : (mfR f n pl i T).2.1 ≤ n := by
  unfold mfR
  split
  · next e => exact mfC_le (is13_lt e)
  · exact h
theorem mfS_le {f : Nat → Int32} {n i : Nat} {T : Nat → Int32} (h : i ≤ n) : (mfS f n i T).2.1 ≤ n := by
  unfold mfS mfB
  have h2 := takesN_le (f := f) (c := 120) (takesN_le (f := f) (c := 40) h)
  repeat' split
  · exact mfR_le (takesN_le h2)
  · exact mfR_le (takesN_le (takesN_le h2))
  · exact mfC_le (takesN_le (takesN_le h2))
  · exact h2
  · exact takesN_le h
theorem mfS_gt {f : Nat → Int32} {n i : Nat} {T : Nat → Int32} (h : (mfS f n i T).1 = true) : i + 1 ≤ (mfS f n i T).2.1 := by
  have hC : ∀ (r : Int32) (j : Nat), j ≤ (mfC f n r j T).2.1 := by
    intro r j
    have h1 := takesN_ge f n j 41
    have h2 := takesN_ge f n (takesN f n j 41) 94
    unfold mfC
    repeat' split
    · show j ≤ takesN f n (takesN f n j 41) 94 + 1; omega
    · show j ≤ takesN f n (takesN f n j 41) 94; omega
    · show j ≤ takesN f n (takesN f n j 41) 94; omega
    · exact h1
  have hR : ∀ (p : Bool) (j : Nat), j ≤ (mfR f n p j T).2.1 := by
    intro p j
    unfold mfR
    split
    · exact Nat.le_trans (Nat.le_succ j) (hC _ _)
    · exact Nat.le_refl j
  unfold mfS at h ⊢
  by_cases h0 : takesP f n i 40 = true
  · rw [if_pos h0] at h ⊢
    have e := takesN_gt h0
    have h1 := takesN_ge f n (takesN f n i 40) 120
    have h2 := takesN_ge f n (takesN f n (takesN f n i 40) 120) 43
    have h3 := takesN_ge f n (takesN f n (takesN f n (takesN f n i 40) 120) 43) 45
    unfold mfB
    repeat' split
    · have := hR true (takesN f n (takesN f n (takesN f n i 40) 120) 43); omega
    · have := hR false (takesN f n (takesN f n (takesN f n (takesN f n i 40) 120) 43) 45); omega
    · have := hC 0 (takesN f n (takesN f n (takesN f n (takesN f n i 40) 120) 43) 45); omega
    · show i + 1 ≤ takesN f n (takesN f n i 40) 120; omega
  · rw [if_neg h0] at h
    cases h
def mgS (f : Nat → Int32) (n : Nat) : Nat → Bool → Nat → (Nat → Int32) → Bool × Nat × (Nat → Int32)
  | 0, g, i, T => (g, i, T)
  | c + 1, g, i, T => if g then (if n ≤ i then (g, i, T) else mgS f n c (mfS f n i T).1 (mfS f n i T).2.1 (mfS f n i T).2.2) else (g, i, T)
def mqS (f : Nat → Int32) (n : Nat) : Bool × Nat × (Nat → Int32) := mgS f n 30 (mfS f n 0 (fun _ => 0)).1 (mfS f n 0 (fun _ => 0)).2.1 (mfS f n 0 (fun _ => 0)).2.2
theorem mlS_stop {f : Nat → Int32} {n c : Nat} {gd : Bool} {i : Nat} {T : Nat → Int64} (h : gd = false ∨ n ≤ i) : mlS f n c gd i T = (gd, i, T) := by
  rcases c with _ | c
  · rfl
  · unfold mlS
    rcases h with h | h
    · rw [h]; rfl
    · rw [if_pos h]; split <;> rfl
theorem mgS_stop {f : Nat → Int32} {n c : Nat} {gd : Bool} {i : Nat} {T : Nat → Int32} (h : gd = false ∨ n ≤ i) : mgS f n c gd i T = (gd, i, T) := by
  rcases c with _ | c
  · rfl
  · unfold mgS
    rcases h with h | h
    · rw [h]; rfl
    · rw [if_pos h]; split <;> rfl
def ftB (b : Bool) : Int32 := if b then 0 else 1
theorem r3_0 : (0 : Int32) + 3 = nI ((0 : Int32) + 3).toNatClampNeg ∧ ((0 : Int32) + 3).toNatClampNeg < 7 := by decide
theorem r3_p {d : Nat} (h : d ≤ 3) : nI d + 3 = nI (nI d + 3).toNatClampNeg ∧ (nI d + 3).toNatClampNeg < 7 := by
  rcases (show d = 0 ∨ d = 1 ∨ d = 2 ∨ d = 3 by omega) with rfl | rfl | rfl | rfl <;> decide
theorem r3_m {d : Nat} (h : d ≤ 3) : -nI d + 3 = nI (-nI d + 3).toNatClampNeg ∧ (-nI d + 3).toNatClampNeg < 7 := by
  rcases (show d = 0 ∨ d = 1 ∨ d = 2 ∨ d = 3 by omega) with rfl | rfl | rfl | rfl <;> decide
theorem rt3 (j : Nat) : nI j - 3 + 3 = nI j := Int32.sub_add_cancel ..
theorem rt4_lt {j : Nat} (hj : j ≤ 7) (h : ¬ 4 ≤ nI j - 3) : j < 7 := by
  rcases (show j = 7 ∨ j < 7 by omega) with rfl | h2
  · exact absurd (by decide) h
  · exact h2
theorem rt4_ge {j : Nat} (hj : j ≤ 7) (h : 4 ≤ nI j - 3) : j = 7 := by
  rcases (show j = 0 ∨ j = 1 ∨ j = 2 ∨ j = 3 ∨ j = 4 ∨ j = 5 ∨ j = 6 ∨ j = 7 by omega) with rfl | rfl | rfl | rfl | rfl | rfl | rfl | rfl <;> first | rfl | exact absurd h (by decide)
theorem n0_eq {j : Nat} (hj : j < 2 ^ 31) (h : nI j = 0) : j = 0 := (nI_eq (b := 0) hj (by decide)).mp h
theorem n0_ne {j : Nat} (h : ¬ nI j = 0) : ¬ j = 0 := fun e => h (by rw [e]; rfl)
theorem mfC_small {f : Nat → Int32} {n i : Nat} {r : Int32} {T : Nat → Int32} {b : Nat} (h : smallT T b) : smallT (mfC f n r i T).2.2 (b + 3) := by
  have h3 := smallT_mono h (Nat.le_add_right b 3)
  unfold mfC
  repeat' split
  · next e => obtain ⟨d, h1, h2, e9⟩ := is13_v e; rw [e9]; exact smallT_upd h h2
  · exact h3
  · exact smallT_upd (d := 1) h (by decide)
  · exact h3
theorem mfS_small {f : Nat → Int32} {n i : Nat} {T : Nat → Int32} {b : Nat} (h : smallT T b) : smallT (mfS f n i T).2.2 (b + 3) := by
  have h3 := smallT_mono h (Nat.le_add_right b 3)
  unfold mfS mfB mfR
  repeat' split
  all_goals first | exact mfC_small h | exact h3
theorem mgS_small {f : Nat → Int32} {n : Nat} : ∀ (c : Nat) (g : Bool) (i : Nat) (T : Nat → Int32) (b : Nat), smallT T b → smallT (mgS f n c g i T).2.2 (b + 3 * c)
  | 0, _, _, _, _, h => h
  | c + 1, g, i, T, b, h => by
    unfold mgS
    split
    · split
      · exact smallT_mono h (by omega)
      · exact smallT_mono (mgS_small c _ _ _ (b + 3) (mfS_small h)) (by omega)
    · exact smallT_mono h (by omega)
theorem mqS_small (f : Nat → Int32) (n : Nat) : smallT (mqS f n).2.2 99 := by
  unfold mqS
  exact smallT_mono (mgS_small 30 _ _ _ 3 (mfS_small (b := 0) ⟨fun _ => 0, fun _ => rfl, fun _ => Nat.le_refl 0⟩)) (by decide)
def dnF (f : Nat → Int32) (n : Nat) : Int32 := if (mqS f n).1 then (if sumP (mqS f n).2.2 7 ≤ 5 then 0 else 2) else 1
def dnV (f : Nat → Int32) (n : Nat) : Int32 := if dnF f n = 0 then nI (sumN (mOf (mqS f n).2.2) 7) else 0
set_option maxHeartbeats 4000000 in
set_option maxRecDepth 100000 in
/-- thrown() -/
theorem k_X3_thrown (l : Launch) (G : va_G) (k : Nat → ClassId) (h0 e1 e3 e4 e5 e7 e8 e11 e12 e13 e14 : Nat) (ft : Int32) (n dg i : Nat) (ov un : Int64) : ∀ sz, Met l yX3_thrown wsX3_thrown ({ frames := 0, cells := 0, slots := 0, locals := 0 }) (va_Pc [.ref h0] (KP G k [(h0, .inr (3, [.int ft, .ref e1, .int (nI n), .ref e3, .ref e4, .ref e5, .int (nI dg), .ref e7, .ref e8, .long ov, .long un, .ref e11, .ref e12, .ref e13, .ref e14, .int (nI i)]))] sz)) (va_Qi (fun r (_ : Unit) => r = ft) (KQ G [(h0, .inr (3, [.int ft, .ref e1, .int (nI n), .ref e3, .ref e4, .ref e5, .int (nI dg), .ref e7, .ref e8, .long ov, .long un, .ref e11, .ref e12, .ref e13, .ref e14, .int (nI i)]))] (va_A [(h0, .inr (3, [.int ft, .ref e1, .int (nI n), .ref e3, .ref e4, .ref e5, .int (nI dg), .ref e7, .ref e8, .long ov, .long un, .ref e11, .ref e12, .ref e13, .ref e14, .int (nI i)]))] sz)) (va_A [(h0, .inr (3, [.int ft, .ref e1, .int (nI n), .ref e3, .ref e4, .ref e5, .int (nI dg), .ref e7, .ref e8, .long ov, .long un, .ref e11, .ref e12, .ref e13, .ref e14, .int (nI i)]))] sz)) 0 0 (va_A [(h0, .inr (3, [.int ft, .ref e1, .int (nI n), .ref e3, .ref e4, .ref e5, .int (nI dg), .ref e7, .ref e8, .long ov, .long un, .ref e11, .ref e12, .ref e13, .ref e14, .int (nI i)]))] sz) := by
  refine met_i 0 0 (lv0 := [(0, .ref h0)]) (own := RX3) (by decide) rfl rfl (Nat.le_of_ble_eq_true rfl) rfl (fun Z g hret => ?_)
  have hX3 : ∀ w ∈ u_ws RX3 TX3 16, w ∈ wsX3_thrown := fun w h => List.mem_cons_of_mem _ (List.mem_append_right _ (h))
  refine z_aload_n g dX3_thrown_0 0 rfl ?_
  refine z_get g hX3 0 rfl rfl 0 (by decide) (mi 1 rfl) rfl dX3_thrown_1 ?_
  exact hret _ _ _ _ dX3_thrown_4 (rfl) (rfl)
theorem nd_X3_thrown : yX3_thrown.cls = RX3 ∧ yX3_thrown.cls ≠ "java/lang/invoke/MethodHandle" ∧ yX3_thrown.cls ≠ "java/lang/invoke/VarHandle" ∧ (parseMethodDescriptor yX3_thrown.desc).map (fun d => d.parameters.length) = some 0 := by decide +kernel
set_option maxHeartbeats 4000000 in
set_option maxRecDepth 100000 in
/-- fails(code) -/
theorem k_X3_fails (l : Launch) (G : va_G) (k : Nat → ClassId) (h0 e1 e3 e4 e5 e7 e8 e11 e12 e13 e14 : Nat) (ft : Int32) (n dg i : Nat) (ov un : Int64) (p0 : Int32) : ∀ sz, Met l yX3_fails wsX3_fails ({ frames := 0, cells := 0, slots := 0, locals := 0 }) (va_Pc [.ref h0, .int p0] (KP G k [(h0, .inr (3, [.int ft, .ref e1, .int (nI n), .ref e3, .ref e4, .ref e5, .int (nI dg), .ref e7, .ref e8, .long ov, .long un, .ref e11, .ref e12, .ref e13, .ref e14, .int (nI i)]))] sz)) (va_Qi (fun r (_ : Unit) => r = 0) (KQ G [(h0, .inr (3, [.int p0, .ref e1, .int (nI n), .ref e3, .ref e4, .ref e5, .int (nI dg), .ref e7, .ref e8, .long ov, .long un, .ref e11, .ref e12, .ref e13, .ref e14, .int (nI i)]))] (va_A [(h0, .inr (3, [.int ft, .ref e1, .int (nI n), .ref e3, .ref e4, .ref e5, .int (nI dg), .ref e7, .ref e8, .long ov, .long un, .ref e11, .ref e12, .ref e13, .ref e14, .int (nI i)]))] sz)) (va_A [(h0, .inr (3, [.int ft, .ref e1, .int (nI n), .ref e3, .ref e4, .ref e5, .int (nI dg), .ref e7, .ref e8, .long ov, .long un, .ref e11, .ref e12, .ref e13, .ref e14, .int (nI i)]))] sz)) 0 0 (va_A [(h0, .inr (3, [.int ft, .ref e1, .int (nI n), .ref e3, .ref e4, .ref e5, .int (nI dg), .ref e7, .ref e8, .long ov, .long un, .ref e11, .ref e12, .ref e13, .ref e14, .int (nI i)]))] sz) := by
  refine met_i 0 0 (lv0 := [(0, .ref h0), (1, .int p0)]) (own := RX3) (by decide) rfl rfl (Nat.le_of_ble_eq_true rfl) rfl (fun Z g hret => ?_)
  have hX3 : ∀ w ∈ u_ws RX3 TX3 16, w ∈ wsX3_fails := fun w h => List.mem_cons_of_mem _ (List.mem_append_right _ (h))
  refine z_aload_n g dX3_fails_0 0 rfl ?_
  refine z_iload_n g dX3_fails_1 1 rfl ?_
  refine z_put (w' := [(_, .inr (3, [_, _, _, _, _, _, _, _, _, _, _, _, _, _, _, _]))]) g hX3 tyX3 tyX3_ok nmX3 0 rfl rfl 0 (by decide) (mi 1 rfl) rfl rfl rfl (Nat.le_of_ble_eq_true rfl) dX3_fails_2 rfl ?_
  refine z_ic0 g dX3_fails_5 ?_
  exact hret _ _ _ _ dX3_fails_6 (rfl) (rfl)
theorem nd_X3_fails : yX3_fails.cls = RX3 ∧ yX3_fails.cls ≠ "java/lang/invoke/MethodHandle" ∧ yX3_fails.cls ≠ "java/lang/invoke/VarHandle" ∧ (parseMethodDescriptor yX3_fails.desc).map (fun d => d.parameters.length) = some 1 := by decide +kernel
set_option maxHeartbeats 4000000 in
set_option maxRecDepth 100000 in
/-- write(c) -/
theorem k_X3_write (l : Launch) (G : va_G) (k : Nat → ClassId) (h0 e1 e3 e4 e5 e7 e8 e11 e12 e13 e14 : Nat) (ft : Int32) (n dg i : Nat) (ov un : Int64) (f : Nat → Int32) (p0 : Int32) (hn : n ≤ 30) : ∀ sz, Met l yX3_write wsX3_write ({ frames := 0, cells := 0, slots := 0, locals := 0 }) (va_Pc [.ref h0, .int p0] (KP G k [(h0, .inr (3, [.int ft, .ref e1, .int (nI n), .ref e3, .ref e4, .ref e5, .int (nI dg), .ref e7, .ref e8, .long ov, .long un, .ref e11, .ref e12, .ref e13, .ref e14, .int (nI i)])), (e1, .inl (k 0, 30, .inl f))] sz)) (va_Qi (fun r (_ : Unit) => r = bI (apM n p0)) (KQ G [(h0, .inr (3, [.int 0, .ref e1, .int (nI (apMN n p0)), .ref e3, .ref e4, .ref e5, .int (nI dg), .ref e7, .ref e8, .long ov, .long un, .ref e11, .ref e12, .ref e13, .ref e14, .int (nI i)])), (e1, .inl (k 0, 30, .inl (apMF f n p0)))] (va_A [(h0, .inr (3, [.int ft, .ref e1, .int (nI n), .ref e3, .ref e4, .ref e5, .int (nI dg), .ref e7, .ref e8, .long ov, .long un, .ref e11, .ref e12, .ref e13, .ref e14, .int (nI i)])), (e1, .inl (k 0, 30, .inl f))] sz)) (va_A [(h0, .inr (3, [.int ft, .ref e1, .int (nI n), .ref e3, .ref e4, .ref e5, .int (nI dg), .ref e7, .ref e8, .long ov, .long un, .ref e11, .ref e12, .ref e13, .ref e14, .int (nI i)])), (e1, .inl (k 0, 30, .inl f))] sz)) 0 0 (va_A [(h0, .inr (3, [.int ft, .ref e1, .int (nI n), .ref e3, .ref e4, .ref e5, .int (nI dg), .ref e7, .ref e8, .long ov, .long un, .ref e11, .ref e12, .ref e13, .ref e14, .int (nI i)])), (e1, .inl (k 0, 30, .inl f))] sz) := by
  refine met_z 0 0 (lv0 := [(0, .ref h0), (1, .int p0)]) (own := RX3) (by decide) rfl rfl (Nat.le_of_ble_eq_true rfl) rfl bI_n (fun Z g hret => ?_)
  have hX3 : ∀ w ∈ u_ws RX3 TX3 16, w ∈ wsX3_write := fun w h => List.mem_cons_of_mem _ (List.mem_append_right _ (h))
  refine z_aload_n g dX3_write_0 0 rfl ?_
  refine z_ic0 g dX3_write_1 ?_
  refine z_put (w' := [(_, .inr (3, [_, _, _, _, _, _, _, _, _, _, _, _, _, _, _, _])), _]) g hX3 tyX3 tyX3_ok nmX3 0 rfl rfl 0 (by decide) (mi 1 rfl) rfl rfl rfl (Nat.le_of_ble_eq_true rfl) dX3_write_2 rfl ?_
  refine z_iload_n g dX3_write_5 1 rfl ?_
  refine z_bi g 32 dX3_write_6 (by decide) ?_
  refine z_ic_lt g (tgt := 26) dX3_write_8 (by decide) (fun b8 => ?_) (fun b8 => ?_)
  · refine z_ic0 g dX3_write_26 ?_
    exact hret _ _ _ _ dX3_write_27 ((by simp only [apM, if_pos b8, reduceIte, Bool.false_eq_true] <;> rfl)) ((by simp only [apMN, apMF, apM, if_pos b8, reduceIte, Bool.false_eq_true] <;> rfl))
  · refine z_iload_n g dX3_write_11 1 rfl ?_
    refine z_bi g 126 dX3_write_12 (by decide) ?_
    refine z_ic_gt g (tgt := 26) dX3_write_14 (by decide) (fun b14 => ?_) (fun b14 => ?_)
    · refine z_ic0 g dX3_write_26 ?_
      exact hret _ _ _ _ dX3_write_27 ((by simp only [apM, if_neg b8, if_pos b14, reduceIte, Bool.false_eq_true] <;> rfl)) ((by simp only [apMN, apMF, apM, if_neg b8, if_pos b14, reduceIte, Bool.false_eq_true] <;> rfl))
    · refine z_aload_n g dX3_write_17 0 rfl ?_
      refine z_get g hX3 0 rfl rfl 2 (by decide) (mi 2 rfl) rfl dX3_write_18 ?_
      refine z_bi g 30 dX3_write_21 (by decide) ?_
      refine z_n_lt g (a := n) (b := 30) (tgt := 28) (by omega) (by omega) dX3_write_23 (by decide) (fun b23 => ?_) (fun b23 => ?_)
      · refine z_aload_n g dX3_write_28 0 rfl ?_
        refine z_get g hX3 0 rfl rfl 1 (by decide) (mi 3 rfl) rfl dX3_write_29 ?_
        refine z_aload_n g dX3_write_32 0 rfl ?_
        refine z_get g hX3 0 rfl rfl 2 (by decide) (mi 2 rfl) rfl dX3_write_33 ?_
        refine z_iload_n g dX3_write_36 1 rfl ?_
        refine z_cast (w' := [_, _]) g 1 rfl n rfl (by omega) (by decide) dX3_write_37 rfl ?_
        refine z_aload_n g dX3_write_38 0 rfl ?_
        refine z_dup g dX3_write_39 rfl ?_
        refine z_get g hX3 0 rfl rfl 2 (by decide) (mi 2 rfl) rfl dX3_write_40 ?_
        refine z_ic1 g dX3_write_43 ?_
        refine z_iadd g dX3_write_44 ?_
        refine z_ti (y := nI (n + 1)) (nI_1 n) ?_
        refine z_put (w' := [(_, .inr (3, [_, _, _, _, _, _, _, _, _, _, _, _, _, _, _, _])), _]) g hX3 tyX3 tyX3_ok nmX3 0 rfl rfl 2 (by decide) (mi 2 rfl) rfl rfl rfl (Nat.le_of_ble_eq_true rfl) dX3_write_45 rfl ?_
        refine z_ic1 g dX3_write_48 ?_
        exact hret _ _ _ _ dX3_write_49 ((by simp only [apM, if_neg b8, if_neg b14, if_pos b23, reduceIte, Bool.false_eq_true] <;> rfl)) ((by simp only [apMN, apMF, apM, if_neg b8, if_neg b14, if_pos b23, reduceIte, Bool.false_eq_true] <;> rfl))
      · refine z_ic0 g dX3_write_26 ?_
        exact hret _ _ _ _ dX3_write_27 ((by simp only [apM, if_neg b8, if_neg b14, if_neg b23, reduceIte, Bool.false_eq_true] <;> rfl)) ((by simp only [apMN, apMF, apM, if_neg b8, if_neg b14, if_neg b23, reduceIte, Bool.false_eq_true] <;> rfl))
theorem nd_X3_write : yX3_write.cls = RX3 ∧ yX3_write.cls ≠ "java/lang/invoke/MethodHandle" ∧ yX3_write.cls ≠ "java/lang/invoke/VarHandle" ∧ (parseMethodDescriptor yX3_write.desc).map (fun d => d.parameters.length) = some 1 := by decide +kernel
set_option maxHeartbeats 4000000 in
set_option maxRecDepth 100000 in
/-- look() -/
theorem k_X3_look (l : Launch) (G : va_G) (k : Nat → ClassId) (h0 e1 e3 e4 e5 e7 e8 e11 e12 e13 e14 : Nat) (ft : Int32) (n dg i : Nat) (ov un : Int64) (f : Nat → Int32) (hn : n ≤ 30) (hi : i ≤ n) (hf : chOK f n) : ∀ sz, Met l yX3_look wsX3_look ({ frames := 0, cells := 0, slots := 0, locals := 0 }) (va_Pc [.ref h0] (KP G k [(h0, .inr (3, [.int ft, .ref e1, .int (nI n), .ref e3, .ref e4, .ref e5, .int (nI dg), .ref e7, .ref e8, .long ov, .long un, .ref e11, .ref e12, .ref e13, .ref e14, .int (nI i)])), (e1, .inl (k 0, 30, .inl f))] sz)) (va_Qi (fun r (_ : Unit) => r = lookM f n i) (KQ G [(h0, .inr (3, [.int ft, .ref e1, .int (nI n), .ref e3, .ref e4, .ref e5, .int (nI dg), .ref e7, .ref e8, .long ov, .long un, .ref e11, .ref e12, .ref e13, .ref e14, .int (nI i)])), (e1, .inl (k 0, 30, .inl f))] (va_A [(h0, .inr (3, [.int ft, .ref e1, .int (nI n), .ref e3, .ref e4, .ref e5, .int (nI dg), .ref e7, .ref e8, .long ov, .long un, .ref e11, .ref e12, .ref e13, .ref e14, .int (nI i)])), (e1, .inl (k 0, 30, .inl f))] sz)) (va_A [(h0, .inr (3, [.int ft, .ref e1, .int (nI n), .ref e3, .ref e4, .ref e5, .int (nI dg), .ref e7, .ref e8, .long ov, .long un, .ref e11, .ref e12, .ref e13, .ref e14, .int (nI i)])), (e1, .inl (k 0, 30, .inl f))] sz)) 0 0 (va_A [(h0, .inr (3, [.int ft, .ref e1, .int (nI n), .ref e3, .ref e4, .ref e5, .int (nI dg), .ref e7, .ref e8, .long ov, .long un, .ref e11, .ref e12, .ref e13, .ref e14, .int (nI i)])), (e1, .inl (k 0, 30, .inl f))] sz) := by
  refine met_z 0 0 (lv0 := [(0, .ref h0)]) (own := RX3) (by decide) rfl rfl (Nat.le_of_ble_eq_true rfl) rfl (look_n hf) (fun Z g hret => ?_)
  have hX3 : ∀ w ∈ u_ws RX3 TX3 16, w ∈ wsX3_look := fun w h => List.mem_cons_of_mem _ (List.mem_append_right _ (h))
  refine z_aload_n g dX3_look_0 0 rfl ?_
  refine z_get g hX3 0 rfl rfl 15 (by decide) (mi 1 rfl) rfl dX3_look_1 ?_
  refine z_aload_n g dX3_look_4 0 rfl ?_
  refine z_get g hX3 0 rfl rfl 2 (by decide) (mi 2 rfl) rfl dX3_look_5 ?_
  refine z_n_ge g (a := i) (b := n) (tgt := 23) (by omega) (by omega) dX3_look_8 (by decide) (fun b8 => ?_) (fun b8 => ?_)
  · refine z_ic0 g dX3_look_23 ?_
    exact hret _ _ _ _ dX3_look_24 ((by simp only [lookM, if_pos b8, reduceIte, Bool.false_eq_true] <;> rfl)) (rfl)
  · refine z_aload_n g dX3_look_11 0 rfl ?_
    refine z_get g hX3 0 rfl rfl 1 (by decide) (mi 3 rfl) rfl dX3_look_12 ?_
    refine z_aload_n g dX3_look_15 0 rfl ?_
    refine z_get g hX3 0 rfl rfl 15 (by decide) (mi 1 rfl) rfl dX3_look_16 ?_
    refine z_cald g 1 rfl i rfl (by omega) (by decide) dX3_look_19 ?_
    refine z_goto g 24 dX3_look_20 (by decide) ?_
    exact hret _ _ _ _ dX3_look_24 ((by simp only [lookM, if_neg b8, reduceIte, Bool.false_eq_true] <;> rfl)) (rfl)
theorem nd_X3_look : yX3_look.cls = RX3 ∧ yX3_look.cls ≠ "java/lang/invoke/MethodHandle" ∧ yX3_look.cls ≠ "java/lang/invoke/VarHandle" ∧ (parseMethodDescriptor yX3_look.desc).map (fun d => d.parameters.length) = some 0 := by decide +kernel
set_option maxHeartbeats 4000000 in
set_option maxRecDepth 100000 in
/-- pass(c) -/
theorem k_X3_pass (l : Launch) (G : va_G) (k : Nat → ClassId) (h0 e1 e3 e4 e5 e7 e8 e11 e12 e13 e14 : Nat) (ft : Int32) (n dg i : Nat) (ov un : Int64) (f : Nat → Int32) (p0 : Int32) (hn : n ≤ 30) (hi : i ≤ n) (hf : chOK f n) (hc : ¬ p0 = 0) : ∀ sz, Met l yX3_pass wsX3_pass ({ frames := 1, cells := 0, slots := 0, locals := 20 }) (va_Pc [.ref h0, .int p0] (KP G k [(h0, .inr (3, [.int ft, .ref e1, .int (nI n), .ref e3, .ref e4, .ref e5, .int (nI dg), .ref e7, .ref e8, .long ov, .long un, .ref e11, .ref e12, .ref e13, .ref e14, .int (nI i)])), (e1, .inl (k 0, 30, .inl f))] sz)) (va_Qi (fun r (_ : Unit) => r = bI (takesP f n i p0)) (KQ G [(h0, .inr (3, [.int ft, .ref e1, .int (nI n), .ref e3, .ref e4, .ref e5, .int (nI dg), .ref e7, .ref e8, .long ov, .long un, .ref e11, .ref e12, .ref e13, .ref e14, .int (nI (takesN f n i p0))])), (e1, .inl (k 0, 30, .inl f))] (va_A [(h0, .inr (3, [.int ft, .ref e1, .int (nI n), .ref e3, .ref e4, .ref e5, .int (nI dg), .ref e7, .ref e8, .long ov, .long un, .ref e11, .ref e12, .ref e13, .ref e14, .int (nI i)])), (e1, .inl (k 0, 30, .inl f))] sz)) (va_A [(h0, .inr (3, [.int ft, .ref e1, .int (nI n), .ref e3, .ref e4, .ref e5, .int (nI dg), .ref e7, .ref e8, .long ov, .long un, .ref e11, .ref e12, .ref e13, .ref e14, .int (nI i)])), (e1, .inl (k 0, 30, .inl f))] sz)) 0 0 (va_A [(h0, .inr (3, [.int ft, .ref e1, .int (nI n), .ref e3, .ref e4, .ref e5, .int (nI dg), .ref e7, .ref e8, .long ov, .long un, .ref e11, .ref e12, .ref e13, .ref e14, .int (nI i)])), (e1, .inl (k 0, 30, .inl f))] sz) := by
  refine met_z 0 0 (lv0 := [(0, .ref h0), (1, .int p0)]) (own := RX3) (by decide) rfl rfl (Nat.le_of_ble_eq_true rfl) rfl bI_n (fun Z g hret => ?_)
  have hX3 : ∀ w ∈ u_ws RX3 TX3 16, w ∈ wsX3_pass := fun w h => List.mem_cons_of_mem _ (List.mem_append_right _ (h))
  refine z_aload_n g dX3_pass_0 0 rfl ?_
  refine z_callVi (w' := [_, _]) (wr := []) g (k_X3_look l G k _ _ _ _ _ _ _ _ _ _ _ _ _ _ _ _ _ _ (by assumption) (by repeat (first | assumption | apply takesN_le | apply rnN_le | apply rpN_le | apply sgN_le | apply rrN_le | (apply dgN_le (by decide)) | apply rtS_le | apply rfS_le | apply tnN_le | apply mtS_le | apply mfS_le | apply mstep_le | (exact isd_lt (by assumption)) | (exact is13_lt (by assumption)))) (by assumption)) 0 gX3_pass_X3_look rfl rfl rfl nd_X3_look ⟨by decide, by decide⟩ 0 rfl rfl [0, 1] [] [0, 1] rfl rfl rfl rfl (by decide) rfl rfl rfl rfl (Nat.le_of_ble_eq_true rfl) dX3_pass_1 ⟨by decide, by decide⟩ ?_
  refine z_iload_n g dX3_pass_4 1 rfl ?_
  refine z_ic_ne g (tgt := 12) dX3_pass_5 (by decide) (fun b5 => ?_) (fun b5 => ?_)
  · refine z_ic0 g dX3_pass_12 ?_
    refine z_istore_n (lv' := [(2, .int _), (0, .ref _), (1, .int _)]) g dX3_pass_13 (by decide) rfl ?_
    refine z_aload_n g dX3_pass_14 1 rfl ?_
    refine z_iload_n g dX3_pass_15 0 rfl ?_
    refine z_if_eq g (tgt := 28) dX3_pass_16 (by decide) (fun b16 => ?_) (fun b16 => ?_)
    · refine z_aload_n g dX3_pass_28 1 rfl ?_
      refine z_get g hX3 0 rfl rfl 15 (by decide) (mi 1 rfl) rfl dX3_pass_29 ?_
      refine z_put (w' := [(_, .inr (3, [_, _, _, _, _, _, _, _, _, _, _, _, _, _, _, _])), _]) g hX3 tyX3 tyX3_ok nmX3 0 rfl rfl 15 (by decide) (mi 1 rfl) rfl rfl rfl (Nat.le_of_ble_eq_true rfl) dX3_pass_32 rfl ?_
      refine z_iload_n g dX3_pass_35 0 rfl ?_
      exact hret _ _ _ _ dX3_pass_36 ((by first | (rw [takes_look hc b5]; rfl) | (rw [takes_nlook b5]; rfl))) ((by unfold takesN; first | (rw [takes_look hc b5]; rfl) | (rw [takes_nlook b5]; rfl)))
    · first | exact absurd b16 (by decide) | exact absurd (by decide) b16
  · refine z_ic1 g dX3_pass_8 ?_
    refine z_goto g 13 dX3_pass_9 (by decide) ?_
    refine z_istore_n (lv' := [(2, .int _), (0, .ref _), (1, .int _)]) g dX3_pass_13 (by decide) rfl ?_
    refine z_aload_n g dX3_pass_14 1 rfl ?_
    refine z_iload_n g dX3_pass_15 0 rfl ?_
    refine z_if_eq g (tgt := 28) dX3_pass_16 (by decide) (fun b16 => ?_) (fun b16 => ?_)
    · first | exact absurd b16 (by decide) | exact absurd (by decide) b16
    · refine z_aload_n g dX3_pass_19 1 rfl ?_
      refine z_get g hX3 0 rfl rfl 15 (by decide) (mi 1 rfl) rfl dX3_pass_20 ?_
      refine z_ic1 g dX3_pass_23 ?_
      refine z_iadd g dX3_pass_24 ?_
      refine z_ti (y := nI (i + 1)) (nI_1 i) ?_
      refine z_goto g 32 dX3_pass_25 (by decide) ?_
      refine z_put (w' := [(_, .inr (3, [_, _, _, _, _, _, _, _, _, _, _, _, _, _, _, _])), _]) g hX3 tyX3 tyX3_ok nmX3 0 rfl rfl 15 (by decide) (mi 1 rfl) rfl rfl rfl (Nat.le_of_ble_eq_true rfl) dX3_pass_32 rfl ?_
      refine z_iload_n g dX3_pass_35 0 rfl ?_
      exact hret _ _ _ _ dX3_pass_36 ((by first | (rw [takes_look hc b5]; rfl) | (rw [takes_nlook b5]; rfl))) ((by unfold takesN; first | (rw [takes_look hc b5]; rfl) | (rw [takes_nlook b5]; rfl)))
theorem nd_X3_pass : yX3_pass.cls = RX3 ∧ yX3_pass.cls ≠ "java/lang/invoke/MethodHandle" ∧ yX3_pass.cls ≠ "java/lang/invoke/VarHandle" ∧ (parseMethodDescriptor yX3_pass.desc).map (fun d => d.parameters.length) = some 1 := by decide +kernel
set_option maxHeartbeats 4000000 in
set_option maxRecDepth 100000 in
/-- isDigit() -/
theorem k_X3_isDigit (l : Launch) (G : va_G) (k : Nat → ClassId) (h0 e1 e3 e4 e5 e7 e8 e11 e12 e13 e14 : Nat) (ft : Int32) (n dg i : Nat) (ov un : Int64) (f : Nat → Int32) (hn : n ≤ 30) (hi : i ≤ n) (hf : chOK f n) : ∀ sz, Met l yX3_isDigit wsX3_isDigit ({ frames := 1, cells := 0, slots := 0, locals := 20 }) (va_Pc [.ref h0] (KP G k [(h0, .inr (3, [.int ft, .ref e1, .int (nI n), .ref e3, .ref e4, .ref e5, .int (nI dg), .ref e7, .ref e8, .long ov, .long un, .ref e11, .ref e12, .ref e13, .ref e14, .int (nI i)])), (e1, .inl (k 0, 30, .inl f))] sz)) (va_Qi (fun r (_ : Unit) => r = bI (isdM f n i)) (KQ G [(h0, .inr (3, [.int ft, .ref e1, .int (nI n), .ref e3, .ref e4, .ref e5, .int (nI dg), .ref e7, .ref e8, .long ov, .long un, .ref e11, .ref e12, .ref e13, .ref e14, .int (nI i)])), (e1, .inl (k 0, 30, .inl f))] (va_A [(h0, .inr (3, [.int ft, .ref e1, .int (nI n), .ref e3, .ref e4, .ref e5, .int (nI dg), .ref e7, .ref e8, .long ov, .long un, .ref e11, .ref e12, .ref e13, .ref e14, .int (nI i)])), (e1, .inl (k 0, 30, .inl f))] sz)) (va_A [(h0, .inr (3, [.int ft, .ref e1, .int (nI n), .ref e3, .ref e4, .ref e5, .int (nI dg), .ref e7, .ref e8, .long ov, .long un, .ref e11, .ref e12, .ref e13, .ref e14, .int (nI i)])), (e1, .inl (k 0, 30, .inl f))] sz)) 0 0 (va_A [(h0, .inr (3, [.int ft, .ref e1, .int (nI n), .ref e3, .ref e4, .ref e5, .int (nI dg), .ref e7, .ref e8, .long ov, .long un, .ref e11, .ref e12, .ref e13, .ref e14, .int (nI i)])), (e1, .inl (k 0, 30, .inl f))] sz) := by
  refine met_z 0 0 (lv0 := [(0, .ref h0)]) (own := RX3) (by decide) rfl rfl (Nat.le_of_ble_eq_true rfl) rfl bI_n (fun Z g hret => ?_)
  refine z_aload_n g dX3_isDigit_0 0 rfl ?_
  refine z_callVi (w' := [_, _]) (wr := []) g (k_X3_look l G k _ _ _ _ _ _ _ _ _ _ _ _ _ _ _ _ _ _ (by assumption) (by repeat (first | assumption | apply takesN_le | apply rnN_le | apply rpN_le | apply sgN_le | apply rrN_le | (apply dgN_le (by decide)) | apply rtS_le | apply rfS_le | apply tnN_le | apply mtS_le | apply mfS_le | apply mstep_le | (exact isd_lt (by assumption)) | (exact is13_lt (by assumption)))) (by assumption)) 0 gX3_isDigit_X3_look rfl rfl rfl nd_X3_look ⟨by decide, by decide⟩ 0 rfl rfl [0, 1] [] [0, 1] rfl rfl rfl rfl (by decide) rfl rfl rfl rfl (Nat.le_of_ble_eq_true rfl) dX3_isDigit_1 ⟨by decide, by decide⟩ ?_
  refine z_bi g 48 dX3_isDigit_4 (by decide) ?_
  refine z_ic_lt g (tgt := 22) dX3_isDigit_6 (by decide) (fun b6 => ?_) (fun b6 => ?_)
  · refine z_ic0 g dX3_isDigit_22 ?_
    exact hret _ _ _ _ dX3_isDigit_23 ((by simp only [isdM, if_pos b6, reduceIte, Bool.false_eq_true] <;> rfl)) (rfl)
  · refine z_aload_n g dX3_isDigit_9 0 rfl ?_
    refine z_callVi (w' := [_, _]) (wr := []) g (k_X3_look l G k _ _ _ _ _ _ _ _ _ _ _ _ _ _ _ _ _ _ (by assumption) (by repeat (first | assumption | apply takesN_le | apply rnN_le | apply rpN_le | apply sgN_le | apply rrN_le | (apply dgN_le (by decide)) | apply rtS_le | apply rfS_le | apply tnN_le | apply mtS_le | apply mfS_le | apply mstep_le | (exact isd_lt (by assumption)) | (exact is13_lt (by assumption)))) (by assumption)) 0 gX3_isDigit_X3_look rfl rfl rfl nd_X3_look ⟨by decide, by decide⟩ 0 rfl rfl [0, 1] [] [0, 1] rfl rfl rfl rfl (by decide) rfl rfl rfl rfl (Nat.le_of_ble_eq_true rfl) dX3_isDigit_10 ⟨by decide, by decide⟩ ?_
    refine z_bi g 57 dX3_isDigit_13 (by decide) ?_
    refine z_ic_gt g (tgt := 22) dX3_isDigit_15 (by decide) (fun b15 => ?_) (fun b15 => ?_)
    · refine z_ic0 g dX3_isDigit_22 ?_
      exact hret _ _ _ _ dX3_isDigit_23 ((by simp only [isdM, if_neg b6, if_pos b15, reduceIte, Bool.false_eq_true] <;> rfl)) (rfl)
    · refine z_ic1 g dX3_isDigit_18 ?_
      refine z_goto g 23 dX3_isDigit_19 (by decide) ?_
      exact hret _ _ _ _ dX3_isDigit_23 ((by simp only [isdM, if_neg b6, if_neg b15, reduceIte, Bool.false_eq_true] <;> rfl)) (rfl)
theorem nd_X3_isDigit : yX3_isDigit.cls = RX3 ∧ yX3_isDigit.cls ≠ "java/lang/invoke/MethodHandle" ∧ yX3_isDigit.cls ≠ "java/lang/invoke/VarHandle" ∧ (parseMethodDescriptor yX3_isDigit.desc).map (fun d => d.parameters.length) = some 0 := by decide +kernel
set_option maxHeartbeats 4000000 in
set_option maxRecDepth 100000 in
/-- digit() -/
theorem k_X3_digit (l : Launch) (G : va_G) (k : Nat → ClassId) (h0 e1 e3 e4 e5 e7 e8 e11 e12 e13 e14 : Nat) (ft : Int32) (n dg i : Nat) (ov un : Int64) (f : Nat → Int32) (hn : n ≤ 30) (hil : i < n) : ∀ sz, Met l yX3_digit wsX3_digit ({ frames := 0, cells := 0, slots := 0, locals := 0 }) (va_Pc [.ref h0] (KP G k [(h0, .inr (3, [.int ft, .ref e1, .int (nI n), .ref e3, .ref e4, .ref e5, .int (nI dg), .ref e7, .ref e8, .long ov, .long un, .ref e11, .ref e12, .ref e13, .ref e14, .int (nI i)])), (e1, .inl (k 0, 30, .inl f))] sz)) (va_Qi (fun r (_ : Unit) => r = f i - 48) (KQ G [(h0, .inr (3, [.int ft, .ref e1, .int (nI n), .ref e3, .ref e4, .ref e5, .int (nI dg), .ref e7, .ref e8, .long ov, .long un, .ref e11, .ref e12, .ref e13, .ref e14, .int (nI (i + 1))])), (e1, .inl (k 0, 30, .inl f))] (va_A [(h0, .inr (3, [.int ft, .ref e1, .int (nI n), .ref e3, .ref e4, .ref e5, .int (nI dg), .ref e7, .ref e8, .long ov, .long un, .ref e11, .ref e12, .ref e13, .ref e14, .int (nI i)])), (e1, .inl (k 0, 30, .inl f))] sz)) (va_A [(h0, .inr (3, [.int ft, .ref e1, .int (nI n), .ref e3, .ref e4, .ref e5, .int (nI dg), .ref e7, .ref e8, .long ov, .long un, .ref e11, .ref e12, .ref e13, .ref e14, .int (nI i)])), (e1, .inl (k 0, 30, .inl f))] sz)) 0 0 (va_A [(h0, .inr (3, [.int ft, .ref e1, .int (nI n), .ref e3, .ref e4, .ref e5, .int (nI dg), .ref e7, .ref e8, .long ov, .long un, .ref e11, .ref e12, .ref e13, .ref e14, .int (nI i)])), (e1, .inl (k 0, 30, .inl f))] sz) := by
  refine met_i 0 0 (lv0 := [(0, .ref h0)]) (own := RX3) (by decide) rfl rfl (Nat.le_of_ble_eq_true rfl) rfl (fun Z g hret => ?_)
  have hX3 : ∀ w ∈ u_ws RX3 TX3 16, w ∈ wsX3_digit := fun w h => List.mem_cons_of_mem _ (List.mem_append_right _ (h))
  refine z_aload_n g dX3_digit_0 0 rfl ?_
  refine z_dup g dX3_digit_1 rfl ?_
  refine z_get g hX3 0 rfl rfl 15 (by decide) (mi 1 rfl) rfl dX3_digit_2 ?_
  refine z_ic1 g dX3_digit_5 ?_
  refine z_iadd g dX3_digit_6 ?_
  refine z_ti (y := nI (i + 1)) (nI_1 i) ?_
  refine z_put (w' := [(_, .inr (3, [_, _, _, _, _, _, _, _, _, _, _, _, _, _, _, _])), _]) g hX3 tyX3 tyX3_ok nmX3 0 rfl rfl 15 (by decide) (mi 1 rfl) rfl rfl rfl (Nat.le_of_ble_eq_true rfl) dX3_digit_7 rfl ?_
  refine z_aload_n g dX3_digit_10 0 rfl ?_
  refine z_get g hX3 0 rfl rfl 1 (by decide) (mi 2 rfl) rfl dX3_digit_11 ?_
  refine z_aload_n g dX3_digit_14 0 rfl ?_
  refine z_get g hX3 0 rfl rfl 15 (by decide) (mi 1 rfl) rfl dX3_digit_15 ?_
  refine z_ic1 g dX3_digit_18 ?_
  refine z_isub g dX3_digit_19 ?_
  refine z_cald g 1 rfl i (nI_pred i) (by omega) (by decide) dX3_digit_20 ?_
  refine z_bi g 48 dX3_digit_21 (by decide) ?_
  refine z_isub g dX3_digit_23 ?_
  exact hret _ _ _ _ dX3_digit_24 (rfl) (rfl)
theorem nd_X3_digit : yX3_digit.cls = RX3 ∧ yX3_digit.cls ≠ "java/lang/invoke/MethodHandle" ∧ yX3_digit.cls ≠ "java/lang/invoke/VarHandle" ∧ (parseMethodDescriptor yX3_digit.desc).map (fun d => d.parameters.length) = some 0 := by decide +kernel
set_option maxHeartbeats 4000000 in
set_option maxRecDepth 100000 in
/-- readTerm(sign) -/
theorem k_X3_readTerm (l : Launch) (G : va_G) (k : Nat → ClassId) (h0 e1 e3 e4 e5 e7 e8 e11 e12 e13 e14 : Nat) (ft : Int32) (n dg i : Nat) (ov un : Int64) (f : Nat → Int32) (T : Nat → Int64) (p0 : Int64) (hn : n ≤ 30) (hi : i ≤ n) (hf : chOK f n) : ∀ sz, Met l yX3_readTerm wsX3_readTerm ({ frames := 2, cells := 0, slots := 0, locals := 42 }) (va_Pc [.ref h0, .long p0] (KP G k [(h0, .inr (3, [.int ft, .ref e1, .int (nI n), .ref e3, .ref e4, .ref e5, .int (nI dg), .ref e7, .ref e8, .long ov, .long un, .ref e11, .ref e12, .ref e13, .ref e14, .int (nI i)])), (e1, .inl (k 0, 30, .inl f)), (e14, .inl (k 2, 7, .inr (.inl T)))] sz)) (va_Qi (fun r (_ : Unit) => r = bI (mtS f n p0 i T).1) (KQ G [(h0, .inr (3, [.int ft, .ref e1, .int (nI n), .ref e3, .ref e4, .ref e5, .int (nI dg), .ref e7, .ref e8, .long ov, .long un, .ref e11, .ref e12, .ref e13, .ref e14, .int (nI ((mtS f n p0 i T).2.1))])), (e1, .inl (k 0, 30, .inl f)), (e14, .inl (k 2, 7, .inr (.inl ((mtS f n p0 i T).2.2))))] (va_A [(h0, .inr (3, [.int ft, .ref e1, .int (nI n), .ref e3, .ref e4, .ref e5, .int (nI dg), .ref e7, .ref e8, .long ov, .long un, .ref e11, .ref e12, .ref e13, .ref e14, .int (nI i)])), (e1, .inl (k 0, 30, .inl f)), (e14, .inl (k 2, 7, .inr (.inl T)))] sz)) (va_A [(h0, .inr (3, [.int ft, .ref e1, .int (nI n), .ref e3, .ref e4, .ref e5, .int (nI dg), .ref e7, .ref e8, .long ov, .long un, .ref e11, .ref e12, .ref e13, .ref e14, .int (nI i)])), (e1, .inl (k 0, 30, .inl f)), (e14, .inl (k 2, 7, .inr (.inl T)))] sz)) 0 0 (va_A [(h0, .inr (3, [.int ft, .ref e1, .int (nI n), .ref e3, .ref e4, .ref e5, .int (nI dg), .ref e7, .ref e8, .long ov, .long un, .ref e11, .ref e12, .ref e13, .ref e14, .int (nI i)])), (e1, .inl (k 0, 30, .inl f)), (e14, .inl (k 2, 7, .inr (.inl T)))] sz) := by
  refine met_z 0 0 (lv0 := [(0, .ref h0), (1, .long p0)]) (own := RX3) (by decide) rfl rfl (Nat.le_of_ble_eq_true rfl) rfl bI_n (fun Z g hret => ?_)
  have hX3 : ∀ w ∈ u_ws RX3 TX3 16, w ∈ wsX3_readTerm := fun w h => List.mem_cons_of_mem _ (List.mem_append_right _ (h))
  refine z_aload_n g dX3_readTerm_0 0 rfl ?_
  refine z_callVi (w' := [_, _, _]) (wr := [_]) g (k_X3_isDigit l G k _ _ _ _ _ _ _ _ _ _ _ _ _ _ _ _ _ _ (by assumption) (by repeat (first | assumption | apply takesN_le | apply rnN_le | apply rpN_le | apply sgN_le | apply rrN_le | (apply dgN_le (by decide)) | apply rtS_le | apply rfS_le | apply tnN_le | apply mtS_le | apply mfS_le | apply mstep_le | (exact isd_lt (by assumption)) | (exact is13_lt (by assumption)))) (by assumption)) 0 gX3_readTerm_X3_isDigit rfl rfl rfl nd_X3_isDigit ⟨by decide, by decide⟩ 0 rfl rfl [0, 1] [2] [1, 2, 0] rfl rfl rfl rfl (by decide) rfl rfl rfl rfl (Nat.le_of_ble_eq_true rfl) dX3_readTerm_1 ⟨by decide, by decide⟩ ?_
  refine z_istore_n (lv' := [(3, .int _), (0, .ref _), (1, .long _)]) g dX3_readTerm_4 (by decide) rfl ?_
  have cut_48 : ∀ (num : Int64) (i1 : Nat), (num = tnV f n i) → (i1 = tnN f n i) → Z 0 0 [(h0, .inr (3, [.int ft, .ref e1, .int (nI n), .ref e3, .ref e4, .ref e5, .int (nI dg), .ref e7, .ref e8, .long ov, .long un, .ref e11, .ref e12, .ref e13, .ref e14, .int (nI i1)])), (e1, .inl (k 0, 30, .inl f)), (e14, .inl (k 2, 7, .inr (.inl T)))] [(0, .ref h0), (1, .long p0), (3, .int (bI (isdM f n i)))] 48 [.long num] := by
    intro num i1 hnum hi1
    have hi1l : i1 ≤ n := by rw [hi1]; exact tnN_le hi
    subst hnum
    refine z_lstore (lv' := [(4, .long _), (0, .ref _), (1, .long _), (3, .int _)]) g dX3_readTerm_48 (by decide) rfl ?_
    refine z_ic0 g dX3_readTerm_50 ?_
    refine z_istore (lv' := [(6, .int _), (4, .long _), (0, .ref _), (1, .long _), (3, .int _)]) g dX3_readTerm_51 (by decide) rfl ?_
    refine z_aload_n g dX3_readTerm_53 2 rfl ?_
    refine z_bi g 120 dX3_readTerm_54 (by decide) ?_
    refine z_callVi (w' := [_, _, _]) (wr := [_]) g (k_X3_pass l G k _ _ _ _ _ _ _ _ _ _ _ _ _ _ _ _ _ _ _ (by assumption) (by repeat (first | assumption | apply takesN_le | apply rnN_le | apply rpN_le | apply sgN_le | apply rrN_le | (apply dgN_le (by decide)) | apply rtS_le | apply rfS_le | apply tnN_le | apply mtS_le | apply mfS_le | apply mstep_le | (exact isd_lt (by assumption)) | (exact is13_lt (by assumption)))) (by assumption) (by decide)) 1 gX3_readTerm_X3_pass rfl rfl rfl nd_X3_pass ⟨by decide, by decide⟩ 0 rfl rfl [0, 1] [2] [1, 2, 0] rfl rfl rfl rfl (by decide) rfl rfl rfl rfl (Nat.le_of_ble_eq_true rfl) dX3_readTerm_56 ⟨by decide, by decide⟩ ?_
    refine z_istore (lv' := [(7, .int _), (6, .int _), (4, .long _), (0, .ref _), (1, .long _), (3, .int _)]) g dX3_readTerm_59 (by decide) rfl ?_
    refine z_iload_n g dX3_readTerm_61 5 rfl ?_
    refine z_bf_ne g (tgt := 72) dX3_readTerm_62 (by decide) (fun b62 => ?_) (fun b62 => ?_)
    · have hq : isdM f n i = true ∨ takesP f n i1 120 = true := by first | exact Or.inl b62 | exact Or.inr b67
      have cut_104 : ∀ (pw : Int32) (i3 : Nat), (¬ pw < 0) → (mtE p0 (tnV f n i) T pw i3 = (mtS f n p0 i T)) → Z 0 0 [(h0, .inr (3, [.int ft, .ref e1, .int (nI n), .ref e3, .ref e4, .ref e5, .int (nI dg), .ref e7, .ref e8, .long ov, .long un, .ref e11, .ref e12, .ref e13, .ref e14, .int (nI i3)])), (e1, .inl (k 0, 30, .inl f)), (e14, .inl (k 2, 7, .inr (.inl T)))] [(0, .ref h0), (1, .long p0), (4, .long (tnV f n i)), (6, .int pw)] 104 [] := by
        intro pw i3 hp0 hI
        refine z_iload g dX3_readTerm_104 3 rfl ?_
        refine z_bi g 6 dX3_readTerm_106 (by decide) ?_
        refine z_ic_le g (tgt := 113) dX3_readTerm_108 (by decide) (fun b108 => ?_) (fun b108 => ?_)
        · refine z_aload_n g dX3_readTerm_113 0 rfl ?_
          refine z_get g hX3 0 rfl rfl 14 (by decide) (mi 2 rfl) rfl dX3_readTerm_114 ?_
          refine z_iload g dX3_readTerm_117 3 rfl ?_
          refine z_aload_n g dX3_readTerm_119 0 rfl ?_
          refine z_get g hX3 0 rfl rfl 14 (by decide) (mi 2 rfl) rfl dX3_readTerm_120 ?_
          refine z_iload g dX3_readTerm_123 3 rfl ?_
          refine z_lald g 2 rfl pw.toNatClampNeg (ix6 hp0 (Int32.not_lt.mpr b108)).1 (ix6 hp0 (Int32.not_lt.mpr b108)).2 (by decide) dX3_readTerm_125 ?_
          refine z_lload_n g dX3_readTerm_126 1 rfl ?_
          refine z_lload g dX3_readTerm_127 2 rfl ?_
          refine z_lmul g dX3_readTerm_129 ?_
          refine z_ladd g dX3_readTerm_130 ?_
          refine z_last (w' := [_, _, _]) g 2 rfl pw.toNatClampNeg (ix6 hp0 (Int32.not_lt.mpr b108)).1 (ix6 hp0 (Int32.not_lt.mpr b108)).2 (by decide) dX3_readTerm_131 rfl ?_
          refine z_ic1 g dX3_readTerm_132 ?_
          exact hret _ _ _ _ dX3_readTerm_133 ((by rw [← hI]; unfold mtE; rw [if_pos b108]; rfl)) ((by rw [← hI]; unfold mtE; rw [if_pos b108]))
        · refine z_ic0 g dX3_readTerm_111 ?_
          exact hret _ _ _ _ dX3_readTerm_112 ((by rw [← hI]; unfold mtE; rw [if_neg b108]; rfl)) ((by rw [← hI]; unfold mtE; rw [if_neg b108]))
      refine z_iload g dX3_readTerm_72 0 rfl ?_
      refine z_bf_eq g (tgt := 104) dX3_readTerm_74 (by decide) (fun b74 => ?_) (fun b74 => ?_)
      · refine z_locs (lv' := [(0, .ref _), (1, .long _), (4, .long _), (6, .int _)]) g [3, 4, 2, 1] rfl ?_
        exact cut_104 _ _ (by first | decide | (obtain ⟨d, hd, e⟩ := isd_v b93; rw [e]; exact nI_pos (by omega))) (by unfold mtS; rw [← hi1]; unfold mtB mtX; first | (simp only [reduceIte, if_pos b62, if_neg (Bool.eq_false_iff.mp b74), Bool.false_eq_true]; done) | (rw [if_neg (Bool.eq_false_iff.mp b74), if_pos (hq.resolve_right (Bool.eq_false_iff.mp b74))]))
      · refine z_ic1 g dX3_readTerm_77 ?_
        refine z_istore (lv' := [(6, .int _), (7, .int _), (4, .long _), (0, .ref _), (1, .long _), (3, .int _)]) g dX3_readTerm_78 (by decide) rfl ?_
        refine z_aload_n g dX3_readTerm_80 3 rfl ?_
        refine z_bi g 94 dX3_readTerm_81 (by decide) ?_
        refine z_callVi (w' := [_, _, _]) (wr := [_]) g (k_X3_pass l G k _ _ _ _ _ _ _ _ _ _ _ _ _ _ _ _ _ _ _ (by assumption) (by repeat (first | assumption | apply takesN_le | apply rnN_le | apply rpN_le | apply sgN_le | apply rrN_le | (apply dgN_le (by decide)) | apply rtS_le | apply rfS_le | apply tnN_le | apply mtS_le | apply mfS_le | apply mstep_le | (exact isd_lt (by assumption)) | (exact is13_lt (by assumption)))) (by assumption) (by decide)) 1 gX3_readTerm_X3_pass rfl rfl rfl nd_X3_pass ⟨by decide, by decide⟩ 0 rfl rfl [0, 1] [2] [1, 2, 0] rfl rfl rfl rfl (by decide) rfl rfl rfl rfl (Nat.le_of_ble_eq_true rfl) dX3_readTerm_83 ⟨by decide, by decide⟩ ?_
        refine z_bf_eq g (tgt := 104) dX3_readTerm_86 (by decide) (fun b86 => ?_) (fun b86 => ?_)
        · refine z_locs (lv' := [(0, .ref _), (1, .long _), (4, .long _), (6, .int _)]) g [3, 4, 2, 0] rfl ?_
          exact cut_104 _ _ (by first | decide | (obtain ⟨d, hd, e⟩ := isd_v b93; rw [e]; exact nI_pos (by omega))) (by unfold mtS; rw [← hi1]; unfold mtB mtX; first | (simp only [reduceIte, if_pos b62, if_pos b74, if_neg (Bool.eq_false_iff.mp b86), Bool.false_eq_true]; done) | (rw [if_neg (Bool.eq_false_iff.mp b74), if_pos (hq.resolve_right (Bool.eq_false_iff.mp b74))]))
        · refine z_aload_n g dX3_readTerm_89 3 rfl ?_
          refine z_callVi (w' := [_, _, _]) (wr := [_]) g (k_X3_isDigit l G k _ _ _ _ _ _ _ _ _ _ _ _ _ _ _ _ _ _ (by assumption) (by repeat (first | assumption | apply takesN_le | apply rnN_le | apply rpN_le | apply sgN_le | apply rrN_le | (apply dgN_le (by decide)) | apply rtS_le | apply rfS_le | apply tnN_le | apply mtS_le | apply mfS_le | apply mstep_le | (exact isd_lt (by assumption)) | (exact is13_lt (by assumption)))) (by assumption)) 0 gX3_readTerm_X3_isDigit rfl rfl rfl nd_X3_isDigit ⟨by decide, by decide⟩ 0 rfl rfl [0, 1] [2] [1, 2, 0] rfl rfl rfl rfl (by decide) rfl rfl rfl rfl (Nat.le_of_ble_eq_true rfl) dX3_readTerm_90 ⟨by decide, by decide⟩ ?_
          refine z_bf_ne g (tgt := 98) dX3_readTerm_93 (by decide) (fun b93 => ?_) (fun b93 => ?_)
          · refine z_aload_n g dX3_readTerm_98 3 rfl ?_
            refine z_callVi (w' := [_, _, _]) (wr := [_]) g (k_X3_digit l G k _ _ _ _ _ _ _ _ _ _ _ _ _ _ _ _ _ _ (by assumption) (by first | assumption | exact isd_lt (by assumption) | exact is13_lt (by assumption))) 0 gX3_readTerm_X3_digit rfl rfl rfl nd_X3_digit ⟨by decide, by decide⟩ 0 rfl rfl [0, 1] [2] [1, 2, 0] rfl rfl rfl rfl (by decide) rfl rfl rfl rfl (Nat.le_of_ble_eq_true rfl) dX3_readTerm_99 ⟨by decide, by decide⟩ ?_
            refine z_istore (lv' := [(6, .int _), (7, .int _), (4, .long _), (0, .ref _), (1, .long _), (3, .int _)]) g dX3_readTerm_102 (by decide) rfl ?_
            refine z_locs (lv' := [(0, .ref _), (1, .long _), (4, .long _), (6, .int _)]) g [3, 4, 2, 0] rfl ?_
            exact cut_104 _ _ (by first | decide | (obtain ⟨d, hd, e⟩ := isd_v b93; rw [e]; exact nI_pos (by omega))) (by unfold mtS; rw [← hi1]; unfold mtB mtX; first | (simp only [reduceIte, if_pos b62, if_pos b74, if_pos b86, if_pos b93, Bool.false_eq_true]; done) | (rw [if_neg (Bool.eq_false_iff.mp b74), if_pos (hq.resolve_right (Bool.eq_false_iff.mp b74))]))
          · refine z_ic0 g dX3_readTerm_96 ?_
            exact hret _ _ _ _ dX3_readTerm_97 ((by unfold mtS; rw [← hi1]; unfold mtB mtX; simp only [reduceIte, if_pos b62, if_pos b74, if_pos b86, if_neg (Bool.eq_false_iff.mp b93), Bool.false_eq_true]; rfl)) ((by unfold mtS; rw [← hi1]; unfold mtB mtX; simp only [reduceIte, if_pos b62, if_pos b74, if_pos b86, if_neg (Bool.eq_false_iff.mp b93), Bool.false_eq_true]))
    · refine z_iload g dX3_readTerm_65 0 rfl ?_
      refine z_bf_ne g (tgt := 72) dX3_readTerm_67 (by decide) (fun b67 => ?_) (fun b67 => ?_)
      · have hq : isdM f n i = true ∨ takesP f n i1 120 = true := by first | exact Or.inl b62 | exact Or.inr b67
        have cut_104 : ∀ (pw : Int32) (i3 : Nat), (¬ pw < 0) → (mtE p0 (tnV f n i) T pw i3 = (mtS f n p0 i T)) → Z 0 0 [(h0, .inr (3, [.int ft, .ref e1, .int (nI n), .ref e3, .ref e4, .ref e5, .int (nI dg), .ref e7, .ref e8, .long ov, .long un, .ref e11, .ref e12, .ref e13, .ref e14, .int (nI i3)])), (e1, .inl (k 0, 30, .inl f)), (e14, .inl (k 2, 7, .inr (.inl T)))] [(0, .ref h0), (1, .long p0), (4, .long (tnV f n i)), (6, .int pw)] 104 [] := by
          intro pw i3 hp0 hI
          refine z_iload g dX3_readTerm_104 3 rfl ?_
          refine z_bi g 6 dX3_readTerm_106 (by decide) ?_
          refine z_ic_le g (tgt := 113) dX3_readTerm_108 (by decide) (fun b108 => ?_) (fun b108 => ?_)
          · refine z_aload_n g dX3_readTerm_113 0 rfl ?_
            refine z_get g hX3 0 rfl rfl 14 (by decide) (mi 2 rfl) rfl dX3_readTerm_114 ?_
            refine z_iload g dX3_readTerm_117 3 rfl ?_
            refine z_aload_n g dX3_readTerm_119 0 rfl ?_
            refine z_get g hX3 0 rfl rfl 14 (by decide) (mi 2 rfl) rfl dX3_readTerm_120 ?_
            refine z_iload g dX3_readTerm_123 3 rfl ?_
            refine z_lald g 2 rfl pw.toNatClampNeg (ix6 hp0 (Int32.not_lt.mpr b108)).1 (ix6 hp0 (Int32.not_lt.mpr b108)).2 (by decide) dX3_readTerm_125 ?_
            refine z_lload_n g dX3_readTerm_126 1 rfl ?_
            refine z_lload g dX3_readTerm_127 2 rfl ?_
            refine z_lmul g dX3_readTerm_129 ?_
            refine z_ladd g dX3_readTerm_130 ?_
            refine z_last (w' := [_, _, _]) g 2 rfl pw.toNatClampNeg (ix6 hp0 (Int32.not_lt.mpr b108)).1 (ix6 hp0 (Int32.not_lt.mpr b108)).2 (by decide) dX3_readTerm_131 rfl ?_
            refine z_ic1 g dX3_readTerm_132 ?_
            exact hret _ _ _ _ dX3_readTerm_133 ((by rw [← hI]; unfold mtE; rw [if_pos b108]; rfl)) ((by rw [← hI]; unfold mtE; rw [if_pos b108]))
          · refine z_ic0 g dX3_readTerm_111 ?_
            exact hret _ _ _ _ dX3_readTerm_112 ((by rw [← hI]; unfold mtE; rw [if_neg b108]; rfl)) ((by rw [← hI]; unfold mtE; rw [if_neg b108]))
        refine z_iload g dX3_readTerm_72 0 rfl ?_
        refine z_bf_eq g (tgt := 104) dX3_readTerm_74 (by decide) (fun b74 => ?_) (fun b74 => ?_)
        · exact absurd (b67.symm.trans b74) (by decide)
        · refine z_ic1 g dX3_readTerm_77 ?_
          refine z_istore (lv' := [(6, .int _), (7, .int _), (4, .long _), (0, .ref _), (1, .long _), (3, .int _)]) g dX3_readTerm_78 (by decide) rfl ?_
          refine z_aload_n g dX3_readTerm_80 3 rfl ?_
          refine z_bi g 94 dX3_readTerm_81 (by decide) ?_
          refine z_callVi (w' := [_, _, _]) (wr := [_]) g (k_X3_pass l G k _ _ _ _ _ _ _ _ _ _ _ _ _ _ _ _ _ _ _ (by assumption) (by repeat (first | assumption | apply takesN_le | apply rnN_le | apply rpN_le | apply sgN_le | apply rrN_le | (apply dgN_le (by decide)) | apply rtS_le | apply rfS_le | apply tnN_le | apply mtS_le | apply mfS_le | apply mstep_le | (exact isd_lt (by assumption)) | (exact is13_lt (by assumption)))) (by assumption) (by decide)) 1 gX3_readTerm_X3_pass rfl rfl rfl nd_X3_pass ⟨by decide, by decide⟩ 0 rfl rfl [0, 1] [2] [1, 2, 0] rfl rfl rfl rfl (by decide) rfl rfl rfl rfl (Nat.le_of_ble_eq_true rfl) dX3_readTerm_83 ⟨by decide, by decide⟩ ?_
          refine z_bf_eq g (tgt := 104) dX3_readTerm_86 (by decide) (fun b86 => ?_) (fun b86 => ?_)
          · refine z_locs (lv' := [(0, .ref _), (1, .long _), (4, .long _), (6, .int _)]) g [3, 4, 2, 0] rfl ?_
            exact cut_104 _ _ (by first | decide | (obtain ⟨d, hd, e⟩ := isd_v b93; rw [e]; exact nI_pos (by omega))) (by unfold mtS; rw [← hi1]; unfold mtB mtX; first | (simp only [reduceIte, if_neg (Bool.eq_false_iff.mp b62), if_pos b67, if_pos b74, if_neg (Bool.eq_false_iff.mp b86), Bool.false_eq_true]; done) | (rw [if_neg (Bool.eq_false_iff.mp b74), if_pos (hq.resolve_right (Bool.eq_false_iff.mp b74))]))
          · refine z_aload_n g dX3_readTerm_89 3 rfl ?_
            refine z_callVi (w' := [_, _, _]) (wr := [_]) g (k_X3_isDigit l G k _ _ _ _ _ _ _ _ _ _ _ _ _ _ _ _ _ _ (by assumption) (by repeat (first | assumption | apply takesN_le | apply rnN_le | apply rpN_le | apply sgN_le | apply rrN_le | (apply dgN_le (by decide)) | apply rtS_le | apply rfS_le | apply tnN_le | apply mtS_le | apply mfS_le | apply mstep_le | (exact isd_lt (by assumption)) | (exact is13_lt (by assumption)))) (by assumption)) 0 gX3_readTerm_X3_isDigit rfl rfl rfl nd_X3_isDigit ⟨by decide, by decide⟩ 0 rfl rfl [0, 1] [2] [1, 2, 0] rfl rfl rfl rfl (by decide) rfl rfl rfl rfl (Nat.le_of_ble_eq_true rfl) dX3_readTerm_90 ⟨by decide, by decide⟩ ?_
            refine z_bf_ne g (tgt := 98) dX3_readTerm_93 (by decide) (fun b93 => ?_) (fun b93 => ?_)
            · refine z_aload_n g dX3_readTerm_98 3 rfl ?_
              refine z_callVi (w' := [_, _, _]) (wr := [_]) g (k_X3_digit l G k _ _ _ _ _ _ _ _ _ _ _ _ _ _ _ _ _ _ (by assumption) (by first | assumption | exact isd_lt (by assumption) | exact is13_lt (by assumption))) 0 gX3_readTerm_X3_digit rfl rfl rfl nd_X3_digit ⟨by decide, by decide⟩ 0 rfl rfl [0, 1] [2] [1, 2, 0] rfl rfl rfl rfl (by decide) rfl rfl rfl rfl (Nat.le_of_ble_eq_true rfl) dX3_readTerm_99 ⟨by decide, by decide⟩ ?_
              refine z_istore (lv' := [(6, .int _), (7, .int _), (4, .long _), (0, .ref _), (1, .long _), (3, .int _)]) g dX3_readTerm_102 (by decide) rfl ?_
              refine z_locs (lv' := [(0, .ref _), (1, .long _), (4, .long _), (6, .int _)]) g [3, 4, 2, 0] rfl ?_
              exact cut_104 _ _ (by first | decide | (obtain ⟨d, hd, e⟩ := isd_v b93; rw [e]; exact nI_pos (by omega))) (by unfold mtS; rw [← hi1]; unfold mtB mtX; first | (simp only [reduceIte, if_neg (Bool.eq_false_iff.mp b62), if_pos b67, if_pos b74, if_pos b86, if_pos b93, Bool.false_eq_true]; done) | (rw [if_neg (Bool.eq_false_iff.mp b74), if_pos (hq.resolve_right (Bool.eq_false_iff.mp b74))]))
            · refine z_ic0 g dX3_readTerm_96 ?_
              exact hret _ _ _ _ dX3_readTerm_97 ((by unfold mtS; rw [← hi1]; unfold mtB mtX; simp only [reduceIte, if_neg (Bool.eq_false_iff.mp b62), if_pos b67, if_pos b74, if_pos b86, if_neg (Bool.eq_false_iff.mp b93), Bool.false_eq_true]; rfl)) ((by unfold mtS; rw [← hi1]; unfold mtB mtX; simp only [reduceIte, if_neg (Bool.eq_false_iff.mp b62), if_pos b67, if_pos b74, if_pos b86, if_neg (Bool.eq_false_iff.mp b93), Bool.false_eq_true]))
      · refine z_ic0 g dX3_readTerm_70 ?_
        exact hret _ _ _ _ dX3_readTerm_71 ((by unfold mtS; rw [← hi1]; unfold mtB mtX; simp only [reduceIte, if_neg (Bool.eq_false_iff.mp b62), if_neg (Bool.eq_false_iff.mp b67), Bool.false_eq_true]; rfl)) ((by unfold mtS; rw [← hi1]; unfold mtB mtX; simp only [reduceIte, if_neg (Bool.eq_false_iff.mp b62), if_neg (Bool.eq_false_iff.mp b67), Bool.false_eq_true]))
  refine z_iload_n g dX3_readTerm_5 0 rfl ?_
  refine z_bf_eq g (tgt := 17) dX3_readTerm_6 (by decide) (fun b6 => ?_) (fun b6 => ?_)
  · refine z_lc1 g dX3_readTerm_17 ?_
    refine z_lstore (lv' := [(4, .long _), (3, .int _), (0, .ref _), (1, .long _)]) g dX3_readTerm_18 (by decide) rfl ?_
    refine z_iload_n g dX3_readTerm_20 1 rfl ?_
    refine z_bf_eq g (tgt := 46) dX3_readTerm_21 (by decide) (fun b21 => ?_) (fun b21 => ?_)
    · refine z_lload g dX3_readTerm_46 0 rfl ?_
      refine z_locs (lv' := [(0, .ref _), (1, .long _), (3, .int _)]) g [2, 3, 1] rfl ?_
      exact cut_48 _ _ (by unfold tnV; simp only [reduceIte, if_neg (Bool.eq_false_iff.mp b6), if_neg (Bool.eq_false_iff.mp b21)]) (by unfold tnN; simp only [reduceIte, if_neg (Bool.eq_false_iff.mp b6), if_neg (Bool.eq_false_iff.mp b21)])
    · exact absurd (b6.symm.trans b21) (by decide)
  · refine z_aload_n g dX3_readTerm_9 1 rfl ?_
    refine z_callVi (w' := [_, _, _]) (wr := [_]) g (k_X3_digit l G k _ _ _ _ _ _ _ _ _ _ _ _ _ _ _ _ _ _ (by assumption) (by first | assumption | exact isd_lt (by assumption) | exact is13_lt (by assumption))) 0 gX3_readTerm_X3_digit rfl rfl rfl nd_X3_digit ⟨by decide, by decide⟩ 0 rfl rfl [0, 1] [2] [1, 2, 0] rfl rfl rfl rfl (by decide) rfl rfl rfl rfl (Nat.le_of_ble_eq_true rfl) dX3_readTerm_10 ⟨by decide, by decide⟩ ?_
    refine z_i2l g dX3_readTerm_13 ?_
    refine z_goto g 18 dX3_readTerm_14 (by decide) ?_
    refine z_lstore (lv' := [(4, .long _), (3, .int _), (0, .ref _), (1, .long _)]) g dX3_readTerm_18 (by decide) rfl ?_
    refine z_iload_n g dX3_readTerm_20 1 rfl ?_
    refine z_bf_eq g (tgt := 46) dX3_readTerm_21 (by decide) (fun b21 => ?_) (fun b21 => ?_)
    · exact absurd (b6.symm.trans b21) (by decide)
    · refine z_aload_n g dX3_readTerm_24 2 rfl ?_
      refine z_callVi (w' := [_, _, _]) (wr := [_]) g (k_X3_isDigit l G k _ _ _ _ _ _ _ _ _ _ _ _ _ _ _ _ _ _ (by assumption) (by repeat (first | assumption | apply takesN_le | apply rnN_le | apply rpN_le | apply sgN_le | apply rrN_le | (apply dgN_le (by decide)) | apply rtS_le | apply rfS_le | apply tnN_le | apply mtS_le | apply mfS_le | apply mstep_le | (exact isd_lt (by assumption)) | (exact is13_lt (by assumption)))) (by assumption)) 0 gX3_readTerm_X3_isDigit rfl rfl rfl nd_X3_isDigit ⟨by decide, by decide⟩ 0 rfl rfl [0, 1] [2] [1, 2, 0] rfl rfl rfl rfl (by decide) rfl rfl rfl rfl (Nat.le_of_ble_eq_true rfl) dX3_readTerm_25 ⟨by decide, by decide⟩ ?_
      refine z_bf_eq g (tgt := 46) dX3_readTerm_28 (by decide) (fun b28 => ?_) (fun b28 => ?_)
      · refine z_lload g dX3_readTerm_46 0 rfl ?_
        refine z_locs (lv' := [(0, .ref _), (1, .long _), (3, .int _)]) g [2, 3, 1] rfl ?_
        exact cut_48 _ _ (by unfold tnV; simp only [reduceIte, if_pos b6, if_pos b21, if_neg (Bool.eq_false_iff.mp b28)]) (by unfold tnN; simp only [reduceIte, if_pos b6, if_pos b21, if_neg (Bool.eq_false_iff.mp b28)])
      · refine z_ldc2 g (v := (10)) dX3_readTerm_31 (mi 1 rfl) ?_
        refine z_lload g dX3_readTerm_34 0 rfl ?_
        refine z_lmul g dX3_readTerm_36 ?_
        refine z_aload_n g dX3_readTerm_37 2 rfl ?_
        refine z_callVi (w' := [_, _, _]) (wr := [_]) g (k_X3_digit l G k _ _ _ _ _ _ _ _ _ _ _ _ _ _ _ _ _ _ (by assumption) (by first | assumption | exact isd_lt (by assumption) | exact is13_lt (by assumption))) 0 gX3_readTerm_X3_digit rfl rfl rfl nd_X3_digit ⟨by decide, by decide⟩ 0 rfl rfl [0, 1] [2] [1, 2, 0] rfl rfl rfl rfl (by decide) rfl rfl rfl rfl (Nat.le_of_ble_eq_true rfl) dX3_readTerm_38 ⟨by decide, by decide⟩ ?_
        refine z_i2l g dX3_readTerm_41 ?_
        refine z_ladd g dX3_readTerm_42 ?_
        refine z_goto g 48 dX3_readTerm_43 (by decide) ?_
        refine z_locs (lv' := [(0, .ref _), (1, .long _), (3, .int _)]) g [2, 3, 1] rfl ?_
        exact cut_48 _ _ (by unfold tnV; simp only [reduceIte, if_pos b6, if_pos b21, if_pos b28]) (by unfold tnN; simp only [reduceIte, if_pos b6, if_pos b21, if_pos b28])
theorem nd_X3_readTerm : yX3_readTerm.cls = RX3 ∧ yX3_readTerm.cls ≠ "java/lang/invoke/MethodHandle" ∧ yX3_readTerm.cls ≠ "java/lang/invoke/VarHandle" ∧ (parseMethodDescriptor yX3_readTerm.desc).map (fun d => d.parameters.length) = some 1 := by decide +kernel
set_option maxHeartbeats 4000000 in
set_option maxRecDepth 100000 in
/-- readPolynomial() -/
theorem k_X3_readPolynomial (l : Launch) (G : va_G) (k : Nat → ClassId) (h0 e1 e3 e4 e5 e7 e8 e11 e12 e13 e14 : Nat) (ft : Int32) (n dg i : Nat) (ov un : Int64) (f : Nat → Int32) (T : Nat → Int64) (hn : n ≤ 30) (hf : chOK f n) : ∀ sz, Met l yX3_readPolynomial wsX3_readPolynomial ({ frames := 3, cells := 0, slots := 0, locals := 69 }) (va_Pc [.ref h0] (KP G k [(h0, .inr (3, [.int ft, .ref e1, .int (nI n), .ref e3, .ref e4, .ref e5, .int (nI dg), .ref e7, .ref e8, .long ov, .long un, .ref e11, .ref e12, .ref e13, .ref e14, .int (nI i)])), (e1, .inl (k 0, 30, .inl f)), (e14, .inl (k 2, 7, .inr (.inl T)))] sz)) (va_Qi (fun r (_ : Unit) => r = bI (mpS f n).1) (KQ G [(h0, .inr (3, [.int ft, .ref e1, .int (nI n), .ref e3, .ref e4, .ref e5, .int (nI dg), .ref e7, .ref e8, .long ov, .long un, .ref e11, .ref e12, .ref e13, .ref e14, .int (nI ((mpS f n).2.1))])), (e1, .inl (k 0, 30, .inl f)), (e14, .inl (k 2, 7, .inr (.inl ((mpS f n).2.2))))] (va_A [(h0, .inr (3, [.int ft, .ref e1, .int (nI n), .ref e3, .ref e4, .ref e5, .int (nI dg), .ref e7, .ref e8, .long ov, .long un, .ref e11, .ref e12, .ref e13, .ref e14, .int (nI i)])), (e1, .inl (k 0, 30, .inl f)), (e14, .inl (k 2, 7, .inr (.inl T)))] sz)) (va_A [(h0, .inr (3, [.int ft, .ref e1, .int (nI n), .ref e3, .ref e4, .ref e5, .int (nI dg), .ref e7, .ref e8, .long ov, .long un, .ref e11, .ref e12, .ref e13, .ref e14, .int (nI i)])), (e1, .inl (k 0, 30, .inl f)), (e14, .inl (k 2, 7, .inr (.inl T)))] sz)) 0 0 (va_A [(h0, .inr (3, [.int ft, .ref e1, .int (nI n), .ref e3, .ref e4, .ref e5, .int (nI dg), .ref e7, .ref e8, .long ov, .long un, .ref e11, .ref e12, .ref e13, .ref e14, .int (nI i)])), (e1, .inl (k 0, 30, .inl f)), (e14, .inl (k 2, 7, .inr (.inl T)))] sz) := by
  refine met_z 0 0 (lv0 := [(0, .ref h0)]) (own := RX3) (by decide) rfl rfl (Nat.le_of_ble_eq_true rfl) rfl bI_n (fun Z g hret => ?_)
  have hX3 : ∀ w ∈ u_ws RX3 TX3 16, w ∈ wsX3_readPolynomial := fun w h => List.mem_cons_of_mem _ (List.mem_append_right _ (h))
  have h0n : 0 ≤ n := Nat.zero_le n
  refine z_aload_n g dX3_readPolynomial_0 0 rfl ?_
  refine z_ic0 g dX3_readPolynomial_1 ?_
  refine z_put (w' := [(_, .inr (3, [_, _, _, _, _, _, _, _, _, _, _, _, _, _, _, _])), _, _]) g hX3 tyX3 tyX3_ok nmX3 0 rfl rfl 15 (by decide) (mi 1 rfl) rfl rfl rfl (Nat.le_of_ble_eq_true rfl) dX3_readPolynomial_2 rfl ?_
  refine z_ic0 g dX3_readPolynomial_5 ?_
  refine z_istore_n (lv' := [(1, .int _), (0, .ref _)]) g dX3_readPolynomial_6 (by decide) rfl ?_
  have cut_7 : ∀ (N7 : Nat) (j : Nat) (T' : Nat → Int64), 7 - j < N7 → (j ≤ 7) → (∀ q, q < j → T' q = 0) → Z 0 0 [(h0, .inr (3, [.int ft, .ref e1, .int (nI n), .ref e3, .ref e4, .ref e5, .int (nI dg), .ref e7, .ref e8, .long ov, .long un, .ref e11, .ref e12, .ref e13, .ref e14, .int (nI 0)])), (e1, .inl (k 0, 30, .inl f)), (e14, .inl (k 2, 7, .inr (.inl T')))] [(0, .ref h0), (1, .int (nI j))] 7 [] := by
    intro N7
    induction N7 with
    | zero => intro j T' hms; exact absurd hms (Nat.not_lt_zero _)
    | succ N7 ih7 =>
      intro j T' hms7 hj hT
      refine z_iload_n g dX3_readPolynomial_7 1 rfl ?_
      refine z_bi g 7 dX3_readPolynomial_8 (by decide) ?_
      refine z_n_ge g (a := j) (b := 7) (tgt := 26) (by omega) (by omega) dX3_readPolynomial_10 (by decide) (fun b10 => ?_) (fun b10 => ?_)
      · refine z_eqL (w' := [_, _, _]) g (fun _ => 0) 2 rfl (fun q h => hT q (by omega)) rfl ?_
        refine z_aload_n g dX3_readPolynomial_26 0 rfl ?_
        refine z_bi g 45 dX3_readPolynomial_27 (by decide) ?_
        refine z_callVi (w' := [_, _, _]) (wr := [_]) g (k_X3_pass l G k _ _ _ _ _ _ _ _ _ _ _ _ _ _ _ _ _ _ _ (by assumption) (by repeat (first | assumption | apply takesN_le | apply rnN_le | apply rpN_le | apply sgN_le | apply rrN_le | (apply dgN_le (by decide)) | apply rtS_le | apply rfS_le | apply tnN_le | apply mtS_le | apply mfS_le | apply mstep_le | (exact isd_lt (by assumption)) | (exact is13_lt (by assumption)))) (by assumption) (by decide)) 1 gX3_readPolynomial_X3_pass rfl rfl rfl nd_X3_pass ⟨by decide, by decide⟩ 0 rfl rfl [0, 1] [2] [1, 2, 0] rfl rfl rfl rfl (by decide) rfl rfl rfl rfl (Nat.le_of_ble_eq_true rfl) dX3_readPolynomial_29 ⟨by decide, by decide⟩ ?_
        refine z_istore_n (lv' := [(1, .int _), (0, .ref _)]) g dX3_readPolynomial_32 (by decide) rfl ?_
        have cut_44 : ∀ (i0 : Nat), (i0 = sgN f n 0) → Z 0 0 [(h0, .inr (3, [.int ft, .ref e1, .int (nI n), .ref e3, .ref e4, .ref e5, .int (nI dg), .ref e7, .ref e8, .long ov, .long un, .ref e11, .ref e12, .ref e13, .ref e14, .int (nI i0)])), (e1, .inl (k 0, 30, .inl f)), (e14, .inl (k 2, 7, .inr (.inl (fun _ => 0))))] [(0, .ref h0), (1, .int (bI (takesP f n 0 45)))] 44 [] := by
          intro i0 h0i
          have hi0 : i0 ≤ n := by rw [h0i]; exact sgN_le (Nat.zero_le n)
          subst h0i
          refine z_aload_n g dX3_readPolynomial_44 0 rfl ?_
          have cut_56 : ∀ (sg : Int64), (sg = sgL (takesP f n 0 45)) → Z 0 0 [(h0, .inr (3, [.int ft, .ref e1, .int (nI n), .ref e3, .ref e4, .ref e5, .int (nI dg), .ref e7, .ref e8, .long ov, .long un, .ref e11, .ref e12, .ref e13, .ref e14, .int (nI (sgN f n 0))])), (e1, .inl (k 0, 30, .inl f)), (e14, .inl (k 2, 7, .inr (.inl (fun _ => 0))))] [(0, .ref h0)] 56 [.long sg, .ref h0] := by
            intro sg hsg
            subst hsg
            refine z_callVi (w' := [_, _, _]) (wr := []) g (k_X3_readTerm l G k _ _ _ _ _ _ _ _ _ _ _ _ _ _ _ _ _ _ _ _ (by assumption) (by repeat (first | assumption | apply takesN_le | apply rnN_le | apply rpN_le | apply sgN_le | apply rrN_le | (apply dgN_le (by decide)) | apply rtS_le | apply rfS_le | apply tnN_le | apply mtS_le | apply mfS_le | apply mstep_le | (exact isd_lt (by assumption)) | (exact is13_lt (by assumption)))) (by assumption)) 1 gX3_readPolynomial_X3_readTerm rfl rfl rfl nd_X3_readTerm ⟨by decide, by decide⟩ 0 rfl rfl [0, 1, 2] [] [0, 1, 2] rfl rfl rfl rfl (by decide) rfl rfl rfl rfl (Nat.le_of_ble_eq_true rfl) dX3_readPolynomial_56 ⟨by decide, by decide⟩ ?_
            refine z_istore_n (lv' := [(2, .int _), (0, .ref _)]) g dX3_readPolynomial_59 (by decide) rfl ?_
            have cut_60 : ∀ (N60 : Nat) (c : Nat) (gd : Bool) (i' : Nat) (T' : Nat → Int64), c < N60 → (i' ≤ n) → (gd = true → n - i' ≤ c) → (mlS f n c gd i' T' = (mpS f n)) → Z 0 0 [(h0, .inr (3, [.int ft, .ref e1, .int (nI n), .ref e3, .ref e4, .ref e5, .int (nI dg), .ref e7, .ref e8, .long ov, .long un, .ref e11, .ref e12, .ref e13, .ref e14, .int (nI i')])), (e1, .inl (k 0, 30, .inl f)), (e14, .inl (k 2, 7, .inr (.inl T')))] [(0, .ref h0), (2, .int (bI gd))] 60 [] := by
              intro N60
              induction N60 with
              | zero => intro c gd i' T' hms; exact absurd hms (Nat.not_lt_zero _)
              | succ N60 ih60 =>
                intro c gd i' T' hms60 hi1 hc hI
                refine z_iload_n g dX3_readPolynomial_60 1 rfl ?_
                refine z_bf_eq g (tgt := 145) dX3_readPolynomial_61 (by decide) (fun b61 => ?_) (fun b61 => ?_)
                · refine z_iload_n g dX3_readPolynomial_145 1 rfl ?_
                  exact hret _ _ _ _ dX3_readPolynomial_146 ((by rw [← hI, mlS_stop (by first | exact Or.inl b61 | exact Or.inr b72)])) ((by rw [← hI, mlS_stop (by first | exact Or.inl b61 | exact Or.inr b72)]))
                · refine z_aload_n g dX3_readPolynomial_64 0 rfl ?_
                  refine z_get g hX3 0 rfl rfl 15 (by decide) (mi 1 rfl) rfl dX3_readPolynomial_65 ?_
                  refine z_aload_n g dX3_readPolynomial_68 0 rfl ?_
                  refine z_get g hX3 0 rfl rfl 2 (by decide) (mi 4 rfl) rfl dX3_readPolynomial_69 ?_
                  refine z_n_ge g (a := i') (b := n) (tgt := 145) (by omega) (by omega) dX3_readPolynomial_72 (by decide) (fun b72 => ?_) (fun b72 => ?_)
                  · refine z_iload_n g dX3_readPolynomial_145 1 rfl ?_
                    exact hret _ _ _ _ dX3_readPolynomial_146 ((by rw [← hI, mlS_stop (by first | exact Or.inl b61 | exact Or.inr b72)])) ((by rw [← hI, mlS_stop (by first | exact Or.inl b61 | exact Or.inr b72)]))
                  · obtain ⟨c, rfl⟩ : ∃ q, c = q + 1 := ⟨c - 1, by have := hc b61; omega⟩
                    refine z_aload_n g dX3_readPolynomial_75 0 rfl ?_
                    refine z_callVi (w' := [_, _, _]) (wr := [_]) g (k_X3_look l G k _ _ _ _ _ _ _ _ _ _ _ _ _ _ _ _ _ _ (by assumption) (by repeat (first | assumption | apply takesN_le | apply rnN_le | apply rpN_le | apply sgN_le | apply rrN_le | (apply dgN_le (by decide)) | apply rtS_le | apply rfS_le | apply tnN_le | apply mtS_le | apply mfS_le | apply mstep_le | (exact isd_lt (by assumption)) | (exact is13_lt (by assumption)))) (by assumption)) 0 gX3_readPolynomial_X3_look rfl rfl rfl nd_X3_look ⟨by decide, by decide⟩ 0 rfl rfl [0, 1] [2] [1, 2, 0] rfl rfl rfl rfl (by decide) rfl rfl rfl rfl (Nat.le_of_ble_eq_true rfl) dX3_readPolynomial_76 ⟨by decide, by decide⟩ ?_
                    refine z_bi g 45 dX3_readPolynomial_79 (by decide) ?_
                    refine z_ic_ne g (tgt := 88) dX3_readPolynomial_81 (by decide) (fun b81 => ?_) (fun b81 => ?_)
                    · refine z_ic0 g dX3_readPolynomial_88 ?_
                      refine z_istore_n (lv' := [(1, .int _), (0, .ref _), (2, .int _)]) g dX3_readPolynomial_89 (by decide) rfl ?_
                      refine z_aload_n g dX3_readPolynomial_90 1 rfl ?_
                      refine z_bi g 43 dX3_readPolynomial_91 (by decide) ?_
                      refine z_callVi (w' := [_, _, _]) (wr := [_]) g (k_X3_pass l G k _ _ _ _ _ _ _ _ _ _ _ _ _ _ _ _ _ _ _ (by assumption) (by repeat (first | assumption | apply takesN_le | apply rnN_le | apply rpN_le | apply sgN_le | apply rrN_le | (apply dgN_le (by decide)) | apply rtS_le | apply rfS_le | apply tnN_le | apply mtS_le | apply mfS_le | apply mstep_le | (exact isd_lt (by assumption)) | (exact is13_lt (by assumption)))) (by assumption) (by decide)) 1 gX3_readPolynomial_X3_pass rfl rfl rfl nd_X3_pass ⟨by decide, by decide⟩ 0 rfl rfl [0, 1] [2] [1, 2, 0] rfl rfl rfl rfl (by decide) rfl rfl rfl rfl (Nat.le_of_ble_eq_true rfl) dX3_readPolynomial_93 ⟨by decide, by decide⟩ ?_
                      refine z_bf_ne g (tgt := 108) dX3_readPolynomial_96 (by decide) (fun b96 => ?_) (fun b96 => ?_)
                      · refine z_ic1 g dX3_readPolynomial_108 ?_
                        refine z_goto g 113 dX3_readPolynomial_109 (by decide) ?_
                        refine z_istore_n (lv' := [(2, .int _), (1, .int _), (0, .ref _)]) g dX3_readPolynomial_113 (by decide) rfl ?_
                        refine z_iload_n g dX3_readPolynomial_114 0 rfl ?_
                        refine z_if_eq g (tgt := 140) dX3_readPolynomial_115 (by decide) (fun b115 => ?_) (fun b115 => ?_)
                        · first | exact absurd b115 (by decide) | exact absurd (by decide) b115
                        · refine z_aload_n g dX3_readPolynomial_118 2 rfl ?_
                          refine z_iload_n g dX3_readPolynomial_119 1 rfl ?_
                          refine z_if_eq g (tgt := 129) dX3_readPolynomial_120 (by decide) (fun b120 => ?_) (fun b120 => ?_)
                          · refine z_lc1 g dX3_readPolynomial_129 ?_
                            refine z_callVi (w' := [_, _, _]) (wr := []) g (k_X3_readTerm l G k _ _ _ _ _ _ _ _ _ _ _ _ _ _ _ _ _ _ _ _ (by assumption) (by repeat (first | assumption | apply takesN_le | apply rnN_le | apply rpN_le | apply sgN_le | apply rrN_le | (apply dgN_le (by decide)) | apply rtS_le | apply rfS_le | apply tnN_le | apply mtS_le | apply mfS_le | apply mstep_le | (exact isd_lt (by assumption)) | (exact is13_lt (by assumption)))) (by assumption)) 1 gX3_readPolynomial_X3_readTerm rfl rfl rfl nd_X3_readTerm ⟨by decide, by decide⟩ 0 rfl rfl [0, 1, 2] [] [0, 1, 2] rfl rfl rfl rfl (by decide) rfl rfl rfl rfl (Nat.le_of_ble_eq_true rfl) dX3_readPolynomial_130 ⟨by decide, by decide⟩ ?_
                            refine z_bf_eq g (tgt := 140) dX3_readPolynomial_133 (by decide) (fun b133 => ?_) (fun b133 => ?_)
                            · refine z_ic0 g dX3_readPolynomial_140 ?_
                              refine z_istore_n (lv' := [(2, .int _), (1, .int _), (0, .ref _)]) g dX3_readPolynomial_141 (by decide) rfl ?_
                              refine z_goto g 60 dX3_readPolynomial_142 (by decide) ?_
                              refine z_locs (lv' := [(0, .ref _), (2, .int _)]) g [2, 0] rfl ?_
                              have hms : mstep f n i' T' = mtS f n 1 (takesN f n i' 43) T' := by unfold mstep; rw [if_pos b96, (takes_nlook b81)]; rfl
                              exact ih60 c false _ _ (by omega) (by repeat (first | assumption | apply takesN_le | apply rnN_le | apply rpN_le | apply sgN_le | apply rrN_le | (apply dgN_le (by decide)) | apply rtS_le | apply rfS_le | apply tnN_le | apply mtS_le | apply mfS_le | apply mstep_le | (exact isd_lt (by assumption)) | (exact is13_lt (by assumption)))) (fun h => nomatch h) (by rw [← hI]; show _ = if gd then _ else _; rw [if_pos b61, if_neg b72, hms, b133])
                            · refine z_ic1 g dX3_readPolynomial_136 ?_
                              refine z_goto g 141 dX3_readPolynomial_137 (by decide) ?_
                              refine z_istore_n (lv' := [(2, .int _), (1, .int _), (0, .ref _)]) g dX3_readPolynomial_141 (by decide) rfl ?_
                              refine z_goto g 60 dX3_readPolynomial_142 (by decide) ?_
                              refine z_locs (lv' := [(0, .ref _), (2, .int _)]) g [2, 0] rfl ?_
                              have hms : mstep f n i' T' = mtS f n 1 (takesN f n i' 43) T' := by unfold mstep; rw [if_pos b96, (takes_nlook b81)]; rfl
                              exact ih60 c true _ _ (by omega) (by repeat (first | assumption | apply takesN_le | apply rnN_le | apply rpN_le | apply sgN_le | apply rrN_le | (apply dgN_le (by decide)) | apply rtS_le | apply rfS_le | apply tnN_le | apply mtS_le | apply mfS_le | apply mstep_le | (exact isd_lt (by assumption)) | (exact is13_lt (by assumption)))) (fun _ => by have h1 := mstep_gt (T := T') (show (mstep f n i' T').1 = true by rw [hms]; exact b133); rw [hms] at h1; have := hc b61; omega) (by rw [← hI]; show _ = if gd then _ else _; rw [if_pos b61, if_neg b72, hms, b133])
                          · first | exact absurd b120 (by decide) | exact absurd (by decide) b120
                      · refine z_aload_n g dX3_readPolynomial_99 1 rfl ?_
                        refine z_bi g 45 dX3_readPolynomial_100 (by decide) ?_
                        refine z_callVi (w' := [_, _, _]) (wr := [_]) g (k_X3_pass l G k _ _ _ _ _ _ _ _ _ _ _ _ _ _ _ _ _ _ _ (by assumption) (by repeat (first | assumption | apply takesN_le | apply rnN_le | apply rpN_le | apply sgN_le | apply rrN_le | (apply dgN_le (by decide)) | apply rtS_le | apply rfS_le | apply tnN_le | apply mtS_le | apply mfS_le | apply mstep_le | (exact isd_lt (by assumption)) | (exact is13_lt (by assumption)))) (by assumption) (by decide)) 1 gX3_readPolynomial_X3_pass rfl rfl rfl nd_X3_pass ⟨by decide, by decide⟩ 0 rfl rfl [0, 1] [2] [1, 2, 0] rfl rfl rfl rfl (by decide) rfl rfl rfl rfl (Nat.le_of_ble_eq_true rfl) dX3_readPolynomial_102 ⟨by decide, by decide⟩ ?_
                        refine z_bf_eq g (tgt := 112) dX3_readPolynomial_105 (by decide) (fun b105 => ?_) (fun b105 => ?_)
                        · refine z_ic0 g dX3_readPolynomial_112 ?_
                          refine z_istore_n (lv' := [(2, .int _), (1, .int _), (0, .ref _)]) g dX3_readPolynomial_113 (by decide) rfl ?_
                          refine z_iload_n g dX3_readPolynomial_114 0 rfl ?_
                          refine z_if_eq g (tgt := 140) dX3_readPolynomial_115 (by decide) (fun b115 => ?_) (fun b115 => ?_)
                          · refine z_ic0 g dX3_readPolynomial_140 ?_
                            refine z_istore_n (lv' := [(2, .int _), (1, .int _), (0, .ref _)]) g dX3_readPolynomial_141 (by decide) rfl ?_
                            refine z_goto g 60 dX3_readPolynomial_142 (by decide) ?_
                            refine z_locs (lv' := [(0, .ref _), (2, .int _)]) g [2, 0] rfl ?_
                            have hms : mstep f n i' T' = (false, takesN f n (takesN f n i' 43) 45, T') := by unfold mstep; rw [if_neg (Bool.eq_false_iff.mp b96), if_neg (Bool.eq_false_iff.mp b105)]
                            exact ih60 c false _ _ (by omega) (by repeat (first | assumption | apply takesN_le | apply rnN_le | apply rpN_le | apply sgN_le | apply rrN_le | (apply dgN_le (by decide)) | apply rtS_le | apply rfS_le | apply tnN_le | apply mtS_le | apply mfS_le | apply mstep_le | (exact isd_lt (by assumption)) | (exact is13_lt (by assumption)))) (fun h => nomatch h) (by rw [← hI]; show _ = if gd then _ else _; rw [if_pos b61, if_neg b72, hms])
                          · first | exact absurd b115 (by decide) | exact absurd (by decide) b115
                        · refine z_ic1 g dX3_readPolynomial_108 ?_
                          refine z_goto g 113 dX3_readPolynomial_109 (by decide) ?_
                          refine z_istore_n (lv' := [(2, .int _), (1, .int _), (0, .ref _)]) g dX3_readPolynomial_113 (by decide) rfl ?_
                          refine z_iload_n g dX3_readPolynomial_114 0 rfl ?_
                          refine z_if_eq g (tgt := 140) dX3_readPolynomial_115 (by decide) (fun b115 => ?_) (fun b115 => ?_)
                          · first | exact absurd b115 (by decide) | exact absurd (by decide) b115
                          · refine z_aload_n g dX3_readPolynomial_118 2 rfl ?_
                            refine z_iload_n g dX3_readPolynomial_119 1 rfl ?_
                            refine z_if_eq g (tgt := 129) dX3_readPolynomial_120 (by decide) (fun b120 => ?_) (fun b120 => ?_)
                            · refine z_lc1 g dX3_readPolynomial_129 ?_
                              refine z_callVi (w' := [_, _, _]) (wr := []) g (k_X3_readTerm l G k _ _ _ _ _ _ _ _ _ _ _ _ _ _ _ _ _ _ _ _ (by assumption) (by repeat (first | assumption | apply takesN_le | apply rnN_le | apply rpN_le | apply sgN_le | apply rrN_le | (apply dgN_le (by decide)) | apply rtS_le | apply rfS_le | apply tnN_le | apply mtS_le | apply mfS_le | apply mstep_le | (exact isd_lt (by assumption)) | (exact is13_lt (by assumption)))) (by assumption)) 1 gX3_readPolynomial_X3_readTerm rfl rfl rfl nd_X3_readTerm ⟨by decide, by decide⟩ 0 rfl rfl [0, 1, 2] [] [0, 1, 2] rfl rfl rfl rfl (by decide) rfl rfl rfl rfl (Nat.le_of_ble_eq_true rfl) dX3_readPolynomial_130 ⟨by decide, by decide⟩ ?_
                              refine z_bf_eq g (tgt := 140) dX3_readPolynomial_133 (by decide) (fun b133 => ?_) (fun b133 => ?_)
                              · refine z_ic0 g dX3_readPolynomial_140 ?_
                                refine z_istore_n (lv' := [(2, .int _), (1, .int _), (0, .ref _)]) g dX3_readPolynomial_141 (by decide) rfl ?_
                                refine z_goto g 60 dX3_readPolynomial_142 (by decide) ?_
                                refine z_locs (lv' := [(0, .ref _), (2, .int _)]) g [2, 0] rfl ?_
                                have hms : mstep f n i' T' = mtS f n 1 (takesN f n (takesN f n i' 43) 45) T' := by unfold mstep; rw [if_neg (Bool.eq_false_iff.mp b96), if_pos b105, (takes_nlook b81)]; rfl
                                exact ih60 c false _ _ (by omega) (by repeat (first | assumption | apply takesN_le | apply rnN_le | apply rpN_le | apply sgN_le | apply rrN_le | (apply dgN_le (by decide)) | apply rtS_le | apply rfS_le | apply tnN_le | apply mtS_le | apply mfS_le | apply mstep_le | (exact isd_lt (by assumption)) | (exact is13_lt (by assumption)))) (fun h => nomatch h) (by rw [← hI]; show _ = if gd then _ else _; rw [if_pos b61, if_neg b72, hms, b133])
                              · refine z_ic1 g dX3_readPolynomial_136 ?_
                                refine z_goto g 141 dX3_readPolynomial_137 (by decide) ?_
                                refine z_istore_n (lv' := [(2, .int _), (1, .int _), (0, .ref _)]) g dX3_readPolynomial_141 (by decide) rfl ?_
                                refine z_goto g 60 dX3_readPolynomial_142 (by decide) ?_
                                refine z_locs (lv' := [(0, .ref _), (2, .int _)]) g [2, 0] rfl ?_
                                have hms : mstep f n i' T' = mtS f n 1 (takesN f n (takesN f n i' 43) 45) T' := by unfold mstep; rw [if_neg (Bool.eq_false_iff.mp b96), if_pos b105, (takes_nlook b81)]; rfl
                                exact ih60 c true _ _ (by omega) (by repeat (first | assumption | apply takesN_le | apply rnN_le | apply rpN_le | apply sgN_le | apply rrN_le | (apply dgN_le (by decide)) | apply rtS_le | apply rfS_le | apply tnN_le | apply mtS_le | apply mfS_le | apply mstep_le | (exact isd_lt (by assumption)) | (exact is13_lt (by assumption)))) (fun _ => by have h1 := mstep_gt (T := T') (show (mstep f n i' T').1 = true by rw [hms]; exact b133); rw [hms] at h1; have := hc b61; omega) (by rw [← hI]; show _ = if gd then _ else _; rw [if_pos b61, if_neg b72, hms, b133])
                            · first | exact absurd b120 (by decide) | exact absurd (by decide) b120
                    · refine z_ic1 g dX3_readPolynomial_84 ?_
                      refine z_goto g 89 dX3_readPolynomial_85 (by decide) ?_
                      refine z_istore_n (lv' := [(1, .int _), (0, .ref _), (2, .int _)]) g dX3_readPolynomial_89 (by decide) rfl ?_
                      refine z_aload_n g dX3_readPolynomial_90 1 rfl ?_
                      refine z_bi g 43 dX3_readPolynomial_91 (by decide) ?_
                      refine z_callVi (w' := [_, _, _]) (wr := [_]) g (k_X3_pass l G k _ _ _ _ _ _ _ _ _ _ _ _ _ _ _ _ _ _ _ (by assumption) (by repeat (first | assumption | apply takesN_le | apply rnN_le | apply rpN_le | apply sgN_le | apply rrN_le | (apply dgN_le (by decide)) | apply rtS_le | apply rfS_le | apply tnN_le | apply mtS_le | apply mfS_le | apply mstep_le | (exact isd_lt (by assumption)) | (exact is13_lt (by assumption)))) (by assumption) (by decide)) 1 gX3_readPolynomial_X3_pass rfl rfl rfl nd_X3_pass ⟨by decide, by decide⟩ 0 rfl rfl [0, 1] [2] [1, 2, 0] rfl rfl rfl rfl (by decide) rfl rfl rfl rfl (Nat.le_of_ble_eq_true rfl) dX3_readPolynomial_93 ⟨by decide, by decide⟩ ?_
                      refine z_bf_ne g (tgt := 108) dX3_readPolynomial_96 (by decide) (fun b96 => ?_) (fun b96 => ?_)
                      · refine z_ic1 g dX3_readPolynomial_108 ?_
                        refine z_goto g 113 dX3_readPolynomial_109 (by decide) ?_
                        refine z_istore_n (lv' := [(2, .int _), (1, .int _), (0, .ref _)]) g dX3_readPolynomial_113 (by decide) rfl ?_
                        refine z_iload_n g dX3_readPolynomial_114 0 rfl ?_
                        refine z_if_eq g (tgt := 140) dX3_readPolynomial_115 (by decide) (fun b115 => ?_) (fun b115 => ?_)
                        · first | exact absurd b115 (by decide) | exact absurd (by decide) b115
                        · refine z_aload_n g dX3_readPolynomial_118 2 rfl ?_
                          refine z_iload_n g dX3_readPolynomial_119 1 rfl ?_
                          refine z_if_eq g (tgt := 129) dX3_readPolynomial_120 (by decide) (fun b120 => ?_) (fun b120 => ?_)
                          · first | exact absurd b120 (by decide) | exact absurd (by decide) b120
                          · refine z_ldc2 g (v := (-1)) dX3_readPolynomial_123 (mi 3 rfl) ?_
                            refine z_goto g 130 dX3_readPolynomial_126 (by decide) ?_
                            refine z_callVi (w' := [_, _, _]) (wr := []) g (k_X3_readTerm l G k _ _ _ _ _ _ _ _ _ _ _ _ _ _ _ _ _ _ _ _ (by assumption) (by repeat (first | assumption | apply takesN_le | apply rnN_le | apply rpN_le | apply sgN_le | apply rrN_le | (apply dgN_le (by decide)) | apply rtS_le | apply rfS_le | apply tnN_le | apply mtS_le | apply mfS_le | apply mstep_le | (exact isd_lt (by assumption)) | (exact is13_lt (by assumption)))) (by assumption)) 1 gX3_readPolynomial_X3_readTerm rfl rfl rfl nd_X3_readTerm ⟨by decide, by decide⟩ 0 rfl rfl [0, 1, 2] [] [0, 1, 2] rfl rfl rfl rfl (by decide) rfl rfl rfl rfl (Nat.le_of_ble_eq_true rfl) dX3_readPolynomial_130 ⟨by decide, by decide⟩ ?_
                            refine z_bf_eq g (tgt := 140) dX3_readPolynomial_133 (by decide) (fun b133 => ?_) (fun b133 => ?_)
                            · refine z_ic0 g dX3_readPolynomial_140 ?_
                              refine z_istore_n (lv' := [(2, .int _), (1, .int _), (0, .ref _)]) g dX3_readPolynomial_141 (by decide) rfl ?_
                              refine z_goto g 60 dX3_readPolynomial_142 (by decide) ?_
                              refine z_locs (lv' := [(0, .ref _), (2, .int _)]) g [2, 0] rfl ?_
                              have hms : mstep f n i' T' = mtS f n (-1) (takesN f n i' 43) T' := by unfold mstep; rw [if_pos b96, (takes_look (by decide) b81)]; rfl
                              exact ih60 c false _ _ (by omega) (by repeat (first | assumption | apply takesN_le | apply rnN_le | apply rpN_le | apply sgN_le | apply rrN_le | (apply dgN_le (by decide)) | apply rtS_le | apply rfS_le | apply tnN_le | apply mtS_le | apply mfS_le | apply mstep_le | (exact isd_lt (by assumption)) | (exact is13_lt (by assumption)))) (fun h => nomatch h) (by rw [← hI]; show _ = if gd then _ else _; rw [if_pos b61, if_neg b72, hms, b133])
                            · refine z_ic1 g dX3_readPolynomial_136 ?_
                              refine z_goto g 141 dX3_readPolynomial_137 (by decide) ?_
                              refine z_istore_n (lv' := [(2, .int _), (1, .int _), (0, .ref _)]) g dX3_readPolynomial_141 (by decide) rfl ?_
                              refine z_goto g 60 dX3_readPolynomial_142 (by decide) ?_
                              refine z_locs (lv' := [(0, .ref _), (2, .int _)]) g [2, 0] rfl ?_
                              have hms : mstep f n i' T' = mtS f n (-1) (takesN f n i' 43) T' := by unfold mstep; rw [if_pos b96, (takes_look (by decide) b81)]; rfl
                              exact ih60 c true _ _ (by omega) (by repeat (first | assumption | apply takesN_le | apply rnN_le | apply rpN_le | apply sgN_le | apply rrN_le | (apply dgN_le (by decide)) | apply rtS_le | apply rfS_le | apply tnN_le | apply mtS_le | apply mfS_le | apply mstep_le | (exact isd_lt (by assumption)) | (exact is13_lt (by assumption)))) (fun _ => by have h1 := mstep_gt (T := T') (show (mstep f n i' T').1 = true by rw [hms]; exact b133); rw [hms] at h1; have := hc b61; omega) (by rw [← hI]; show _ = if gd then _ else _; rw [if_pos b61, if_neg b72, hms, b133])
                      · refine z_aload_n g dX3_readPolynomial_99 1 rfl ?_
                        refine z_bi g 45 dX3_readPolynomial_100 (by decide) ?_
                        refine z_callVi (w' := [_, _, _]) (wr := [_]) g (k_X3_pass l G k _ _ _ _ _ _ _ _ _ _ _ _ _ _ _ _ _ _ _ (by assumption) (by repeat (first | assumption | apply takesN_le | apply rnN_le | apply rpN_le | apply sgN_le | apply rrN_le | (apply dgN_le (by decide)) | apply rtS_le | apply rfS_le | apply tnN_le | apply mtS_le | apply mfS_le | apply mstep_le | (exact isd_lt (by assumption)) | (exact is13_lt (by assumption)))) (by assumption) (by decide)) 1 gX3_readPolynomial_X3_pass rfl rfl rfl nd_X3_pass ⟨by decide, by decide⟩ 0 rfl rfl [0, 1] [2] [1, 2, 0] rfl rfl rfl rfl (by decide) rfl rfl rfl rfl (Nat.le_of_ble_eq_true rfl) dX3_readPolynomial_102 ⟨by decide, by decide⟩ ?_
                        refine z_bf_eq g (tgt := 112) dX3_readPolynomial_105 (by decide) (fun b105 => ?_) (fun b105 => ?_)
                        · refine z_ic0 g dX3_readPolynomial_112 ?_
                          refine z_istore_n (lv' := [(2, .int _), (1, .int _), (0, .ref _)]) g dX3_readPolynomial_113 (by decide) rfl ?_
                          refine z_iload_n g dX3_readPolynomial_114 0 rfl ?_
                          refine z_if_eq g (tgt := 140) dX3_readPolynomial_115 (by decide) (fun b115 => ?_) (fun b115 => ?_)
                          · refine z_ic0 g dX3_readPolynomial_140 ?_
                            refine z_istore_n (lv' := [(2, .int _), (1, .int _), (0, .ref _)]) g dX3_readPolynomial_141 (by decide) rfl ?_
                            refine z_goto g 60 dX3_readPolynomial_142 (by decide) ?_
                            refine z_locs (lv' := [(0, .ref _), (2, .int _)]) g [2, 0] rfl ?_
                            have hms : mstep f n i' T' = (false, takesN f n (takesN f n i' 43) 45, T') := by unfold mstep; rw [if_neg (Bool.eq_false_iff.mp b96), if_neg (Bool.eq_false_iff.mp b105)]
                            exact ih60 c false _ _ (by omega) (by repeat (first | assumption | apply takesN_le | apply rnN_le | apply rpN_le | apply sgN_le | apply rrN_le | (apply dgN_le (by decide)) | apply rtS_le | apply rfS_le | apply tnN_le | apply mtS_le | apply mfS_le | apply mstep_le | (exact isd_lt (by assumption)) | (exact is13_lt (by assumption)))) (fun h => nomatch h) (by rw [← hI]; show _ = if gd then _ else _; rw [if_pos b61, if_neg b72, hms])
                          · first | exact absurd b115 (by decide) | exact absurd (by decide) b115
                        · refine z_ic1 g dX3_readPolynomial_108 ?_
                          refine z_goto g 113 dX3_readPolynomial_109 (by decide) ?_
                          refine z_istore_n (lv' := [(2, .int _), (1, .int _), (0, .ref _)]) g dX3_readPolynomial_113 (by decide) rfl ?_
                          refine z_iload_n g dX3_readPolynomial_114 0 rfl ?_
                          refine z_if_eq g (tgt := 140) dX3_readPolynomial_115 (by decide) (fun b115 => ?_) (fun b115 => ?_)
                          · first | exact absurd b115 (by decide) | exact absurd (by decide) b115
                          · refine z_aload_n g dX3_readPolynomial_118 2 rfl ?_
                            refine z_iload_n g dX3_readPolynomial_119 1 rfl ?_
                            refine z_if_eq g (tgt := 129) dX3_readPolynomial_120 (by decide) (fun b120 => ?_) (fun b120 => ?_)
                            · first | exact absurd b120 (by decide) | exact absurd (by decide) b120
                            · refine z_ldc2 g (v := (-1)) dX3_readPolynomial_123 (mi 3 rfl) ?_
                              refine z_goto g 130 dX3_readPolynomial_126 (by decide) ?_
                              refine z_callVi (w' := [_, _, _]) (wr := []) g (k_X3_readTerm l G k _ _ _ _ _ _ _ _ _ _ _ _ _ _ _ _ _ _ _ _ (by assumption) (by repeat (first | assumption | apply takesN_le | apply rnN_le | apply rpN_le | apply sgN_le | apply rrN_le | (apply dgN_le (by decide)) | apply rtS_le | apply rfS_le | apply tnN_le | apply mtS_le | apply mfS_le | apply mstep_le | (exact isd_lt (by assumption)) | (exact is13_lt (by assumption)))) (by assumption)) 1 gX3_readPolynomial_X3_readTerm rfl rfl rfl nd_X3_readTerm ⟨by decide, by decide⟩ 0 rfl rfl [0, 1, 2] [] [0, 1, 2] rfl rfl rfl rfl (by decide) rfl rfl rfl rfl (Nat.le_of_ble_eq_true rfl) dX3_readPolynomial_130 ⟨by decide, by decide⟩ ?_
                              refine z_bf_eq g (tgt := 140) dX3_readPolynomial_133 (by decide) (fun b133 => ?_) (fun b133 => ?_)
                              · refine z_ic0 g dX3_readPolynomial_140 ?_
                                refine z_istore_n (lv' := [(2, .int _), (1, .int _), (0, .ref _)]) g dX3_readPolynomial_141 (by decide) rfl ?_
                                refine z_goto g 60 dX3_readPolynomial_142 (by decide) ?_
                                refine z_locs (lv' := [(0, .ref _), (2, .int _)]) g [2, 0] rfl ?_
                                have hms : mstep f n i' T' = mtS f n (-1) (takesN f n (takesN f n i' 43) 45) T' := by unfold mstep; rw [if_neg (Bool.eq_false_iff.mp b96), if_pos b105, (takes_look (by decide) b81)]; rfl
                                exact ih60 c false _ _ (by omega) (by repeat (first | assumption | apply takesN_le | apply rnN_le | apply rpN_le | apply sgN_le | apply rrN_le | (apply dgN_le (by decide)) | apply rtS_le | apply rfS_le | apply tnN_le | apply mtS_le | apply mfS_le | apply mstep_le | (exact isd_lt (by assumption)) | (exact is13_lt (by assumption)))) (fun h => nomatch h) (by rw [← hI]; show _ = if gd then _ else _; rw [if_pos b61, if_neg b72, hms, b133])
                              · refine z_ic1 g dX3_readPolynomial_136 ?_
                                refine z_goto g 141 dX3_readPolynomial_137 (by decide) ?_
                                refine z_istore_n (lv' := [(2, .int _), (1, .int _), (0, .ref _)]) g dX3_readPolynomial_141 (by decide) rfl ?_
                                refine z_goto g 60 dX3_readPolynomial_142 (by decide) ?_
                                refine z_locs (lv' := [(0, .ref _), (2, .int _)]) g [2, 0] rfl ?_
                                have hms : mstep f n i' T' = mtS f n (-1) (takesN f n (takesN f n i' 43) 45) T' := by unfold mstep; rw [if_neg (Bool.eq_false_iff.mp b96), if_pos b105, (takes_look (by decide) b81)]; rfl
                                exact ih60 c true _ _ (by omega) (by repeat (first | assumption | apply takesN_le | apply rnN_le | apply rpN_le | apply sgN_le | apply rrN_le | (apply dgN_le (by decide)) | apply rtS_le | apply rfS_le | apply tnN_le | apply mtS_le | apply mfS_le | apply mstep_le | (exact isd_lt (by assumption)) | (exact is13_lt (by assumption)))) (fun _ => by have h1 := mstep_gt (T := T') (show (mstep f n i' T').1 = true by rw [hms]; exact b133); rw [hms] at h1; have := hc b61; omega) (by rw [← hI]; show _ = if gd then _ else _; rw [if_pos b61, if_neg b72, hms, b133])
            refine z_locs (lv' := [(0, .ref _), (2, .int _)]) g [1, 0] rfl ?_
            exact cut_60 _ 30 _ _ _ (Nat.lt_succ_self _) (by repeat (first | assumption | apply takesN_le | apply rnN_le | apply rpN_le | apply sgN_le | apply rrN_le | (apply dgN_le (by decide)) | apply rtS_le | apply rfS_le | apply tnN_le | apply mtS_le | apply mfS_le | apply mstep_le | (exact isd_lt (by assumption)) | (exact is13_lt (by assumption)))) (fun _ => by omega) rfl
          refine z_iload_n g dX3_readPolynomial_45 1 rfl ?_
          refine z_bf_eq g (tgt := 55) dX3_readPolynomial_46 (by decide) (fun b46 => ?_) (fun b46 => ?_)
          · refine z_lc1 g dX3_readPolynomial_55 ?_
            refine z_locs (lv' := [(0, .ref _)]) g [0] rfl ?_
            exact cut_56 _ (by rw [b46]; rfl)
          · refine z_ldc2 g (v := (-1)) dX3_readPolynomial_49 (mi 3 rfl) ?_
            refine z_goto g 56 dX3_readPolynomial_52 (by decide) ?_
            refine z_locs (lv' := [(0, .ref _)]) g [0] rfl ?_
            exact cut_56 _ (by rw [b46]; rfl)
        refine z_iload_n g dX3_readPolynomial_33 0 rfl ?_
        refine z_bf_ne g (tgt := 44) dX3_readPolynomial_34 (by decide) (fun b34 => ?_) (fun b34 => ?_)
        · refine z_locs (lv' := [(0, .ref _), (1, .int _)]) g [1, 0] rfl ?_
          exact cut_44 _ (by unfold sgN; simp only [reduceIte, if_pos b10, if_pos b34])
        · refine z_aload_n g dX3_readPolynomial_37 1 rfl ?_
          refine z_bi g 43 dX3_readPolynomial_38 (by decide) ?_
          refine z_callVi (w' := [_, _, _]) (wr := [_]) g (k_X3_pass l G k _ _ _ _ _ _ _ _ _ _ _ _ _ _ _ _ _ _ _ (by assumption) (by repeat (first | assumption | apply takesN_le | apply rnN_le | apply rpN_le | apply sgN_le | apply rrN_le | (apply dgN_le (by decide)) | apply rtS_le | apply rfS_le | apply tnN_le | apply mtS_le | apply mfS_le | apply mstep_le | (exact isd_lt (by assumption)) | (exact is13_lt (by assumption)))) (by assumption) (by decide)) 1 gX3_readPolynomial_X3_pass rfl rfl rfl nd_X3_pass ⟨by decide, by decide⟩ 0 rfl rfl [0, 1] [2] [1, 2, 0] rfl rfl rfl rfl (by decide) rfl rfl rfl rfl (Nat.le_of_ble_eq_true rfl) dX3_readPolynomial_40 ⟨by decide, by decide⟩ ?_
          refine z_pop g dX3_readPolynomial_43 rfl ?_
          refine z_locs (lv' := [(0, .ref _), (1, .int _)]) g [1, 0] rfl ?_
          exact cut_44 _ (by unfold sgN; simp only [reduceIte, if_pos b10, if_neg (Bool.eq_false_iff.mp b34)])
      · refine z_aload_n g dX3_readPolynomial_13 0 rfl ?_
        refine z_get g hX3 0 rfl rfl 14 (by decide) (mi 2 rfl) rfl dX3_readPolynomial_14 ?_
        refine z_iload_n g dX3_readPolynomial_17 1 rfl ?_
        refine z_lc0 g dX3_readPolynomial_18 ?_
        refine z_last (w' := [_, _, _]) g 2 rfl j rfl (by omega) (by decide) dX3_readPolynomial_19 rfl ?_
        refine z_inc (lv' := [(1, .int _), (0, .ref _)]) g dX3_readPolynomial_20 1 rfl (by decide) rfl ?_
        refine z_goto g 7 dX3_readPolynomial_23 (by decide) ?_
        refine z_locs (lv' := [(0, .ref _), (1, .int _)]) g [1, 0] rfl ?_
        exact ih7 _ _ (by omega) (by omega) (fun q h => by unfold vp_updL; split; rfl; exact hT q (by omega))
  refine z_locs (lv' := [(0, .ref _), (1, .int _)]) g [1, 0] rfl ?_
  exact cut_7 _ 0 T (Nat.lt_succ_self _) (by decide) (fun q h => absurd h (Nat.not_lt_zero _))
theorem nd_X3_readPolynomial : yX3_readPolynomial.cls = RX3 ∧ yX3_readPolynomial.cls ≠ "java/lang/invoke/MethodHandle" ∧ yX3_readPolynomial.cls ≠ "java/lang/invoke/VarHandle" ∧ (parseMethodDescriptor yX3_readPolynomial.desc).map (fun d => d.parameters.length) = some 0 := by decide +kernel
set_option maxHeartbeats 4000000 in
set_option maxRecDepth 100000 in
/-- numerator() -/
theorem k_X3_numerator (l : Launch) (G : va_G) (k : Nat → ClassId) (h0 e1 e3 e4 e5 e7 e8 e11 e12 e13 e14 : Nat) (ft : Int32) (n dg i : Nat) (ov un : Int64) (f : Nat → Int32) (F T : Nat → Int64) (hn : n ≤ 30) (hf : chOK f n) : ∀ sz, Met l yX3_numerator wsX3_numerator ({ frames := 4, cells := 0, slots := 0, locals := 91 }) (va_Pc [.ref h0] (KP G k [(h0, .inr (3, [.int ft, .ref e1, .int (nI n), .ref e3, .ref e4, .ref e5, .int (nI dg), .ref e7, .ref e8, .long ov, .long un, .ref e11, .ref e12, .ref e13, .ref e14, .int (nI i)])), (e1, .inl (k 0, 30, .inl f)), (e3, .inl (k 2, 7, .inr (.inl F))), (e14, .inl (k 2, 7, .inr (.inl T)))] sz)) (va_Qi (fun r (_ : Unit) => r = if (mpS f n).1 then nI (dgU (mpS f n).2.2 7) else 0) (KQ G [(h0, .inr (3, [.int (ftB (mpS f n).1), .ref e1, .int (nI 0), .ref e3, .ref e4, .ref e5, .int (nI dg), .ref e7, .ref e8, .long ov, .long un, .ref e11, .ref e12, .ref e13, .ref e14, .int (nI ((mpS f n).2.1))])), (e1, .inl (k 0, 30, .inl f)), (e3, .inl (k 2, 7, .inr (.inl (if (mpS f n).1 then (mpS f n).2.2 else F)))), (e14, .inl (k 2, 7, .inr (.inl ((mpS f n).2.2))))] (va_A [(h0, .inr (3, [.int ft, .ref e1, .int (nI n), .ref e3, .ref e4, .ref e5, .int (nI dg), .ref e7, .ref e8, .long ov, .long un, .ref e11, .ref e12, .ref e13, .ref e14, .int (nI i)])), (e1, .inl (k 0, 30, .inl f)), (e3, .inl (k 2, 7, .inr (.inl F))), (e14, .inl (k 2, 7, .inr (.inl T)))] sz)) (va_A [(h0, .inr (3, [.int ft, .ref e1, .int (nI n), .ref e3, .ref e4, .ref e5, .int (nI dg), .ref e7, .ref e8, .long ov, .long un, .ref e11, .ref e12, .ref e13, .ref e14, .int (nI i)])), (e1, .inl (k 0, 30, .inl f)), (e3, .inl (k 2, 7, .inr (.inl F))), (e14, .inl (k 2, 7, .inr (.inl T)))] sz)) 0 0 (va_A [(h0, .inr (3, [.int ft, .ref e1, .int (nI n), .ref e3, .ref e4, .ref e5, .int (nI dg), .ref e7, .ref e8, .long ov, .long un, .ref e11, .ref e12, .ref e13, .ref e14, .int (nI i)])), (e1, .inl (k 0, 30, .inl f)), (e3, .inl (k 2, 7, .inr (.inl F))), (e14, .inl (k 2, 7, .inr (.inl T)))] sz) := by
  refine met_i 0 0 (lv0 := [(0, .ref h0)]) (own := RX3) (by decide) rfl rfl (Nat.le_of_ble_eq_true rfl) rfl (fun Z g hret => ?_)
  have hX3 : ∀ w ∈ u_ws RX3 TX3 16, w ∈ wsX3_numerator := fun w h => List.mem_cons_of_mem _ (List.mem_append_right _ (h))
  refine z_aload_n g dX3_numerator_0 0 rfl ?_
  refine z_ic0 g dX3_numerator_1 ?_
  refine z_put (w' := [(_, .inr (3, [_, _, _, _, _, _, _, _, _, _, _, _, _, _, _, _])), _, _, _]) g hX3 tyX3 tyX3_ok nmX3 0 rfl rfl 0 (by decide) (mi 1 rfl) rfl rfl rfl (Nat.le_of_ble_eq_true rfl) dX3_numerator_2 rfl ?_
  refine z_aload_n g dX3_numerator_5 0 rfl ?_
  refine z_callVi (w' := [_, _, _, _]) (wr := [_]) g (k_X3_readPolynomial l G k _ _ _ _ _ _ _ _ _ _ _ _ _ _ _ _ _ _ _ (by assumption) (by assumption)) 0 gX3_numerator_X3_readPolynomial rfl rfl rfl nd_X3_readPolynomial ⟨by decide, by decide⟩ 0 rfl rfl [0, 1, 3] [2] [1, 2, 0, 3] rfl rfl rfl rfl (by decide) rfl rfl rfl rfl (Nat.le_of_ble_eq_true rfl) dX3_numerator_6 ⟨by decide, by decide⟩ ?_
  refine z_istore_n (lv' := [(1, .int _), (0, .ref _)]) g dX3_numerator_9 (by decide) rfl ?_
  refine z_aload_n g dX3_numerator_10 1 rfl ?_
  refine z_ic0 g dX3_numerator_11 ?_
  refine z_put (w' := [(_, .inr (3, [_, _, _, _, _, _, _, _, _, _, _, _, _, _, _, _])), _, _, _]) g hX3 tyX3 tyX3_ok nmX3 0 rfl rfl 2 (by decide) (mi 2 rfl) rfl rfl rfl (Nat.le_of_ble_eq_true rfl) dX3_numerator_12 rfl ?_
  refine z_iload_n g dX3_numerator_15 0 rfl ?_
  refine z_bf_ne g (tgt := 25) dX3_numerator_16 (by decide) (fun b16 => ?_) (fun b16 => ?_)
  · refine z_ic0 g dX3_numerator_25 ?_
    refine z_istore_n (lv' := [(2, .int _), (1, .int _), (0, .ref _)]) g dX3_numerator_26 (by decide) rfl ?_
    refine z_ic0 g dX3_numerator_27 ?_
    refine z_istore_n (lv' := [(3, .int _), (2, .int _), (1, .int _), (0, .ref _)]) g dX3_numerator_28 (by decide) rfl ?_
    have cut_29 : ∀ (N29 : Nat) (j d : Nat) (F' : Nat → Int64), 7 - j < N29 → (j ≤ 7) → (d = dgU (mpS f n).2.2 j) → (∀ q, q < j → F' q = (mpS f n).2.2 q) → Z 0 0 [(h0, .inr (3, [.int 0, .ref e1, .int 0, .ref e3, .ref e4, .ref e5, .int (nI dg), .ref e7, .ref e8, .long ov, .long un, .ref e11, .ref e12, .ref e13, .ref e14, .int (nI ((mpS f n).2.1))])), (e1, .inl (k 0, 30, .inl f)), (e3, .inl (k 2, 7, .inr (.inl F'))), (e14, .inl (k 2, 7, .inr (.inl ((mpS f n).2.2))))] [(0, .ref h0), (2, .int (nI d)), (3, .int (nI j))] 29 [] := by
      intro N29
      induction N29 with
      | zero => intro j d F' hms; exact absurd hms (Nat.not_lt_zero _)
      | succ N29 ih29 =>
        intro j d F' hms29 hj hd hF
        refine z_iload_n g dX3_numerator_29 2 rfl ?_
        refine z_bi g 7 dX3_numerator_30 (by decide) ?_
        refine z_n_ge g (a := j) (b := 7) (tgt := 70) (by omega) (by omega) dX3_numerator_32 (by decide) (fun b32 => ?_) (fun b32 => ?_)
        · refine z_iload_n g dX3_numerator_70 1 rfl ?_
          refine z_eqL (w' := [_, _, _, _]) g (mpS f n).2.2 2 rfl (fun q h => hF q (by omega)) rfl ?_
          exact hret _ _ _ _ dX3_numerator_71 ((by first | (rw [b16]; rfl) | (rw [b16, hd, show j = 7 by omega]; rfl))) ((by rw [b16]; rfl))
        · refine z_aload_n g dX3_numerator_35 0 rfl ?_
          refine z_get g hX3 0 rfl rfl 3 (by decide) (mi 3 rfl) rfl dX3_numerator_36 ?_
          refine z_iload_n g dX3_numerator_39 2 rfl ?_
          refine z_aload_n g dX3_numerator_40 0 rfl ?_
          refine z_get g hX3 0 rfl rfl 14 (by decide) (mi 4 rfl) rfl dX3_numerator_41 ?_
          refine z_iload_n g dX3_numerator_44 2 rfl ?_
          refine z_lald g 3 rfl j rfl (by omega) (by decide) dX3_numerator_45 ?_
          refine z_last (w' := [_, _, _, _]) g 2 rfl j rfl (by omega) (by decide) dX3_numerator_46 rfl ?_
          refine z_aload_n g dX3_numerator_47 0 rfl ?_
          refine z_get g hX3 0 rfl rfl 3 (by decide) (mi 3 rfl) rfl dX3_numerator_48 ?_
          refine z_iload_n g dX3_numerator_51 2 rfl ?_
          refine z_lald g 2 rfl j rfl (by omega) (by decide) dX3_numerator_52 ?_
          refine z_tl (y := (mpS f n).2.2 j) (by unfold vp_updL; simp) ?_
          refine z_lc0 g dX3_numerator_53 ?_
          refine z_lc_eq g (tgt := 62) dX3_numerator_54 dX3_numerator_55 (by decide) (fun b54 => ?_) (fun b54 => ?_)
          · refine z_iload_n g dX3_numerator_62 1 rfl ?_
            refine z_istore_n (lv' := [(2, .int _), (0, .ref _), (3, .int _)]) g dX3_numerator_63 (by decide) rfl ?_
            refine z_inc (lv' := [(3, .int _), (2, .int _), (0, .ref _)]) g dX3_numerator_64 2 rfl (by decide) rfl ?_
            refine z_goto g 29 dX3_numerator_67 (by decide) ?_
            refine z_locs (lv' := [(0, .ref _), (2, .int _), (3, .int _)]) g [2, 1, 0] rfl ?_
            exact ih29 _ _ _ (by omega) (by omega) (by show _ = if (mpS f n).2.2 j = 0 then dgU (mpS f n).2.2 j else j; first | rw [if_neg b54] | rw [if_pos b54, hd]) (fun q h => by unfold vp_updL; split; (next e => rw [e]); (next e => exact hF q (by omega)))
          · refine z_iload_n g dX3_numerator_58 2 rfl ?_
            refine z_goto g 63 dX3_numerator_59 (by decide) ?_
            refine z_istore_n (lv' := [(2, .int _), (0, .ref _), (3, .int _)]) g dX3_numerator_63 (by decide) rfl ?_
            refine z_inc (lv' := [(3, .int _), (2, .int _), (0, .ref _)]) g dX3_numerator_64 2 rfl (by decide) rfl ?_
            refine z_goto g 29 dX3_numerator_67 (by decide) ?_
            refine z_locs (lv' := [(0, .ref _), (2, .int _), (3, .int _)]) g [2, 1, 0] rfl ?_
            exact ih29 _ _ _ (by omega) (by omega) (by show _ = if (mpS f n).2.2 j = 0 then dgU (mpS f n).2.2 j else j; first | rw [if_neg b54] | rw [if_pos b54, hd]) (fun q h => by unfold vp_updL; split; (next e => rw [e]); (next e => exact hF q (by omega)))
    refine z_locs (lv' := [(0, .ref _), (2, .int _), (3, .int _)]) g [3, 1, 0] rfl ?_
    exact cut_29 _ 0 0 F (Nat.lt_succ_self _) (by decide) rfl (fun q h => absurd h (Nat.not_lt_zero _))
  · refine z_aload_n g dX3_numerator_19 1 rfl ?_
    refine z_ic1 g dX3_numerator_20 ?_
    refine z_callVi (w' := [_, _, _, _]) (wr := [_, _, _]) g (k_X3_fails l G k _ _ _ _ _ _ _ _ _ _ _ _ _ _ _ _ _ _) 1 gX3_numerator_X3_fails rfl rfl rfl nd_X3_fails ⟨by decide, by decide⟩ 0 rfl rfl [0] [1, 2, 3] [3, 0, 1, 2] rfl rfl rfl rfl (by decide) rfl rfl rfl rfl (Nat.le_of_ble_eq_true rfl) dX3_numerator_21 ⟨by decide, by decide⟩ ?_
    exact hret _ _ _ _ dX3_numerator_24 ((by first | (rw [b16]; rfl) | (rw [b16, hd, show j = 7 by omega]; rfl))) ((by rw [b16]; rfl))
theorem nd_X3_numerator : yX3_numerator.cls = RX3 ∧ yX3_numerator.cls ≠ "java/lang/invoke/MethodHandle" ∧ yX3_numerator.cls ≠ "java/lang/invoke/VarHandle" ∧ (parseMethodDescriptor yX3_numerator.desc).map (fun d => d.parameters.length) = some 0 := by decide +kernel
set_option maxHeartbeats 4000000 in
set_option maxRecDepth 100000 in
/-- readFactor() -/
theorem k_X3_readFactor (l : Launch) (G : va_G) (k : Nat → ClassId) (h0 e1 e3 e4 e5 e7 e8 e11 e12 e13 e14 : Nat) (ft : Int32) (n dg i : Nat) (ov un : Int64) (f : Nat → Int32) (T : Nat → Int32) (hn : n ≤ 30) (hi : i ≤ n) (hf : chOK f n) : ∀ sz, Met l yX3_readFactor wsX3_readFactor ({ frames := 2, cells := 0, slots := 0, locals := 42 }) (va_Pc [.ref h0] (KP G k [(h0, .inr (3, [.int ft, .ref e1, .int (nI n), .ref e3, .ref e4, .ref e5, .int (nI dg), .ref e7, .ref e8, .long ov, .long un, .ref e11, .ref e12, .ref e13, .ref e14, .int (nI i)])), (e1, .inl (k 0, 30, .inl f)), (e8, .inl (k 1, 7, .inl T))] sz)) (va_Qi (fun r (_ : Unit) => r = bI (mfS f n i T).1) (KQ G [(h0, .inr (3, [.int ft, .ref e1, .int (nI n), .ref e3, .ref e4, .ref e5, .int (nI dg), .ref e7, .ref e8, .long ov, .long un, .ref e11, .ref e12, .ref e13, .ref e14, .int (nI ((mfS f n i T).2.1))])), (e1, .inl (k 0, 30, .inl f)), (e8, .inl (k 1, 7, .inl ((mfS f n i T).2.2)))] (va_A [(h0, .inr (3, [.int ft, .ref e1, .int (nI n), .ref e3, .ref e4, .ref e5, .int (nI dg), .ref e7, .ref e8, .long ov, .long un, .ref e11, .ref e12, .ref e13, .ref e14, .int (nI i)])), (e1, .inl (k 0, 30, .inl f)), (e8, .inl (k 1, 7, .inl T))] sz)) (va_A [(h0, .inr (3, [.int ft, .ref e1, .int (nI n), .ref e3, .ref e4, .ref e5, .int (nI dg), .ref e7, .ref e8, .long ov, .long un, .ref e11, .ref e12, .ref e13, .ref e14, .int (nI i)])), (e1, .inl (k 0, 30, .inl f)), (e8, .inl (k 1, 7, .inl T))] sz)) 0 0 (va_A [(h0, .inr (3, [.int ft, .ref e1, .int (nI n), .ref e3, .ref e4, .ref e5, .int (nI dg), .ref e7, .ref e8, .long ov, .long un, .ref e11, .ref e12, .ref e13, .ref e14, .int (nI i)])), (e1, .inl (k 0, 30, .inl f)), (e8, .inl (k 1, 7, .inl T))] sz) := by
  refine met_z 0 0 (lv0 := [(0, .ref h0)]) (own := RX3) (by decide) rfl rfl (Nat.le_of_ble_eq_true rfl) rfl bI_n (fun Z g hret => ?_)
  have hX3 : ∀ w ∈ u_ws RX3 TX3 16, w ∈ wsX3_readFactor := fun w h => List.mem_cons_of_mem _ (List.mem_append_right _ (h))
  refine z_aload_n g dX3_readFactor_0 0 rfl ?_
  refine z_bi g 40 dX3_readFactor_1 (by decide) ?_
  refine z_callVi (w' := [_, _, _]) (wr := [_]) g (k_X3_pass l G k _ _ _ _ _ _ _ _ _ _ _ _ _ _ _ _ _ _ _ (by assumption) (by repeat (first | assumption | apply takesN_le | apply rnN_le | apply rpN_le | apply sgN_le | apply rrN_le | (apply dgN_le (by decide)) | apply rtS_le | apply rfS_le | apply tnN_le | apply mtS_le | apply mfS_le | apply mstep_le | (exact isd_lt (by assumption)) | (exact is13_lt (by assumption)))) (by assumption) (by decide)) 1 gX3_readFactor_X3_pass rfl rfl rfl nd_X3_pass ⟨by decide, by decide⟩ 0 rfl rfl [0, 1] [2] [1, 2, 0] rfl rfl rfl rfl (by decide) rfl rfl rfl rfl (Nat.le_of_ble_eq_true rfl) dX3_readFactor_3 ⟨by decide, by decide⟩ ?_
  refine z_bf_eq g (tgt := 18) dX3_readFactor_6 (by decide) (fun b6 => ?_) (fun b6 => ?_)
  · refine z_ic0 g dX3_readFactor_18 ?_
    exact hret _ _ _ _ dX3_readFactor_19 ((by simp only [mfS, if_neg (Bool.eq_false_iff.mp b6), reduceIte, Bool.false_eq_true] <;> rfl)) ((by simp only [mfS, if_neg (Bool.eq_false_iff.mp b6), reduceIte, Bool.false_eq_true]))
  · refine z_aload_n g dX3_readFactor_9 0 rfl ?_
    refine z_bi g 120 dX3_readFactor_10 (by decide) ?_
    refine z_callVi (w' := [_, _, _]) (wr := [_]) g (k_X3_pass l G k _ _ _ _ _ _ _ _ _ _ _ _ _ _ _ _ _ _ _ (by assumption) (by repeat (first | assumption | apply takesN_le | apply rnN_le | apply rpN_le | apply sgN_le | apply rrN_le | (apply dgN_le (by decide)) | apply rtS_le | apply rfS_le | apply tnN_le | apply mtS_le | apply mfS_le | apply mstep_le | (exact isd_lt (by assumption)) | (exact is13_lt (by assumption)))) (by assumption) (by decide)) 1 gX3_readFactor_X3_pass rfl rfl rfl nd_X3_pass ⟨by decide, by decide⟩ 0 rfl rfl [0, 1] [2] [1, 2, 0] rfl rfl rfl rfl (by decide) rfl rfl rfl rfl (Nat.le_of_ble_eq_true rfl) dX3_readFactor_12 ⟨by decide, by decide⟩ ?_
    refine z_bf_ne g (tgt := 20) dX3_readFactor_15 (by decide) (fun b15 => ?_) (fun b15 => ?_)
    · have cut_91 : ∀ (r : Int32) (i2 : Nat), (r + 3 = nI (r + 3).toNatClampNeg ∧ (r + 3).toNatClampNeg < 7) → (i2 ≤ n) → (mfC f n r i2 T = (mfS f n i T)) → Z 0 0 [(h0, .inr (3, [.int ft, .ref e1, .int (nI n), .ref e3, .ref e4, .ref e5, .int (nI dg), .ref e7, .ref e8, .long ov, .long un, .ref e11, .ref e12, .ref e13, .ref e14, .int (nI i2)])), (e1, .inl (k 0, 30, .inl f)), (e8, .inl (k 1, 7, .inl T))] [(0, .ref h0), (1, .int r)] 91 [] := by
        intro r i2 hr hi2 hI
        refine z_aload_n g dX3_readFactor_91 0 rfl ?_
        refine z_bi g 41 dX3_readFactor_92 (by decide) ?_
        refine z_callVi (w' := [_, _, _]) (wr := [_]) g (k_X3_pass l G k _ _ _ _ _ _ _ _ _ _ _ _ _ _ _ _ _ _ _ (by assumption) (by repeat (first | assumption | apply takesN_le | apply rnN_le | apply rpN_le | apply sgN_le | apply rrN_le | (apply dgN_le (by decide)) | apply rtS_le | apply rfS_le | apply tnN_le | apply mtS_le | apply mfS_le | apply mstep_le | (exact isd_lt (by assumption)) | (exact is13_lt (by assumption)))) (by assumption) (by decide)) 1 gX3_readFactor_X3_pass rfl rfl rfl nd_X3_pass ⟨by decide, by decide⟩ 0 rfl rfl [0, 1] [2] [1, 2, 0] rfl rfl rfl rfl (by decide) rfl rfl rfl rfl (Nat.le_of_ble_eq_true rfl) dX3_readFactor_94 ⟨by decide, by decide⟩ ?_
        refine z_bf_ne g (tgt := 102) dX3_readFactor_97 (by decide) (fun b97 => ?_) (fun b97 => ?_)
        · refine z_ic1 g dX3_readFactor_102 ?_
          refine z_istore_n (lv' := [(3, .int _), (0, .ref _), (1, .int _)]) g dX3_readFactor_103 (by decide) rfl ?_
          refine z_aload_n g dX3_readFactor_104 1 rfl ?_
          refine z_bi g 94 dX3_readFactor_105 (by decide) ?_
          refine z_callVi (w' := [_, _, _]) (wr := [_]) g (k_X3_pass l G k _ _ _ _ _ _ _ _ _ _ _ _ _ _ _ _ _ _ _ (by assumption) (by repeat (first | assumption | apply takesN_le | apply rnN_le | apply rpN_le | apply sgN_le | apply rrN_le | (apply dgN_le (by decide)) | apply rtS_le | apply rfS_le | apply tnN_le | apply mtS_le | apply mfS_le | apply mstep_le | (exact isd_lt (by assumption)) | (exact is13_lt (by assumption)))) (by assumption) (by decide)) 1 gX3_readFactor_X3_pass rfl rfl rfl nd_X3_pass ⟨by decide, by decide⟩ 0 rfl rfl [0, 1] [2] [1, 2, 0] rfl rfl rfl rfl (by decide) rfl rfl rfl rfl (Nat.le_of_ble_eq_true rfl) dX3_readFactor_107 ⟨by decide, by decide⟩ ?_
          refine z_bf_eq g (tgt := 138) dX3_readFactor_110 (by decide) (fun b110 => ?_) (fun b110 => ?_)
          · refine z_aload_n g dX3_readFactor_138 1 rfl ?_
            refine z_get g hX3 0 rfl rfl 8 (by decide) (mi 1 rfl) rfl dX3_readFactor_139 ?_
            refine z_iload_n g dX3_readFactor_142 2 rfl ?_
            refine z_ic3 g dX3_readFactor_143 ?_
            refine z_iadd g dX3_readFactor_144 ?_
            refine z_aload_n g dX3_readFactor_145 1 rfl ?_
            refine z_get g hX3 0 rfl rfl 8 (by decide) (mi 1 rfl) rfl dX3_readFactor_146 ?_
            refine z_iload_n g dX3_readFactor_149 2 rfl ?_
            refine z_ic3 g dX3_readFactor_150 ?_
            refine z_iadd g dX3_readFactor_151 ?_
            refine z_iald g 2 rfl (r + 3).toNatClampNeg hr.1 hr.2 (by decide) dX3_readFactor_152 ?_
            refine z_iload_n g dX3_readFactor_153 0 rfl ?_
            refine z_iadd g dX3_readFactor_154 ?_
            refine z_iast (w' := [_, _, _]) g 2 rfl (r + 3).toNatClampNeg hr.1 hr.2 (by decide) dX3_readFactor_155 rfl ?_
            refine z_ic1 g dX3_readFactor_156 ?_
            exact hret _ _ _ _ dX3_readFactor_157 ((by rw [← hI]; unfold mfC is13; simp only [reduceIte, if_pos b6, if_pos b15, if_pos b97, if_neg (Bool.eq_false_iff.mp b110), Bool.false_eq_true]; rfl)) ((by rw [← hI]; unfold mfC is13; simp only [reduceIte, if_pos b6, if_pos b15, if_pos b97, if_neg (Bool.eq_false_iff.mp b110), Bool.false_eq_true]))
          · refine z_aload_n g dX3_readFactor_113 1 rfl ?_
            refine z_callVi (w' := [_, _, _]) (wr := [_]) g (k_X3_look l G k _ _ _ _ _ _ _ _ _ _ _ _ _ _ _ _ _ _ (by assumption) (by repeat (first | assumption | apply takesN_le | apply rnN_le | apply rpN_le | apply sgN_le | apply rrN_le | (apply dgN_le (by decide)) | apply rtS_le | apply rfS_le | apply tnN_le | apply mtS_le | apply mfS_le | apply mstep_le | (exact isd_lt (by assumption)) | (exact is13_lt (by assumption)))) (by assumption)) 0 gX3_readFactor_X3_look rfl rfl rfl nd_X3_look ⟨by decide, by decide⟩ 0 rfl rfl [0, 1] [2] [1, 2, 0] rfl rfl rfl rfl (by decide) rfl rfl rfl rfl (Nat.le_of_ble_eq_true rfl) dX3_readFactor_114 ⟨by decide, by decide⟩ ?_
            refine z_bi g 49 dX3_readFactor_117 (by decide) ?_
            refine z_ic_lt g (tgt := 131) dX3_readFactor_119 (by decide) (fun b119 => ?_) (fun b119 => ?_)
            · refine z_ic0 g dX3_readFactor_131 ?_
              exact hret _ _ _ _ dX3_readFactor_132 ((by rw [← hI]; unfold mfC is13; simp only [reduceIte, if_pos b6, if_pos b15, if_pos b97, if_pos b110, if_pos b119, Bool.false_eq_true]; rfl)) ((by rw [← hI]; unfold mfC is13; simp only [reduceIte, if_pos b6, if_pos b15, if_pos b97, if_pos b110, if_pos b119, Bool.false_eq_true]))
            · refine z_aload_n g dX3_readFactor_122 1 rfl ?_
              refine z_callVi (w' := [_, _, _]) (wr := [_]) g (k_X3_look l G k _ _ _ _ _ _ _ _ _ _ _ _ _ _ _ _ _ _ (by assumption) (by repeat (first | assumption | apply takesN_le | apply rnN_le | apply rpN_le | apply sgN_le | apply rrN_le | (apply dgN_le (by decide)) | apply rtS_le | apply rfS_le | apply tnN_le | apply mtS_le | apply mfS_le | apply mstep_le | (exact isd_lt (by assumption)) | (exact is13_lt (by assumption)))) (by assumption)) 0 gX3_readFactor_X3_look rfl rfl rfl nd_X3_look ⟨by decide, by decide⟩ 0 rfl rfl [0, 1] [2] [1, 2, 0] rfl rfl rfl rfl (by decide) rfl rfl rfl rfl (Nat.le_of_ble_eq_true rfl) dX3_readFactor_123 ⟨by decide, by decide⟩ ?_
              refine z_bi g 51 dX3_readFactor_126 (by decide) ?_
              refine z_ic_le g (tgt := 133) dX3_readFactor_128 (by decide) (fun b128 => ?_) (fun b128 => ?_)
              · refine z_aload_n g dX3_readFactor_133 1 rfl ?_
                refine z_callVi (w' := [_, _, _]) (wr := [_]) g (k_X3_digit l G k _ _ _ _ _ _ _ _ _ _ _ _ _ _ _ _ _ _ hn (is13_lt (by unfold is13; rw [if_neg b119, if_pos b128]))) 0 gX3_readFactor_X3_digit rfl rfl rfl nd_X3_digit ⟨by decide, by decide⟩ 0 rfl rfl [0, 1] [2] [1, 2, 0] rfl rfl rfl rfl (by decide) rfl rfl rfl rfl (Nat.le_of_ble_eq_true rfl) dX3_readFactor_134 ⟨by decide, by decide⟩ ?_
                refine z_istore_n (lv' := [(3, .int _), (0, .ref _), (1, .int _)]) g dX3_readFactor_137 (by decide) rfl ?_
                refine z_aload_n g dX3_readFactor_138 1 rfl ?_
                refine z_get g hX3 0 rfl rfl 8 (by decide) (mi 1 rfl) rfl dX3_readFactor_139 ?_
                refine z_iload_n g dX3_readFactor_142 2 rfl ?_
                refine z_ic3 g dX3_readFactor_143 ?_
                refine z_iadd g dX3_readFactor_144 ?_
                refine z_aload_n g dX3_readFactor_145 1 rfl ?_
                refine z_get g hX3 0 rfl rfl 8 (by decide) (mi 1 rfl) rfl dX3_readFactor_146 ?_
                refine z_iload_n g dX3_readFactor_149 2 rfl ?_
                refine z_ic3 g dX3_readFactor_150 ?_
                refine z_iadd g dX3_readFactor_151 ?_
                refine z_iald g 2 rfl (r + 3).toNatClampNeg hr.1 hr.2 (by decide) dX3_readFactor_152 ?_
                refine z_iload_n g dX3_readFactor_153 0 rfl ?_
                refine z_iadd g dX3_readFactor_154 ?_
                refine z_iast (w' := [_, _, _]) g 2 rfl (r + 3).toNatClampNeg hr.1 hr.2 (by decide) dX3_readFactor_155 rfl ?_
                refine z_ic1 g dX3_readFactor_156 ?_
                exact hret _ _ _ _ dX3_readFactor_157 ((by rw [← hI]; unfold mfC is13; simp only [reduceIte, if_pos b6, if_pos b15, if_pos b97, if_pos b110, if_neg b119, if_pos b128, Bool.false_eq_true]; rfl)) ((by rw [← hI]; unfold mfC is13; simp only [reduceIte, if_pos b6, if_pos b15, if_pos b97, if_pos b110, if_neg b119, if_pos b128, Bool.false_eq_true]))
              · refine z_ic0 g dX3_readFactor_131 ?_
                exact hret _ _ _ _ dX3_readFactor_132 ((by rw [← hI]; unfold mfC is13; simp only [reduceIte, if_pos b6, if_pos b15, if_pos b97, if_pos b110, if_neg b119, if_neg b128, Bool.false_eq_true]; rfl)) ((by rw [← hI]; unfold mfC is13; simp only [reduceIte, if_pos b6, if_pos b15, if_pos b97, if_pos b110, if_neg b119, if_neg b128, Bool.false_eq_true]))
        · refine z_ic0 g dX3_readFactor_100 ?_
          exact hret _ _ _ _ dX3_readFactor_101 ((by rw [← hI]; unfold mfC is13; simp only [reduceIte, if_pos b6, if_pos b15, if_neg (Bool.eq_false_iff.mp b97), Bool.false_eq_true]; rfl)) ((by rw [← hI]; unfold mfC is13; simp only [reduceIte, if_pos b6, if_pos b15, if_neg (Bool.eq_false_iff.mp b97), Bool.false_eq_true]))
      have cut_36 : ∀ (pl : Int32), (pl = bI (takesP f n (takesN f n (takesN f n i 40) 120) 43)) → Z 0 0 [(h0, .inr (3, [.int ft, .ref e1, .int (nI n), .ref e3, .ref e4, .ref e5, .int (nI dg), .ref e7, .ref e8, .long ov, .long un, .ref e11, .ref e12, .ref e13, .ref e14, .int (nI (takesN f n (takesN f n i 40) 120))])), (e1, .inl (k 0, 30, .inl f)), (e8, .inl (k 1, 7, .inl T))] [(0, .ref h0), (1, .int 0)] 36 [.int pl] := by
        intro pl hpl
        subst hpl
        refine z_istore_n (lv' := [(2, .int _), (0, .ref _), (1, .int _)]) g dX3_readFactor_36 (by decide) rfl ?_
        refine z_aload_n g dX3_readFactor_37 1 rfl ?_
        refine z_bi g 43 dX3_readFactor_38 (by decide) ?_
        refine z_callVi (w' := [_, _, _]) (wr := [_]) g (k_X3_pass l G k _ _ _ _ _ _ _ _ _ _ _ _ _ _ _ _ _ _ _ (by assumption) (by repeat (first | assumption | apply takesN_le | apply rnN_le | apply rpN_le | apply sgN_le | apply rrN_le | (apply dgN_le (by decide)) | apply rtS_le | apply rfS_le | apply tnN_le | apply mtS_le | apply mfS_le | apply mstep_le | (exact isd_lt (by assumption)) | (exact is13_lt (by assumption)))) (by assumption) (by decide)) 1 gX3_readFactor_X3_pass rfl rfl rfl nd_X3_pass ⟨by decide, by decide⟩ 0 rfl rfl [0, 1] [2] [1, 2, 0] rfl rfl rfl rfl (by decide) rfl rfl rfl rfl (Nat.le_of_ble_eq_true rfl) dX3_readFactor_40 ⟨by decide, by decide⟩ ?_
        refine z_bf_ne g (tgt := 55) dX3_readFactor_43 (by decide) (fun b43 => ?_) (fun b43 => ?_)
        · refine z_aload_n g dX3_readFactor_55 1 rfl ?_
          refine z_callVi (w' := [_, _, _]) (wr := [_]) g (k_X3_look l G k _ _ _ _ _ _ _ _ _ _ _ _ _ _ _ _ _ _ (by assumption) (by repeat (first | assumption | apply takesN_le | apply rnN_le | apply rpN_le | apply sgN_le | apply rrN_le | (apply dgN_le (by decide)) | apply rtS_le | apply rfS_le | apply tnN_le | apply mtS_le | apply mfS_le | apply mstep_le | (exact isd_lt (by assumption)) | (exact is13_lt (by assumption)))) (by assumption)) 0 gX3_readFactor_X3_look rfl rfl rfl nd_X3_look ⟨by decide, by decide⟩ 0 rfl rfl [0, 1] [2] [1, 2, 0] rfl rfl rfl rfl (by decide) rfl rfl rfl rfl (Nat.le_of_ble_eq_true rfl) dX3_readFactor_56 ⟨by decide, by decide⟩ ?_
          refine z_bi g 49 dX3_readFactor_59 (by decide) ?_
          refine z_ic_lt g (tgt := 73) dX3_readFactor_61 (by decide) (fun b61 => ?_) (fun b61 => ?_)
          · refine z_ic0 g dX3_readFactor_73 ?_
            exact hret _ _ _ _ dX3_readFactor_74 ((by simp only [mfS, mfB, mfR, is13, if_pos b6, if_pos b15, if_pos b43, if_pos b61, reduceIte, Bool.false_eq_true] <;> rfl)) ((by simp only [mfS, mfB, mfR, is13, if_pos b6, if_pos b15, if_pos b43, if_pos b61, reduceIte, Bool.false_eq_true]))
          · refine z_aload_n g dX3_readFactor_64 1 rfl ?_
            refine z_callVi (w' := [_, _, _]) (wr := [_]) g (k_X3_look l G k _ _ _ _ _ _ _ _ _ _ _ _ _ _ _ _ _ _ (by assumption) (by repeat (first | assumption | apply takesN_le | apply rnN_le | apply rpN_le | apply sgN_le | apply rrN_le | (apply dgN_le (by decide)) | apply rtS_le | apply rfS_le | apply tnN_le | apply mtS_le | apply mfS_le | apply mstep_le | (exact isd_lt (by assumption)) | (exact is13_lt (by assumption)))) (by assumption)) 0 gX3_readFactor_X3_look rfl rfl rfl nd_X3_look ⟨by decide, by decide⟩ 0 rfl rfl [0, 1] [2] [1, 2, 0] rfl rfl rfl rfl (by decide) rfl rfl rfl rfl (Nat.le_of_ble_eq_true rfl) dX3_readFactor_65 ⟨by decide, by decide⟩ ?_
            refine z_bi g 51 dX3_readFactor_68 (by decide) ?_
            refine z_ic_le g (tgt := 75) dX3_readFactor_70 (by decide) (fun b70 => ?_) (fun b70 => ?_)
            · refine z_aload_n g dX3_readFactor_75 1 rfl ?_
              refine z_callVi (w' := [_, _, _]) (wr := [_]) g (k_X3_digit l G k _ _ _ _ _ _ _ _ _ _ _ _ _ _ _ _ _ _ hn (is13_lt (by unfold is13; rw [if_neg b61, if_pos b70]))) 0 gX3_readFactor_X3_digit rfl rfl rfl nd_X3_digit ⟨by decide, by decide⟩ 0 rfl rfl [0, 1] [2] [1, 2, 0] rfl rfl rfl rfl (by decide) rfl rfl rfl rfl (Nat.le_of_ble_eq_true rfl) dX3_readFactor_76 ⟨by decide, by decide⟩ ?_
              refine z_istore_n (lv' := [(1, .int _), (2, .int _), (0, .ref _)]) g dX3_readFactor_79 (by decide) rfl ?_
              refine z_iload_n g dX3_readFactor_80 1 rfl ?_
              refine z_bf_eq g (tgt := 89) dX3_readFactor_81 (by decide) (fun b81 => ?_) (fun b81 => ?_)
              · rw [b43] at b81; cases b81
              · refine z_iload_n g dX3_readFactor_84 0 rfl ?_
                refine z_ineg g dX3_readFactor_85 ?_
                refine z_goto g 90 dX3_readFactor_86 (by decide) ?_
                refine z_istore_n (lv' := [(1, .int _), (2, .int _), (0, .ref _)]) g dX3_readFactor_90 (by decide) rfl ?_
                refine z_locs (lv' := [(0, .ref _), (1, .int _)]) g [2, 0] rfl ?_
                exact cut_91 _ _ (by first | exact r3_0 | (obtain ⟨d, h1, h2, e⟩ := is13_v (show is13 f n _ = true by unfold is13; rw [if_neg b61, if_pos b70]); rw [e]; exact r3_p h2) | (obtain ⟨d, h1, h2, e⟩ := is13_v (show is13 f n _ = true by unfold is13; rw [if_neg b61, if_pos b70]); rw [e]; exact r3_m h2)) (by first | exact is13_lt (show is13 f n _ = true by unfold is13; rw [if_neg b61, if_pos b70]) | repeat (first | assumption | apply takesN_le | apply rnN_le | apply rpN_le | apply sgN_le | apply rrN_le | (apply dgN_le (by decide)) | apply rtS_le | apply rfS_le | apply tnN_le | apply mtS_le | apply mfS_le | apply mstep_le | (exact isd_lt (by assumption)) | (exact is13_lt (by assumption)))) (by unfold mfS mfB mfR is13; simp only [reduceIte, if_pos b6, if_pos b15, if_pos b43, if_neg b61, if_pos b70, if_pos b81, Bool.false_eq_true])
            · refine z_ic0 g dX3_readFactor_73 ?_
              exact hret _ _ _ _ dX3_readFactor_74 ((by simp only [mfS, mfB, mfR, is13, if_pos b6, if_pos b15, if_pos b43, if_neg b61, if_neg b70, reduceIte, Bool.false_eq_true] <;> rfl)) ((by simp only [mfS, mfB, mfR, is13, if_pos b6, if_pos b15, if_pos b43, if_neg b61, if_neg b70, reduceIte, Bool.false_eq_true]))
        · refine z_aload_n g dX3_readFactor_46 1 rfl ?_
          refine z_bi g 45 dX3_readFactor_47 (by decide) ?_
          refine z_callVi (w' := [_, _, _]) (wr := [_]) g (k_X3_pass l G k _ _ _ _ _ _ _ _ _ _ _ _ _ _ _ _ _ _ _ (by assumption) (by repeat (first | assumption | apply takesN_le | apply rnN_le | apply rpN_le | apply sgN_le | apply rrN_le | (apply dgN_le (by decide)) | apply rtS_le | apply rfS_le | apply tnN_le | apply mtS_le | apply mfS_le | apply mstep_le | (exact isd_lt (by assumption)) | (exact is13_lt (by assumption)))) (by assumption) (by decide)) 1 gX3_readFactor_X3_pass rfl rfl rfl nd_X3_pass ⟨by decide, by decide⟩ 0 rfl rfl [0, 1] [2] [1, 2, 0] rfl rfl rfl rfl (by decide) rfl rfl rfl rfl (Nat.le_of_ble_eq_true rfl) dX3_readFactor_49 ⟨by decide, by decide⟩ ?_
          refine z_bf_eq g (tgt := 91) dX3_readFactor_52 (by decide) (fun b52 => ?_) (fun b52 => ?_)
          · refine z_locs (lv' := [(0, .ref _), (1, .int _)]) g [1, 2] rfl ?_
            exact cut_91 _ _ (by first | exact r3_0 | (obtain ⟨d, h1, h2, e⟩ := is13_v (show is13 f n _ = true by unfold is13; rw [if_neg b61, if_pos b70]); rw [e]; exact r3_p h2) | (obtain ⟨d, h1, h2, e⟩ := is13_v (show is13 f n _ = true by unfold is13; rw [if_neg b61, if_pos b70]); rw [e]; exact r3_m h2)) (by first | exact is13_lt (show is13 f n _ = true by unfold is13; rw [if_neg b61, if_pos b70]) | repeat (first | assumption | apply takesN_le | apply rnN_le | apply rpN_le | apply sgN_le | apply rrN_le | (apply dgN_le (by decide)) | apply rtS_le | apply rfS_le | apply tnN_le | apply mtS_le | apply mfS_le | apply mstep_le | (exact isd_lt (by assumption)) | (exact is13_lt (by assumption)))) (by unfold mfS mfB mfR is13; simp only [reduceIte, if_pos b6, if_pos b15, if_neg (Bool.eq_false_iff.mp b43), if_neg (Bool.eq_false_iff.mp b52), Bool.false_eq_true])
          · refine z_aload_n g dX3_readFactor_55 1 rfl ?_
            refine z_callVi (w' := [_, _, _]) (wr := [_]) g (k_X3_look l G k _ _ _ _ _ _ _ _ _ _ _ _ _ _ _ _ _ _ (by assumption) (by repeat (first | assumption | apply takesN_le | apply rnN_le | apply rpN_le | apply sgN_le | apply rrN_le | (apply dgN_le (by decide)) | apply rtS_le | apply rfS_le | apply tnN_le | apply mtS_le | apply mfS_le | apply mstep_le | (exact isd_lt (by assumption)) | (exact is13_lt (by assumption)))) (by assumption)) 0 gX3_readFactor_X3_look rfl rfl rfl nd_X3_look ⟨by decide, by decide⟩ 0 rfl rfl [0, 1] [2] [1, 2, 0] rfl rfl rfl rfl (by decide) rfl rfl rfl rfl (Nat.le_of_ble_eq_true rfl) dX3_readFactor_56 ⟨by decide, by decide⟩ ?_
            refine z_bi g 49 dX3_readFactor_59 (by decide) ?_
            refine z_ic_lt g (tgt := 73) dX3_readFactor_61 (by decide) (fun b61 => ?_) (fun b61 => ?_)
            · refine z_ic0 g dX3_readFactor_73 ?_
              exact hret _ _ _ _ dX3_readFactor_74 ((by simp only [mfS, mfB, mfR, is13, if_pos b6, if_pos b15, if_neg (Bool.eq_false_iff.mp b43), if_pos b52, if_pos b61, reduceIte, Bool.false_eq_true] <;> rfl)) ((by simp only [mfS, mfB, mfR, is13, if_pos b6, if_pos b15, if_neg (Bool.eq_false_iff.mp b43), if_pos b52, if_pos b61, reduceIte, Bool.false_eq_true]))
            · refine z_aload_n g dX3_readFactor_64 1 rfl ?_
              refine z_callVi (w' := [_, _, _]) (wr := [_]) g (k_X3_look l G k _ _ _ _ _ _ _ _ _ _ _ _ _ _ _ _ _ _ (by assumption) (by repeat (first | assumption | apply takesN_le | apply rnN_le | apply rpN_le | apply sgN_le | apply rrN_le | (apply dgN_le (by decide)) | apply rtS_le | apply rfS_le | apply tnN_le | apply mtS_le | apply mfS_le | apply mstep_le | (exact isd_lt (by assumption)) | (exact is13_lt (by assumption)))) (by assumption)) 0 gX3_readFactor_X3_look rfl rfl rfl nd_X3_look ⟨by decide, by decide⟩ 0 rfl rfl [0, 1] [2] [1, 2, 0] rfl rfl rfl rfl (by decide) rfl rfl rfl rfl (Nat.le_of_ble_eq_true rfl) dX3_readFactor_65 ⟨by decide, by decide⟩ ?_
              refine z_bi g 51 dX3_readFactor_68 (by decide) ?_
              refine z_ic_le g (tgt := 75) dX3_readFactor_70 (by decide) (fun b70 => ?_) (fun b70 => ?_)
              · refine z_aload_n g dX3_readFactor_75 1 rfl ?_
                refine z_callVi (w' := [_, _, _]) (wr := [_]) g (k_X3_digit l G k _ _ _ _ _ _ _ _ _ _ _ _ _ _ _ _ _ _ hn (is13_lt (by unfold is13; rw [if_neg b61, if_pos b70]))) 0 gX3_readFactor_X3_digit rfl rfl rfl nd_X3_digit ⟨by decide, by decide⟩ 0 rfl rfl [0, 1] [2] [1, 2, 0] rfl rfl rfl rfl (by decide) rfl rfl rfl rfl (Nat.le_of_ble_eq_true rfl) dX3_readFactor_76 ⟨by decide, by decide⟩ ?_
                refine z_istore_n (lv' := [(1, .int _), (2, .int _), (0, .ref _)]) g dX3_readFactor_79 (by decide) rfl ?_
                refine z_iload_n g dX3_readFactor_80 1 rfl ?_
                refine z_bf_eq g (tgt := 89) dX3_readFactor_81 (by decide) (fun b81 => ?_) (fun b81 => ?_)
                · refine z_iload_n g dX3_readFactor_89 0 rfl ?_
                  refine z_istore_n (lv' := [(1, .int _), (2, .int _), (0, .ref _)]) g dX3_readFactor_90 (by decide) rfl ?_
                  refine z_locs (lv' := [(0, .ref _), (1, .int _)]) g [2, 0] rfl ?_
                  exact cut_91 _ _ (by first | exact r3_0 | (obtain ⟨d, h1, h2, e⟩ := is13_v (show is13 f n _ = true by unfold is13; rw [if_neg b61, if_pos b70]); rw [e]; exact r3_p h2) | (obtain ⟨d, h1, h2, e⟩ := is13_v (show is13 f n _ = true by unfold is13; rw [if_neg b61, if_pos b70]); rw [e]; exact r3_m h2)) (by first | exact is13_lt (show is13 f n _ = true by unfold is13; rw [if_neg b61, if_pos b70]) | repeat (first | assumption | apply takesN_le | apply rnN_le | apply rpN_le | apply sgN_le | apply rrN_le | (apply dgN_le (by decide)) | apply rtS_le | apply rfS_le | apply tnN_le | apply mtS_le | apply mfS_le | apply mstep_le | (exact isd_lt (by assumption)) | (exact is13_lt (by assumption)))) (by unfold mfS mfB mfR is13; simp only [reduceIte, if_pos b6, if_pos b15, if_neg (Bool.eq_false_iff.mp b43), if_pos b52, if_neg b61, if_pos b70, if_neg (Bool.eq_false_iff.mp b81), Bool.false_eq_true])
                · rw [b43] at b81; cases b81
              · refine z_ic0 g dX3_readFactor_73 ?_
                exact hret _ _ _ _ dX3_readFactor_74 ((by simp only [mfS, mfB, mfR, is13, if_pos b6, if_pos b15, if_neg (Bool.eq_false_iff.mp b43), if_pos b52, if_neg b61, if_neg b70, reduceIte, Bool.false_eq_true] <;> rfl)) ((by simp only [mfS, mfB, mfR, is13, if_pos b6, if_pos b15, if_neg (Bool.eq_false_iff.mp b43), if_pos b52, if_neg b61, if_neg b70, reduceIte, Bool.false_eq_true]))
      refine z_ic0 g dX3_readFactor_20 ?_
      refine z_istore_n (lv' := [(1, .int _), (0, .ref _)]) g dX3_readFactor_21 (by decide) rfl ?_
      refine z_aload_n g dX3_readFactor_22 1 rfl ?_
      refine z_callVi (w' := [_, _, _]) (wr := [_]) g (k_X3_look l G k _ _ _ _ _ _ _ _ _ _ _ _ _ _ _ _ _ _ (by assumption) (by repeat (first | assumption | apply takesN_le | apply rnN_le | apply rpN_le | apply sgN_le | apply rrN_le | (apply dgN_le (by decide)) | apply rtS_le | apply rfS_le | apply tnN_le | apply mtS_le | apply mfS_le | apply mstep_le | (exact isd_lt (by assumption)) | (exact is13_lt (by assumption)))) (by assumption)) 0 gX3_readFactor_X3_look rfl rfl rfl nd_X3_look ⟨by decide, by decide⟩ 0 rfl rfl [0, 1] [2] [1, 2, 0] rfl rfl rfl rfl (by decide) rfl rfl rfl rfl (Nat.le_of_ble_eq_true rfl) dX3_readFactor_23 ⟨by decide, by decide⟩ ?_
      refine z_bi g 43 dX3_readFactor_26 (by decide) ?_
      refine z_ic_ne g (tgt := 35) dX3_readFactor_28 (by decide) (fun b28 => ?_) (fun b28 => ?_)
      · refine z_ic0 g dX3_readFactor_35 ?_
        refine z_locs (lv' := [(0, .ref _), (1, .int _)]) g [1, 0] rfl ?_
        exact cut_36 _ (by first | (rw [takes_look (by decide) b28]; rfl) | (rw [takes_nlook b28]; rfl))
      · refine z_ic1 g dX3_readFactor_31 ?_
        refine z_goto g 36 dX3_readFactor_32 (by decide) ?_
        refine z_locs (lv' := [(0, .ref _), (1, .int _)]) g [1, 0] rfl ?_
        exact cut_36 _ (by first | (rw [takes_look (by decide) b28]; rfl) | (rw [takes_nlook b28]; rfl))
    · refine z_ic0 g dX3_readFactor_18 ?_
      exact hret _ _ _ _ dX3_readFactor_19 ((by simp only [mfS, if_pos b6, if_neg (Bool.eq_false_iff.mp b15), reduceIte, Bool.false_eq_true] <;> rfl)) ((by simp only [mfS, if_pos b6, if_neg (Bool.eq_false_iff.mp b15), reduceIte, Bool.false_eq_true]))
theorem nd_X3_readFactor : yX3_readFactor.cls = RX3 ∧ yX3_readFactor.cls ≠ "java/lang/invoke/MethodHandle" ∧ yX3_readFactor.cls ≠ "java/lang/invoke/VarHandle" ∧ (parseMethodDescriptor yX3_readFactor.desc).map (fun d => d.parameters.length) = some 0 := by decide +kernel
set_option maxHeartbeats 4000000 in
set_option maxRecDepth 100000 in
/-- times(p, r) -/
theorem k_X3_times (l : Launch) (G : va_G) (k : Nat → ClassId) (h0 : Nat) (f : Nat → Int64) (p0 : Int32) : ∀ sz, Met l yX3_times wsX3_times ({ frames := 0, cells := 0, slots := 0, locals := 0 }) (va_Pc [.ref h0, .int p0] (KP G k [(h0, .inl (k 2, 6, .inr (.inl f)))] sz)) (va_Qv (fun (_ : Unit) => True) (KQ G [(h0, .inl (k 2, 6, .inr (.inl (mulP f p0))))] (va_A [(h0, .inl (k 2, 6, .inr (.inl f)))] sz)) (va_A [(h0, .inl (k 2, 6, .inr (.inl f)))] sz)) 0 0 (va_A [(h0, .inl (k 2, 6, .inr (.inl f)))] sz) := by
  refine met_v 0 0 (lv0 := [(0, .ref h0), (1, .int p0)]) (own := RX3) (by decide) rfl rfl (Nat.le_of_ble_eq_true rfl) rfl (fun Z g hret => ?_)
  refine z_ic5 g dX3_times_0 ?_
  refine z_istore_n (lv' := [(2, .int _), (0, .ref _), (1, .int _)]) g dX3_times_1 (by decide) rfl ?_
  have cut_2 : ∀ (N2 : Nat) (j : Nat) (f' : Nat → Int64), j < N2 → (j ≤ 5) → (∀ i, i < 6 → f' i = if j < i then f (i - 1) - p0.toInt64 * f i else f i) → Z 0 0 [(h0, .inl (k 2, 6, .inr (.inl f')))] [(0, .ref h0), (1, .int p0), (2, .int (nI j))] 2 [] := by
    intro N2
    induction N2 with
    | zero => intro j f' hms; exact absurd hms (Nat.not_lt_zero _)
    | succ N2 ih2 =>
      intro j f' hms2 hj hI
      refine z_iload_n g dX3_times_2 2 rfl ?_
      refine z_if_le g (tgt := 27) dX3_times_3 (by decide) (fun b3 => ?_) (fun b3 => ?_)
      · obtain rfl : j = 0 := by rcases j with _ | j; rfl; exact absurd b3 (nI_nle (by omega) (by omega))
        refine z_aload_n g dX3_times_27 0 rfl ?_
        refine z_ic0 g dX3_times_28 ?_
        refine z_iload_n g dX3_times_29 1 rfl ?_
        refine z_ineg g dX3_times_30 ?_
        refine z_i2l g dX3_times_31 ?_
        refine z_aload_n g dX3_times_32 0 rfl ?_
        refine z_ic0 g dX3_times_33 ?_
        refine z_lald g 0 rfl 0 rfl (by decide) (by decide) dX3_times_34 ?_
        refine z_lmul g dX3_times_35 ?_
        refine z_last (w' := [_]) g 0 rfl 0 rfl (by decide) (by decide) dX3_times_36 rfl ?_
        refine z_eqL (w' := [_]) g (mulP f p0) 0 rfl (fun i h => by unfold vp_updL mulP; split; (next e => subst e; rw [hI 0 (by omega), if_neg (by omega)]); (next e => rw [hI i h, if_pos (by omega)])) rfl ?_
        exact hret _ _ _ dX3_times_37 (rfl)
      · obtain ⟨j, rfl⟩ : ∃ i, j = i + 1 := ⟨j - 1, by rcases j with _ | j; exact absurd (by decide) b3; rfl⟩
        refine z_aload_n g dX3_times_6 0 rfl ?_
        refine z_iload_n g dX3_times_7 2 rfl ?_
        refine z_aload_n g dX3_times_8 0 rfl ?_
        refine z_iload_n g dX3_times_9 2 rfl ?_
        refine z_ic1 g dX3_times_10 ?_
        refine z_isub g dX3_times_11 ?_
        refine z_lald g 0 rfl j (nI_pred j) (by omega) (by decide) dX3_times_12 ?_
        refine z_iload_n g dX3_times_13 1 rfl ?_
        refine z_i2l g dX3_times_14 ?_
        refine z_aload_n g dX3_times_15 0 rfl ?_
        refine z_iload_n g dX3_times_16 2 rfl ?_
        refine z_lald g 0 rfl (j + 1) rfl (by omega) (by decide) dX3_times_17 ?_
        refine z_lmul g dX3_times_18 ?_
        refine z_lsub g dX3_times_19 ?_
        refine z_last (w' := [_]) g 0 rfl (j + 1) rfl (by omega) (by decide) dX3_times_20 rfl ?_
        refine z_dec (lv' := [(2, .int _), (0, .ref _), (1, .int _)]) g dX3_times_21 2 rfl (by decide) rfl ?_
        refine z_goto g 2 dX3_times_24 (by decide) ?_
        refine z_locs (lv' := [(0, .ref _), (1, .int _), (2, .int _)]) g [1, 2, 0] rfl ?_
        exact ih2 _ _ (by omega) (by omega) (fun i h => by unfold vp_updL; split; (next e => subst e; rw [hI j (by omega), hI (j + 1) h, if_neg (by omega), if_neg (by omega), if_pos (by omega)]; rfl); (next e => rw [hI i h]; by_cases e2 : j + 1 < i; (rw [if_pos e2, if_pos (by omega)]); (rw [if_neg e2, if_neg (by omega)])))
  refine z_locs (lv' := [(0, .ref _), (1, .int _), (2, .int _)]) g [1, 2, 0] rfl ?_
  exact cut_2 _ 5 f (Nat.lt_succ_self _) (by decide) (fun i h => by rw [if_neg (by omega)])
theorem nd_X3_times : yX3_times.cls ≠ "java/lang/invoke/MethodHandle" ∧ yX3_times.cls ≠ "java/lang/invoke/VarHandle" ∧ (parseMethodDescriptor yX3_times.desc).map (fun d => d.parameters.length) = some 2 := by decide +kernel
set_option maxHeartbeats 4000000 in
set_option maxRecDepth 100000 in
/-- denominator() -/
theorem k_X3_denominator (l : Launch) (G : va_G) (k : Nat → ClassId) (h0 e1 e3 e4 e5 e7 e8 e11 e12 e13 e14 : Nat) (ft : Int32) (n dg i : Nat) (ov un : Int64) (f : Nat → Int32) (Lo : Nat → Int64) (m : Nat → Nat) (T : Nat → Int32) (hn : n ≤ 30) (hf : chOK f n) : ∀ sz, Met l yX3_denominator wsX3_denominator ({ frames := 3, cells := 0, slots := 0, locals := 65 }) (va_Pc [.ref h0] (KP G k [(h0, .inr (3, [.int ft, .ref e1, .int (nI n), .ref e3, .ref e4, .ref e5, .int (nI dg), .ref e7, .ref e8, .long ov, .long un, .ref e11, .ref e12, .ref e13, .ref e14, .int (nI i)])), (e1, .inl (k 0, 30, .inl f)), (e4, .inl (k 2, 6, .inr (.inl Lo))), (e7, .inl (k 1, 7, .inl (fun j => nI (m j)))), (e8, .inl (k 1, 7, .inl T))] sz)) (va_Qi (fun r (_ : Unit) => r = dnV f n) (KQ G [(h0, .inr (3, [.int (dnF f n), .ref e1, .int (nI 0), .ref e3, .ref e4, .ref e5, .int (nI (if dnF f n = 0 then sumN (mOf (mqS f n).2.2) 7 else dg)), .ref e7, .ref e8, .long ov, .long un, .ref e11, .ref e12, .ref e13, .ref e14, .int (nI ((mqS f n).2.1))])), (e1, .inl (k 0, 30, .inl f)), (e4, .inl (k 2, 6, .inr (.inl (if dnF f n = 0 then belF (mOf (mqS f n).2.2) 7 else Lo)))), (e7, .inl (k 1, 7, .inl (fun j => nI ((if dnF f n = 0 then (mOf (mqS f n).2.2) else m) j)))), (e8, .inl (k 1, 7, .inl ((mqS f n).2.2)))] (va_A [(h0, .inr (3, [.int ft, .ref e1, .int (nI n), .ref e3, .ref e4, .ref e5, .int (nI dg), .ref e7, .ref e8, .long ov, .long un, .ref e11, .ref e12, .ref e13, .ref e14, .int (nI i)])), (e1, .inl (k 0, 30, .inl f)), (e4, .inl (k 2, 6, .inr (.inl Lo))), (e7, .inl (k 1, 7, .inl (fun j => nI (m j)))), (e8, .inl (k 1, 7, .inl T))] sz)) (va_A [(h0, .inr (3, [.int ft, .ref e1, .int (nI n), .ref e3, .ref e4, .ref e5, .int (nI dg), .ref e7, .ref e8, .long ov, .long un, .ref e11, .ref e12, .ref e13, .ref e14, .int (nI i)])), (e1, .inl (k 0, 30, .inl f)), (e4, .inl (k 2, 6, .inr (.inl Lo))), (e7, .inl (k 1, 7, .inl (fun j => nI (m j)))), (e8, .inl (k 1, 7, .inl T))] sz)) 0 0 (va_A [(h0, .inr (3, [.int ft, .ref e1, .int (nI n), .ref e3, .ref e4, .ref e5, .int (nI dg), .ref e7, .ref e8, .long ov, .long un, .ref e11, .ref e12, .ref e13, .ref e14, .int (nI i)])), (e1, .inl (k 0, 30, .inl f)), (e4, .inl (k 2, 6, .inr (.inl Lo))), (e7, .inl (k 1, 7, .inl (fun j => nI (m j)))), (e8, .inl (k 1, 7, .inl T))] sz) := by
  refine met_i 0 0 (lv0 := [(0, .ref h0)]) (own := RX3) (by decide) rfl rfl (Nat.le_of_ble_eq_true rfl) rfl (fun Z g hret => ?_)
  have hX3 : ∀ w ∈ u_ws RX3 TX3 16, w ∈ wsX3_denominator := fun w h => List.mem_cons_of_mem _ (List.mem_append_right _ (h))
  have h0n : 0 ≤ n := Nat.zero_le n
  have hsm := mqS_small f n
  refine z_aload_n g dX3_denominator_0 0 rfl ?_
  refine z_ic0 g dX3_denominator_1 ?_
  refine z_put (w' := [(_, .inr (3, [_, _, _, _, _, _, _, _, _, _, _, _, _, _, _, _])), _, _, _, _]) g hX3 tyX3 tyX3_ok nmX3 0 rfl rfl 0 (by decide) (mi 1 rfl) rfl rfl rfl (Nat.le_of_ble_eq_true rfl) dX3_denominator_2 rfl ?_
  refine z_aload_n g dX3_denominator_5 0 rfl ?_
  refine z_ic0 g dX3_denominator_6 ?_
  refine z_put (w' := [(_, .inr (3, [_, _, _, _, _, _, _, _, _, _, _, _, _, _, _, _])), _, _, _, _]) g hX3 tyX3 tyX3_ok nmX3 0 rfl rfl 15 (by decide) (mi 2 rfl) rfl rfl rfl (Nat.le_of_ble_eq_true rfl) dX3_denominator_7 rfl ?_
  refine z_ic0 g dX3_denominator_10 ?_
  refine z_istore_n (lv' := [(1, .int _), (0, .ref _)]) g dX3_denominator_11 (by decide) rfl ?_
  have cut_12 : ∀ (N12 : Nat) (j : Nat) (T' : Nat → Int32), 7 - j < N12 → (j ≤ 7) → (∀ q, q < j → T' q = 0) → Z 0 0 [(h0, .inr (3, [.int 0, .ref e1, .int (nI n), .ref e3, .ref e4, .ref e5, .int (nI dg), .ref e7, .ref e8, .long ov, .long un, .ref e11, .ref e12, .ref e13, .ref e14, .int (nI 0)])), (e1, .inl (k 0, 30, .inl f)), (e4, .inl (k 2, 6, .inr (.inl Lo))), (e7, .inl (k 1, 7, .inl (fun j => nI (m j)))), (e8, .inl (k 1, 7, .inl T'))] [(0, .ref h0), (1, .int (nI j))] 12 [] := by
    intro N12
    induction N12 with
    | zero => intro j T' hms; exact absurd hms (Nat.not_lt_zero _)
    | succ N12 ih12 =>
      intro j T' hms12 hj hT
      refine z_iload_n g dX3_denominator_12 1 rfl ?_
      refine z_bi g 7 dX3_denominator_13 (by decide) ?_
      refine z_n_ge g (a := j) (b := 7) (tgt := 31) (by omega) (by omega) dX3_denominator_15 (by decide) (fun b15 => ?_) (fun b15 => ?_)
      · refine z_eqI (w' := [_, _, _, _, _]) g (fun _ => 0) 4 rfl (fun q h => hT q (by omega)) rfl ?_
        refine z_aload_n g dX3_denominator_31 0 rfl ?_
        refine z_callVi (w' := [_, _, _, _, _]) (wr := [_, _]) g (k_X3_readFactor l G k _ _ _ _ _ _ _ _ _ _ _ _ _ _ _ _ _ _ _ (by assumption) (by repeat (first | assumption | apply takesN_le | apply rnN_le | apply rpN_le | apply sgN_le | apply rrN_le | (apply dgN_le (by decide)) | apply rtS_le | apply rfS_le | apply tnN_le | apply mtS_le | apply mfS_le | apply mstep_le | (exact isd_lt (by assumption)) | (exact is13_lt (by assumption)))) (by assumption)) 0 gX3_denominator_X3_readFactor rfl rfl rfl nd_X3_readFactor ⟨by decide, by decide⟩ 0 rfl rfl [0, 1, 4] [2, 3] [2, 3, 0, 1, 4] rfl rfl rfl rfl (by decide) rfl rfl rfl rfl (Nat.le_of_ble_eq_true rfl) dX3_denominator_32 ⟨by decide, by decide⟩ ?_
        refine z_istore_n (lv' := [(1, .int _), (0, .ref _)]) g dX3_denominator_35 (by decide) rfl ?_
        have cut_36 : ∀ (N36 : Nat) (c : Nat) (gd : Bool) (i' : Nat) (T' : Nat → Int32), c < N36 → (i' ≤ n) → (gd = true → n - i' ≤ c) → (mgS f n c gd i' T' = (mqS f n)) → Z 0 0 [(h0, .inr (3, [.int 0, .ref e1, .int (nI n), .ref e3, .ref e4, .ref e5, .int (nI dg), .ref e7, .ref e8, .long ov, .long un, .ref e11, .ref e12, .ref e13, .ref e14, .int (nI i')])), (e1, .inl (k 0, 30, .inl f)), (e4, .inl (k 2, 6, .inr (.inl Lo))), (e7, .inl (k 1, 7, .inl (fun j => nI (m j)))), (e8, .inl (k 1, 7, .inl T'))] [(0, .ref h0), (1, .int (bI gd))] 36 [] := by
          intro N36
          induction N36 with
          | zero => intro c gd i' T' hms; exact absurd hms (Nat.not_lt_zero _)
          | succ N36 ih36 =>
            intro c gd i' T' hms36 hi1 hc hI
            refine z_iload_n g dX3_denominator_36 1 rfl ?_
            refine z_bf_eq g (tgt := 59) dX3_denominator_37 (by decide) (fun b37 => ?_) (fun b37 => ?_)
            · have hst : (mqS f n) = (gd, i', T') := by rw [← hI, mgS_stop (by first | exact Or.inl b37 | exact Or.inr b48)]
              have hT9 : T' = (mqS f n).2.2 := by rw [hst]
              have hi9 : i' = (mqS f n).2.1 := by rw [hst]
              have hg9 : gd = (mqS f n).1 := by rw [hst]
              subst hT9 hi9 hg9
              refine z_aload_n g dX3_denominator_59 0 rfl ?_
              refine z_ic0 g dX3_denominator_60 ?_
              refine z_put (w' := [(_, .inr (3, [_, _, _, _, _, _, _, _, _, _, _, _, _, _, _, _])), _, _, _, _]) g hX3 tyX3 tyX3_ok nmX3 0 rfl rfl 2 (by decide) (mi 4 rfl) rfl rfl rfl (Nat.le_of_ble_eq_true rfl) dX3_denominator_61 rfl ?_
              refine z_iload_n g dX3_denominator_64 1 rfl ?_
              refine z_bf_ne g (tgt := 74) dX3_denominator_65 (by decide) (fun b65 => ?_) (fun b65 => ?_)
              · exact absurd (b37.symm.trans b65) (by decide)
              · refine z_aload_n g dX3_denominator_68 0 rfl ?_
                refine z_ic1 g dX3_denominator_69 ?_
                refine z_callVi (w' := [_, _, _, _, _]) (wr := [_, _, _, _]) g (k_X3_fails l G k _ _ _ _ _ _ _ _ _ _ _ _ _ _ _ _ _ _) 1 gX3_denominator_X3_fails rfl rfl rfl nd_X3_fails ⟨by decide, by decide⟩ 0 rfl rfl [0] [1, 2, 3, 4] [4, 0, 1, 2, 3] rfl rfl rfl rfl (by decide) rfl rfl rfl rfl (Nat.le_of_ble_eq_true rfl) dX3_denominator_70 ⟨by decide, by decide⟩ ?_
                exact hret _ _ _ _ dX3_denominator_73 ((by unfold dnV dnF; rw [if_neg (Bool.eq_false_iff.mp b65)]; rfl)) ((by rw [(show dnF f n = 1 from (by unfold dnF; rw [if_neg (Bool.eq_false_iff.mp b65)]))]; rfl))
            · refine z_aload_n g dX3_denominator_40 0 rfl ?_
              refine z_get g hX3 0 rfl rfl 15 (by decide) (mi 2 rfl) rfl dX3_denominator_41 ?_
              refine z_aload_n g dX3_denominator_44 0 rfl ?_
              refine z_get g hX3 0 rfl rfl 2 (by decide) (mi 4 rfl) rfl dX3_denominator_45 ?_
              refine z_n_ge g (a := i') (b := n) (tgt := 59) (by omega) (by omega) dX3_denominator_48 (by decide) (fun b48 => ?_) (fun b48 => ?_)
              · have hst : (mqS f n) = (gd, i', T') := by rw [← hI, mgS_stop (by first | exact Or.inl b37 | exact Or.inr b48)]
                have hT9 : T' = (mqS f n).2.2 := by rw [hst]
                have hi9 : i' = (mqS f n).2.1 := by rw [hst]
                have hg9 : gd = (mqS f n).1 := by rw [hst]
                subst hT9 hi9 hg9
                refine z_aload_n g dX3_denominator_59 0 rfl ?_
                refine z_ic0 g dX3_denominator_60 ?_
                refine z_put (w' := [(_, .inr (3, [_, _, _, _, _, _, _, _, _, _, _, _, _, _, _, _])), _, _, _, _]) g hX3 tyX3 tyX3_ok nmX3 0 rfl rfl 2 (by decide) (mi 4 rfl) rfl rfl rfl (Nat.le_of_ble_eq_true rfl) dX3_denominator_61 rfl ?_
                refine z_iload_n g dX3_denominator_64 1 rfl ?_
                refine z_bf_ne g (tgt := 74) dX3_denominator_65 (by decide) (fun b65 => ?_) (fun b65 => ?_)
                · refine z_ic0 g dX3_denominator_74 ?_
                  refine z_istore_n (lv' := [(2, .int _), (0, .ref _), (1, .int _)]) g dX3_denominator_75 (by decide) rfl ?_
                  refine z_ic0 g dX3_denominator_76 ?_
                  refine z_istore_n (lv' := [(3, .int _), (2, .int _), (0, .ref _), (1, .int _)]) g dX3_denominator_77 (by decide) rfl ?_
                  have cut_78 : ∀ (N78 : Nat) (j : Nat), 7 - j < N78 → (j ≤ 7) → Z 0 0 [(h0, .inr (3, [.int 0, .ref e1, .int 0, .ref e3, .ref e4, .ref e5, .int (nI dg), .ref e7, .ref e8, .long ov, .long un, .ref e11, .ref e12, .ref e13, .ref e14, .int (nI ((mqS f n).2.1))])), (e1, .inl (k 0, 30, .inl f)), (e4, .inl (k 2, 6, .inr (.inl Lo))), (e7, .inl (k 1, 7, .inl (fun j => nI (m j)))), (e8, .inl (k 1, 7, .inl ((mqS f n).2.2)))] [(0, .ref h0), (2, .int (sumP (mqS f n).2.2 j)), (3, .int (nI j))] 78 [] := by
                    intro N78
                    induction N78 with
                    | zero => intro j hms; exact absurd hms (Nat.not_lt_zero _)
                    | succ N78 ih78 =>
                      intro j hms78 hj
                      refine z_iload_n g dX3_denominator_78 2 rfl ?_
                      refine z_bi g 7 dX3_denominator_79 (by decide) ?_
                      refine z_n_ge g (a := j) (b := 7) (tgt := 99) (by omega) (by omega) dX3_denominator_81 (by decide) (fun b81 => ?_) (fun b81 => ?_)
                      · obtain rfl : j = 7 := by omega
                        have hs5 := sumP_mOf hsm 7
                        refine z_iload_n g dX3_denominator_99 1 rfl ?_
                        refine z_ic5 g dX3_denominator_100 ?_
                        refine z_ic_le g (tgt := 110) dX3_denominator_101 (by decide) (fun b101 => ?_) (fun b101 => ?_)
                        · have hs6 : sumN (mOf (mqS f n).2.2) 7 ≤ 5 := by rw [hs5.1] at b101; exact (nI_leI (b := 5) (by omega) (by decide)).mp b101
                          have hd0 : dnF f n = 0 := by unfold dnF; rw [if_pos b65, if_pos b101]
                          refine z_lv (lv' := [(0, .ref h0), (2, .int (nI (sumN (mOf (mqS f n).2.2) 7))), (3, .int (nI 7))]) (by rw [hs5.1]) ?_
                          refine z_aload_n g dX3_denominator_110 0 rfl ?_
                          refine z_iload_n g dX3_denominator_111 1 rfl ?_
                          refine z_put (w' := [(_, .inr (3, [_, _, _, _, _, _, _, _, _, _, _, _, _, _, _, _])), _, _, _, _]) g hX3 tyX3 tyX3_ok nmX3 0 rfl rfl 6 (by decide) (mi 5 rfl) rfl rfl rfl (Nat.le_of_ble_eq_true rfl) dX3_denominator_112 rfl ?_
                          refine z_ic0 g dX3_denominator_115 ?_
                          refine z_istore_n (lv' := [(3, .int _), (0, .ref _), (2, .int _)]) g dX3_denominator_116 (by decide) rfl ?_
                          have cut_117 : ∀ (N117 : Nat) (j : Nat) (L' : Nat → Int64), 6 - j < N117 → (j ≤ 6) → (∀ q, q < j → L' q = oneP q) → Z 0 0 [(h0, .inr (3, [.int 0, .ref e1, .int (nI 0), .ref e3, .ref e4, .ref e5, .int (nI (sumN (mOf (mqS f n).2.2) 7)), .ref e7, .ref e8, .long ov, .long un, .ref e11, .ref e12, .ref e13, .ref e14, .int (nI ((mqS f n).2.1))])), (e1, .inl (k 0, 30, .inl f)), (e4, .inl (k 2, 6, .inr (.inl L'))), (e7, .inl (k 1, 7, .inl (fun j => nI (m j)))), (e8, .inl (k 1, 7, .inl ((mqS f n).2.2)))] [(0, .ref h0), (2, .int (nI (sumN (mOf (mqS f n).2.2) 7))), (3, .int (nI j))] 117 [] := by
                            intro N117
                            induction N117 with
                            | zero => intro j L' hms; exact absurd hms (Nat.not_lt_zero _)
                            | succ N117 ih117 =>
                              intro j L' hms117 hj hL
                              refine z_iload_n g dX3_denominator_117 2 rfl ?_
                              refine z_bi g 6 dX3_denominator_118 (by decide) ?_
                              refine z_n_ge g (a := j) (b := 6) (tgt := 144) (by omega) (by omega) dX3_denominator_120 (by decide) (fun b120 => ?_) (fun b120 => ?_)
                              · refine z_eqL (w' := [_, _, _, _, _]) g oneP 2 rfl (fun q h => hL q (by omega)) rfl ?_
                                refine z_bi g (-3) dX3_denominator_144 (by decide) ?_
                                refine z_istore_n (lv' := [(3, .int _), (0, .ref _), (2, .int _)]) g dX3_denominator_146 (by decide) rfl ?_
                                have cut_147 : ∀ (N147 : Nat) (j : Nat) (M' : Nat → Int32), 7 - j < N147 → (j ≤ 7) → (∀ q, q < j → M' q = (mqS f n).2.2 q) → Z 0 0 [(h0, .inr (3, [.int 0, .ref e1, .int (nI 0), .ref e3, .ref e4, .ref e5, .int (nI (sumN (mOf (mqS f n).2.2) 7)), .ref e7, .ref e8, .long ov, .long un, .ref e11, .ref e12, .ref e13, .ref e14, .int (nI ((mqS f n).2.1))])), (e1, .inl (k 0, 30, .inl f)), (e4, .inl (k 2, 6, .inr (.inl (belF (mOf (mqS f n).2.2) j)))), (e7, .inl (k 1, 7, .inl M')), (e8, .inl (k 1, 7, .inl ((mqS f n).2.2)))] [(0, .ref h0), (2, .int (nI (sumN (mOf (mqS f n).2.2) 7))), (3, .int (nI j - 3))] 147 [] := by
                                  intro N147
                                  induction N147 with
                                  | zero => intro j M' hms; exact absurd hms (Nat.not_lt_zero _)
                                  | succ N147 ih147 =>
                                    intro j M' hms147 hj hM
                                    refine z_iload_n g dX3_denominator_147 2 rfl ?_
                                    refine z_ic4 g dX3_denominator_148 ?_
                                    refine z_ic_ge g (tgt := 204) dX3_denominator_149 (by decide) (fun b149 => ?_) (fun b149 => ?_)
                                    · obtain rfl := rt4_ge hj b149
                                      refine z_eqI (w' := [_, _, _, _, _]) g (fun j => nI ((mOf (mqS f n).2.2) j)) 3 rfl (fun q h => by rw [hM q (by omega)]; exact (mOf_ok hsm q).1) rfl ?_
                                      refine z_iload_n g dX3_denominator_204 1 rfl ?_
                                      exact hret _ _ _ _ dX3_denominator_205 ((by unfold dnV; rw [if_pos hd0])) ((by rw [hd0]; rfl))
                                    · have hj7 : j < 7 := rt4_lt hj b149
                                      have hmo := (mOf_ok hsm j)
                                      refine z_aload_n g dX3_denominator_152 0 rfl ?_
                                      refine z_get g hX3 0 rfl rfl 7 (by decide) (mi 7 rfl) rfl dX3_denominator_153 ?_
                                      refine z_iload_n g dX3_denominator_156 2 rfl ?_
                                      refine z_ic3 g dX3_denominator_157 ?_
                                      refine z_iadd g dX3_denominator_158 ?_
                                      refine z_aload_n g dX3_denominator_159 0 rfl ?_
                                      refine z_get g hX3 0 rfl rfl 8 (by decide) (mi 3 rfl) rfl dX3_denominator_160 ?_
                                      refine z_iload_n g dX3_denominator_163 2 rfl ?_
                                      refine z_ic3 g dX3_denominator_164 ?_
                                      refine z_iadd g dX3_denominator_165 ?_
                                      refine z_iald g 4 rfl j (rt3 j) (by omega) (by decide) dX3_denominator_166 ?_
                                      refine z_iast (w' := [_, _, _, _, _]) g 3 rfl j (rt3 j) (by omega) (by decide) dX3_denominator_167 rfl ?_
                                      refine z_ic0 g dX3_denominator_168 ?_
                                      refine z_istore (lv' := [(4, .int _), (0, .ref _), (2, .int _), (3, .int _)]) g dX3_denominator_169 (by decide) rfl ?_
                                      have cut_171 : ∀ (N171 : Nat) (i9 : Nat), (mOf (mqS f n).2.2) j - i9 < N171 → (i9 ≤ (mOf (mqS f n).2.2) j) → Z 0 0 [(h0, .inr (3, [.int 0, .ref e1, .int (nI 0), .ref e3, .ref e4, .ref e5, .int (nI (sumN (mOf (mqS f n).2.2) 7)), .ref e7, .ref e8, .long ov, .long un, .ref e11, .ref e12, .ref e13, .ref e14, .int (nI ((mqS f n).2.1))])), (e1, .inl (k 0, 30, .inl f)), (e4, .inl (k 2, 6, .inr (.inl (mulN (belF (mOf (mqS f n).2.2) j) (nI j - 3) i9)))), (e7, .inl (k 1, 7, .inl (upd M' j ((mqS f n).2.2 j)))), (e8, .inl (k 1, 7, .inl ((mqS f n).2.2)))] [(0, .ref h0), (2, .int (nI (sumN (mOf (mqS f n).2.2) 7))), (3, .int (nI j - 3)), (4, .int (nI i9))] 171 [] := by
                                        intro N171
                                        induction N171 with
                                        | zero => intro i9 hms; exact absurd hms (Nat.not_lt_zero _)
                                        | succ N171 ih171 =>
                                          intro i9 hms171 hi9
                                          refine z_iload g dX3_denominator_171 3 rfl ?_
                                          refine z_aload_n g dX3_denominator_173 0 rfl ?_
                                          refine z_get g hX3 0 rfl rfl 8 (by decide) (mi 3 rfl) rfl dX3_denominator_174 ?_
                                          refine z_iload_n g dX3_denominator_177 2 rfl ?_
                                          refine z_ic3 g dX3_denominator_178 ?_
                                          refine z_iadd g dX3_denominator_179 ?_
                                          refine z_iald g 4 rfl j (rt3 j) (by omega) (by decide) dX3_denominator_180 ?_
                                          refine z_ti (y := nI ((mOf (mqS f n).2.2) j)) (hmo.1) ?_
                                          refine z_n_ge g (a := i9) (b := ((mOf (mqS f n).2.2) j)) (tgt := 198) (by omega) (by omega) dX3_denominator_181 (by decide) (fun b181 => ?_) (fun b181 => ?_)
                                          · obtain rfl : i9 = (mOf (mqS f n).2.2) j := by omega
                                            refine z_iinc (lv' := [(3, .int _), (0, .ref _), (2, .int _), (4, .int _)]) g (nI (j + 1) - 3) dX3_denominator_198 2 rfl (rt_inc j) (by decide) rfl ?_
                                            refine z_goto g 147 dX3_denominator_201 (by decide) ?_
                                            refine z_locs (lv' := [(0, .ref _), (2, .int _), (3, .int _)]) g [1, 2, 0] rfl ?_
                                            exact ih147 (j + 1) _ (by omega) (by omega) (fun q h => by unfold upd; split; (next e => rw [e]); (next e => exact hM q (by omega)))
                                          · refine z_aload_n g dX3_denominator_184 0 rfl ?_
                                            refine z_get g hX3 0 rfl rfl 4 (by decide) (mi 6 rfl) rfl dX3_denominator_185 ?_
                                            refine z_iload_n g dX3_denominator_188 2 rfl ?_
                                            refine z_callSv (w' := [_, _, _, _, _]) (wr := [_, _, _, _]) g (k_X3_times l G k _ _ _) 2 gX3_denominator_X3_times rfl rfl rfl nd_X3_times ⟨by decide, by decide⟩ [2] [0, 1, 3, 4] [0, 1, 4, 2, 3] rfl rfl rfl rfl (by decide) rfl rfl rfl rfl (Nat.le_of_ble_eq_true rfl) dX3_denominator_189 ⟨by decide, by decide⟩ ?_
                                            refine z_inc (lv' := [(4, .int _), (0, .ref _), (2, .int _), (3, .int _)]) g dX3_denominator_192 3 rfl (by decide) rfl ?_
                                            refine z_goto g 171 dX3_denominator_195 (by decide) ?_
                                            refine z_locs (lv' := [(0, .ref _), (2, .int _), (3, .int _), (4, .int _)]) g [1, 2, 3, 0] rfl ?_
                                            exact ih171 (i9 + 1) (by omega) (by omega)
                                      refine z_locs (lv' := [(0, .ref _), (2, .int _), (3, .int _), (4, .int _)]) g [1, 2, 3, 0] rfl ?_
                                      exact cut_171 _ 0 (Nat.lt_succ_self _) (Nat.zero_le _)
                                refine z_locs (lv' := [(0, .ref _), (2, .int _), (3, .int _)]) g [1, 2, 0] rfl ?_
                                exact cut_147 _ 0 _ (Nat.lt_succ_self _) (by decide) (fun q h => absurd h (Nat.not_lt_zero _))
                              · refine z_aload_n g dX3_denominator_123 0 rfl ?_
                                refine z_get g hX3 0 rfl rfl 4 (by decide) (mi 6 rfl) rfl dX3_denominator_124 ?_
                                refine z_iload_n g dX3_denominator_127 2 rfl ?_
                                refine z_iload_n g dX3_denominator_128 2 rfl ?_
                                refine z_if_ne g (tgt := 136) dX3_denominator_129 (by decide) (fun b129 => ?_) (fun b129 => ?_)
                                · refine z_lc0 g dX3_denominator_136 ?_
                                  refine z_last (w' := [_, _, _, _, _]) g 2 rfl j rfl (by omega) (by decide) dX3_denominator_137 rfl ?_
                                  refine z_inc (lv' := [(3, .int _), (0, .ref _), (2, .int _)]) g dX3_denominator_138 2 rfl (by decide) rfl ?_
                                  refine z_goto g 117 dX3_denominator_141 (by decide) ?_
                                  refine z_locs (lv' := [(0, .ref _), (2, .int _), (3, .int _)]) g [1, 2, 0] rfl ?_
                                  exact ih117 _ _ (by omega) (by omega) (fun q h => by unfold vp_updL; split; (next e => subst e; unfold oneP; first | rw [if_pos (n0_eq (by omega) b129)] | rw [if_neg (n0_ne b129)]); (next e => exact hL q (by omega)))
                                · refine z_lc1 g dX3_denominator_132 ?_
                                  refine z_goto g 137 dX3_denominator_133 (by decide) ?_
                                  refine z_last (w' := [_, _, _, _, _]) g 2 rfl j rfl (by omega) (by decide) dX3_denominator_137 rfl ?_
                                  refine z_inc (lv' := [(3, .int _), (0, .ref _), (2, .int _)]) g dX3_denominator_138 2 rfl (by decide) rfl ?_
                                  refine z_goto g 117 dX3_denominator_141 (by decide) ?_
                                  refine z_locs (lv' := [(0, .ref _), (2, .int _), (3, .int _)]) g [1, 2, 0] rfl ?_
                                  exact ih117 _ _ (by omega) (by omega) (fun q h => by unfold vp_updL; split; (next e => subst e; unfold oneP; first | rw [if_pos (n0_eq (by omega) b129)] | rw [if_neg (n0_ne b129)]); (next e => exact hL q (by omega)))
                          refine z_locs (lv' := [(0, .ref _), (2, .int _), (3, .int _)]) g [1, 2, 0] rfl ?_
                          exact cut_117 _ 0 Lo (Nat.lt_succ_self _) (by decide) (fun q h => absurd h (Nat.not_lt_zero _))
                        · refine z_aload_n g dX3_denominator_104 0 rfl ?_
                          refine z_ic2 g dX3_denominator_105 ?_
                          refine z_callVi (w' := [_, _, _, _, _]) (wr := [_, _, _, _]) g (k_X3_fails l G k _ _ _ _ _ _ _ _ _ _ _ _ _ _ _ _ _ _) 1 gX3_denominator_X3_fails rfl rfl rfl nd_X3_fails ⟨by decide, by decide⟩ 0 rfl rfl [0] [1, 2, 3, 4] [4, 0, 1, 2, 3] rfl rfl rfl rfl (by decide) rfl rfl rfl rfl (Nat.le_of_ble_eq_true rfl) dX3_denominator_106 ⟨by decide, by decide⟩ ?_
                          exact hret _ _ _ _ dX3_denominator_109 ((by unfold dnV dnF; rw [if_pos b65, if_neg b101]; rfl)) ((by rw [(show dnF f n = 2 from (by unfold dnF; rw [if_pos b65, if_neg b101]))]; rfl))
                      · refine z_iload_n g dX3_denominator_84 1 rfl ?_
                        refine z_aload_n g dX3_denominator_85 0 rfl ?_
                        refine z_get g hX3 0 rfl rfl 8 (by decide) (mi 3 rfl) rfl dX3_denominator_86 ?_
                        refine z_iload_n g dX3_denominator_89 2 rfl ?_
                        refine z_iald g 4 rfl j rfl (by omega) (by decide) dX3_denominator_90 ?_
                        refine z_iadd g dX3_denominator_91 ?_
                        refine z_istore_n (lv' := [(2, .int _), (0, .ref _), (3, .int _)]) g dX3_denominator_92 (by decide) rfl ?_
                        refine z_inc (lv' := [(3, .int _), (2, .int _), (0, .ref _)]) g dX3_denominator_93 2 rfl (by decide) rfl ?_
                        refine z_goto g 78 dX3_denominator_96 (by decide) ?_
                        refine z_locs (lv' := [(0, .ref _), (2, .int _), (3, .int _)]) g [2, 1, 0] rfl ?_
                        exact ih78 (j + 1) (by omega) (by omega)
                  refine z_locs (lv' := [(0, .ref _), (2, .int _), (3, .int _)]) g [2, 1, 0] rfl ?_
                  exact cut_78 _ 0 (Nat.lt_succ_self _) (by decide)
                · exact absurd (b37.symm.trans b65) (by decide)
              · obtain ⟨c, rfl⟩ : ∃ q, c = q + 1 := ⟨c - 1, by have := hc b37; omega⟩
                refine z_aload_n g dX3_denominator_51 0 rfl ?_
                refine z_callVi (w' := [_, _, _, _, _]) (wr := [_, _]) g (k_X3_readFactor l G k _ _ _ _ _ _ _ _ _ _ _ _ _ _ _ _ _ _ _ (by assumption) (by repeat (first | assumption | apply takesN_le | apply rnN_le | apply rpN_le | apply sgN_le | apply rrN_le | (apply dgN_le (by decide)) | apply rtS_le | apply rfS_le | apply tnN_le | apply mtS_le | apply mfS_le | apply mstep_le | (exact isd_lt (by assumption)) | (exact is13_lt (by assumption)))) (by assumption)) 0 gX3_denominator_X3_readFactor rfl rfl rfl nd_X3_readFactor ⟨by decide, by decide⟩ 0 rfl rfl [0, 1, 4] [2, 3] [2, 3, 0, 1, 4] rfl rfl rfl rfl (by decide) rfl rfl rfl rfl (Nat.le_of_ble_eq_true rfl) dX3_denominator_52 ⟨by decide, by decide⟩ ?_
                refine z_istore_n (lv' := [(1, .int _), (0, .ref _)]) g dX3_denominator_55 (by decide) rfl ?_
                refine z_goto g 36 dX3_denominator_56 (by decide) ?_
                refine z_locs (lv' := [(0, .ref _), (1, .int _)]) g [1, 0] rfl ?_
                exact ih36 c _ _ _ (by omega) (by repeat (first | assumption | apply takesN_le | apply rnN_le | apply rpN_le | apply sgN_le | apply rrN_le | (apply dgN_le (by decide)) | apply rtS_le | apply rfS_le | apply tnN_le | apply mtS_le | apply mfS_le | apply mstep_le | (exact isd_lt (by assumption)) | (exact is13_lt (by assumption)))) (fun h9 => by have h1 := mfS_gt h9; have := hc b37; omega) (by rw [← hI]; show _ = if gd then _ else _; rw [if_pos b37, if_neg b48])
        refine z_locs (lv' := [(0, .ref _), (1, .int _)]) g [1, 0] rfl ?_
        exact cut_36 _ 30 _ _ _ (Nat.lt_succ_self _) (by repeat (first | assumption | apply takesN_le | apply rnN_le | apply rpN_le | apply sgN_le | apply rrN_le | (apply dgN_le (by decide)) | apply rtS_le | apply rfS_le | apply tnN_le | apply mtS_le | apply mfS_le | apply mstep_le | (exact isd_lt (by assumption)) | (exact is13_lt (by assumption)))) (fun _ => by omega) rfl
      · refine z_aload_n g dX3_denominator_18 0 rfl ?_
        refine z_get g hX3 0 rfl rfl 8 (by decide) (mi 3 rfl) rfl dX3_denominator_19 ?_
        refine z_iload_n g dX3_denominator_22 1 rfl ?_
        refine z_ic0 g dX3_denominator_23 ?_
        refine z_iast (w' := [_, _, _, _, _]) g 4 rfl j rfl (by omega) (by decide) dX3_denominator_24 rfl ?_
        refine z_inc (lv' := [(1, .int _), (0, .ref _)]) g dX3_denominator_25 1 rfl (by decide) rfl ?_
        refine z_goto g 12 dX3_denominator_28 (by decide) ?_
        refine z_locs (lv' := [(0, .ref _), (1, .int _)]) g [1, 0] rfl ?_
        exact ih12 _ _ (by omega) (by omega) (fun q h => by unfold upd; split; rfl; exact hT q (by omega))
  refine z_locs (lv' := [(0, .ref _), (1, .int _)]) g [1, 0] rfl ?_
  exact cut_12 _ 0 T (Nat.lt_succ_self _) (by decide) (fun q h => absurd h (Nat.not_lt_zero _))
theorem nd_X3_denominator : yX3_denominator.cls = RX3 ∧ yX3_denominator.cls ≠ "java/lang/invoke/MethodHandle" ∧ yX3_denominator.cls ≠ "java/lang/invoke/VarHandle" ∧ (parseMethodDescriptor yX3_denominator.desc).map (fun d => d.parameters.length) = some 0 := by decide +kernel
