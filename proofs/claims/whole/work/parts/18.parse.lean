/-! both readers of the draft agree -/
def okC (f : Nat → Int32) (n : Nat) : Prop := ∀ j, j < n → 32 ≤ f j ∧ f j ≤ 126
theorem ch_of {f : Nat → Int32} {n i : Nat} (hf : okC f n) (hi : i < n) : ∃ d : Nat, 32 ≤ d ∧ d < 127 ∧ f i = nI d := by
  obtain ⟨h1, h2⟩ := hf i hi
  obtain ⟨d, hd, e⟩ := nI_of2 (M := 126) (n := 126) (by decide) (fun h9 => absurd (Int32.le_trans h1 (Int32.le_of_lt h9)) (by decide)) h2
  refine ⟨d, ?_, by omega, e⟩
  rw [e] at h1
  exact (nI_leI (by decide) (by omega)).mp (show nI 32 ≤ nI d from h1)
theorem dg_k1 : ∀ d, d < 127 → ((if nI d - 48 < 0 then false else if nI d - 48 ≤ 9 then true else false) = (if nI d < 48 then false else if 57 < nI d then false else true)) := by decide +kernel
theorem dg_k2 : ∀ d, d < 127 → ((if nI d - 48 < 1 then false else if nI d - 48 ≤ 3 then true else false) = (if nI d < 49 then false else if nI d ≤ 51 then true else false)) := by decide +kernel
theorem dg09 {f : Nat → Int32} {n : Nat} (hf : okC f n) (i : Nat) : dgP f n i 0 9 = isdM f n i := by
  unfold dgP isdM dgD lookM
  by_cases hi : n ≤ i
  · simp only [if_pos hi]; decide
  · obtain ⟨d, h1, h2, e⟩ := ch_of hf (Nat.not_le.mp hi)
    simp only [if_neg hi, e]
    exact dg_k1 d h2
theorem dg13 {f : Nat → Int32} {n : Nat} (hf : okC f n) (i : Nat) : dgP f n i 1 3 = is13 f n i := by
  unfold dgP is13 dgD lookM
  by_cases hi : n ≤ i
  · simp only [if_pos hi]; decide
  · obtain ⟨d, h1, h2, e⟩ := ch_of hf (Nat.not_le.mp hi)
    simp only [if_neg hi, e]
    exact dg_k2 d h2
theorem dg06 {f : Nat → Int32} {n : Nat} (hf : okC f n) (i : Nat) : dgP f n i 0 6 = if isdM f n i then (if f i - 48 ≤ 6 then true else false) else false := by
  unfold dgP isdM dgD lookM
  by_cases hi : n ≤ i
  · simp only [if_pos hi]; rfl
  · obtain ⟨d, h1, h2, e⟩ := ch_of hf (Nat.not_le.mp hi)
    simp only [if_neg hi, e]
    exact (by decide +kernel : ∀ d, d < 127 → ((if nI d - 48 < 0 then false else if nI d - 48 ≤ 6 then true else false) = if (if nI d < 48 then false else if 57 < nI d then false else true) then (if nI d - 48 ≤ 6 then true else false) else false)) d h2
theorem dgV_t {f : Nat → Int32} {n i : Nat} {lo hi : Int32} (hlo : (-1 : Int32) < lo) (h : dgP f n i lo hi = true) : dgV f n i lo hi = f i - 48 := by
  unfold dgV
  rw [if_pos h]
  unfold dgP dgD at h
  unfold dgD
  by_cases hi9 : n ≤ i
  · rw [if_pos hi9, if_pos hlo] at h; cases h
  · rw [if_neg hi9]
theorem dgV_f {f : Nat → Int32} {n i : Nat} {lo hi : Int32} (h : dgP f n i lo hi = false) : dgV f n i lo hi = -1 := by
  unfold dgV
  rw [h]
  rfl
theorem dgN_t {f : Nat → Int32} {n i : Nat} {lo hi : Int32} (h : dgP f n i lo hi = true) : dgN f n i lo hi = i + 1 := by unfold dgN; rw [if_pos h]
theorem dgN_f {f : Nat → Int32} {n i : Nat} {lo hi : Int32} (h : dgP f n i lo hi = false) : dgN f n i lo hi = i := by unfold dgN; rw [h]; rfl
theorem num2 : ∀ d, d < 10 → ∀ e, e < 10 → 0 ≤ 10 * nI d + nI e ∧ (10 * nI d + nI e).toInt64 = 10 * (nI d).toInt64 + (nI e).toInt64 ∧ (-(10 * nI d + nI e)).toInt64 = -1 * (10 * (nI d).toInt64 + (nI e).toInt64) ∧ 0 ≤ (10 * (nI d).toInt64 + (nI e).toInt64).toInt ∧ (10 * (nI d).toInt64 + (nI e).toInt64).toInt ≤ 99 := by decide +kernel
theorem num1 : ∀ d, d < 10 → 0 ≤ nI d ∧ (-(nI d)).toInt64 = -1 * (nI d).toInt64 ∧ 0 ≤ (nI d).toInt64.toInt ∧ (nI d).toInt64.toInt ≤ 99 := by decide +kernel
/-- the number of a term: both readers -/
theorem num_eq {f : Nat → Int32} {n : Nat} (hf : okC f n) (i : Nat) : rnN f n i = tnN f n i ∧ (isdM f n i = true → 0 ≤ rnV f n i ∧ (rnV f n i).toInt64 = tnV f n i ∧ (-(rnV f n i)).toInt64 = -1 * tnV f n i) ∧ (isdM f n i = false → rnV f n i = -1 ∧ tnV f n i = 1) ∧ 0 ≤ (tnV f n i).toInt ∧ (tnV f n i).toInt ≤ 99 := by
  unfold rnN tnN rnV tnV
  rcases h : isdM f n i with _ | _
  · have e := (dg09 hf i).trans h
    have hm : ¬ (0 : Int32) ≤ -1 := by decide
    rw [dgV_f e, dgN_f e]
    simp only [if_neg hm, Bool.false_eq_true, if_false]
    exact ⟨(by first | trivial | rfl), fun h => (by cases h), fun _ => (by first | trivial | exact ⟨rfl, rfl⟩ | exact ⟨trivial, trivial⟩), by decide, by decide⟩
  · have e := (dg09 hf i).trans h
    obtain ⟨d, hd, ed⟩ := isd_v h
    rw [dgV_t (by decide) e, dgN_t e, ed]
    have h0 := num1 d (by omega)
    rcases h2 : isdM f n (i + 1) with _ | _
    · have e2 := (dg09 hf (i + 1)).trans h2
      rw [dgV_f e2, dgN_f e2]
      have hm : ¬ (0 : Int32) ≤ -1 := by decide
      simp only [if_pos h0.1, if_neg hm, if_true, Bool.false_eq_true, if_false]
      exact ⟨(by first | trivial | rfl), fun _ => ⟨h0.1, (by first | trivial | rfl), h0.2.1⟩, fun h => (by cases h), h0.2.2⟩
    · have e2 := (dg09 hf (i + 1)).trans h2
      obtain ⟨q, hq, eq⟩ := isd_v h2
      rw [dgV_t (by decide) e2, dgN_t e2, eq]
      have h1 := num1 q (by omega)
      have h3 := num2 d (by omega) q (by omega)
      simp only [if_pos h0.1, if_pos h1.1, if_true]
      exact ⟨(by first | trivial | rfl), fun _ => ⟨h3.1, h3.2.1, h3.2.2.1⟩, fun h => (by cases h), h3.2.2.2⟩
theorem add_mt {T : Nat → Int64} {sg num x : Int64} {d j : Nat} (hd : d < 10) (hx : x = sg * num) : mtE sg num T (nI d) j = if d ≤ 6 then (true, j, addP T x (nI d)) else (false, j, T) := by
  unfold mtE addP
  have h := (by decide +kernel : ∀ d, d < 10 → ¬ nI d < 0 ∧ (nI d ≤ 6 ↔ d ≤ 6) ∧ (d ≤ 6 → ¬ 6 < nI d)) d hd
  by_cases h6 : d ≤ 6
  · rw [if_pos (h.2.1.mpr h6), if_pos h6, if_neg h.1, if_neg (h.2.2 h6), hx]
  · rw [if_neg (fun q => h6 (h.2.1.mp q)), if_neg h6]
theorem term_eq {f : Nat → Int32} {n : Nat} (hf : okC f n) (minus : Bool) (i : Nat) (T : Nat → Int64) : (rtA f n minus i T).1 = (mtS f n (sgL minus) i T).1 ∧ ((rtA f n minus i T).1 = true → (rtA f n minus i T).2 = (mtS f n (sgL minus) i T).2) := by
  obtain ⟨hN, hd1, hd0, -, -⟩ := num_eq hf i
  unfold rtA mtS rtB mtB
  rw [hN]
  generalize tnN f n i = j0
  generalize hnum : rnV f n i = num at hd1 hd0
  generalize ht : tnV f n i = tn at hd1 hd0
  -- the number that is added
  have hx : ∀ x, x = (if isdM f n i then (if minus then (-num).toInt64 else num.toInt64) else (if minus then (-(1 : Int32)).toInt64 else (1 : Int32).toInt64)) → x = sgL minus * tn := by
    intro x e
    rw [e]
    rcases h : isdM f n i with _ | _
    · obtain ⟨-, e2⟩ := hd0 h
      rw [e2]
      cases minus
      · exact (by decide : Int32.toInt64 1 = sgL false * 1)
      · exact (by decide : (-(1 : Int32)).toInt64 = sgL true * 1)
    · obtain ⟨-, e2, e3⟩ := hd1 h
      cases minus
      · show num.toInt64 = 1 * tn
        rw [e2, Int64.one_mul]
      · show (-num).toInt64 = -1 * tn
        rw [e3]
  rcases hX : takesP f n j0 120 with _ | _
  · simp only [Bool.false_eq_true, if_false]
    unfold rtC
    rcases h : isdM f n i with _ | _
    · obtain ⟨e1, -⟩ := hd0 h
      have hm : ¬ (0 : Int32) ≤ -1 := by decide
      rw [e1, if_neg hm]
      simp only [Bool.false_eq_true, if_false]
      exact ⟨(by first | trivial | rfl), fun h => (by cases h)⟩
    · obtain ⟨e1, -⟩ := hd1 h
      have h00 : (0 : Int32) ≤ 0 := by decide
      rw [if_pos e1, if_pos h00]
      have e9 := add_mt (T := T) (sg := sgL minus) (num := tn) (d := 0) (j := takesN f n j0 120) (by decide) (hx _ (by rw [h]))
      rw [show nI 0 = (0 : Int32) from rfl] at e9
      simp only [if_true, e9, if_pos (show 0 ≤ 6 by decide)]
      exact ⟨(by first | trivial | rfl), fun _ => (by first | trivial | rfl)⟩
  · simp only [if_true]
    -- the body with an x
    have hC : ∀ pw j, rtC minus num true pw j T = if 0 ≤ pw then (true, j, addP T (sgL minus * tn) pw) else (false, j, T) := by
      intro pw j
      unfold rtC
      rcases h : isdM f n i with _ | _
      · obtain ⟨e1, -⟩ := hd0 h
        have hm : ¬ (0 : Int32) ≤ -1 := by decide
        rw [e1, if_neg hm, if_pos rfl, ← hx _ (by rw [h])]
        simp only [Bool.false_eq_true, if_false]
      · obtain ⟨e1, -⟩ := hd1 h
        rw [if_pos e1, ← hx _ (by rw [h])]
        simp only [if_true]
    rw [hC]
    unfold mtX rpV rpN
    rcases h9 : takesP f n (takesN f n j0 120) 94 with _ | _
    · have e9 := add_mt (T := T) (sg := sgL minus) (num := tn) (d := 1) (j := takesN f n (takesN f n j0 120) 94) (by decide) rfl
      rw [show nI 1 = (1 : Int32) from rfl] at e9
      have h01 : (0 : Int32) ≤ 1 := by decide
      simp only [Bool.false_eq_true, if_false, e9, if_pos (show 1 ≤ 6 by decide), if_pos h01]
      exact ⟨(by first | trivial | rfl), fun _ => (by first | trivial | rfl)⟩
    · simp only [if_true]
      have e6 := dg06 hf (takesN f n (takesN f n j0 120) 94)
      rcases h8 : isdM f n (takesN f n (takesN f n j0 120) 94) with _ | _
      · rw [h8] at e6
        have hm : ¬ (0 : Int32) ≤ -1 := by decide
        simp only [Bool.false_eq_true, if_false] at e6 ⊢
        rw [dgV_f e6, if_neg hm]
        exact ⟨(by first | trivial | rfl), fun h => (by cases h)⟩
      · obtain ⟨d, hd, ed⟩ := isd_v h8
        rw [h8, ed] at e6
        simp only [if_true] at e6 ⊢
        rw [ed, add_mt (x := sgL minus * tn) (show d < 10 by omega) rfl]
        have k := (by decide +kernel : ∀ d, d < 10 → (nI d ≤ 6 ↔ d ≤ 6) ∧ 0 ≤ nI d) d (by omega)
        by_cases h6 : d ≤ 6
        · rw [if_pos (k.1.mpr h6)] at e6
          rw [dgV_t (by decide) e6, dgN_t e6, ed, if_pos h6, if_pos k.2]
          exact ⟨(by first | trivial | rfl), fun _ => (by first | trivial | rfl)⟩
        · rw [if_neg (fun q => h6 (k.1.mp q))] at e6
          have hm : ¬ (0 : Int32) ≤ -1 := by decide
          rw [dgV_f e6, if_neg hm, if_neg h6]
          exact ⟨(by first | trivial | rfl), fun h => (by cases h)⟩
theorem takes_ne {f : Nat → Int32} {n i : Nat} {c c' : Int32} (hc : ¬ c = c') (h : takesP f n i c = true) : takesP f n i c' = false := by
  unfold takesP at h ⊢
  by_cases h1 : n ≤ i
  · rw [if_pos h1] at h; cases h
  · rw [if_neg h1] at h ⊢
    by_cases h2 : f i = c
    · rw [if_neg (fun e => hc (h2.symm.trans e))]
    · rw [if_neg h2] at h; cases h
theorem takesN_f {f : Nat → Int32} {n i : Nat} {c : Int32} (h : takesP f n i c = false) : takesN f n i c = i := by unfold takesN; rw [h]; rfl
theorem first_eq (f : Nat → Int32) (n : Nat) (T : Nat → Int64) : rtS f n 0 1 T = rtA f n (takesP f n 0 45) (sgN f n 0) T := by
  unfold rtS
  have h : sgOK f n 0 1 = true := by
    unfold sgOK
    have h1 : ¬ (1 : Int32) = 0 := by decide
    rw [if_neg h1]
    cases takesP f n 0 45 <;> cases takesP f n (takesN f n 0 45) 43 <;> rfl
  rw [if_pos h]
theorem step_eq {f : Nat → Int32} {n : Nat} (hf : okC f n) (i : Nat) (T : Nat → Int64) : (rtS f n i 0 T).1 = (mstep f n i T).1 ∧ ((rtS f n i 0 T).1 = true → (rtS f n i 0 T).2 = (mstep f n i T).2) := by
  unfold rtS mstep sgOK sgN
  rcases h45 : takesP f n i 45 with _ | _
  · rw [takesN_f h45]
    rcases h43 : takesP f n i 43 with _ | _
    · rw [takesN_f h43]
      rw [h45]
      exact ⟨rfl, fun h => (by cases h)⟩
    · exact term_eq hf false (takesN f n i 43) T
  · have h43 := takes_ne (c' := 43) (by decide) h45
    rw [h43, takesN_f h43, h45]
    exact term_eq hf true (takesN f n i 45) T
theorem rlS_f {f : Nat → Int32} {n c i : Nat} {T : Nat → Int64} : rlS f n c false i T = (false, i, T) := by cases c <;> rfl
theorem loop_eq {f : Nat → Int32} {n : Nat} (hf : okC f n) : ∀ (c c' : Nat) (i : Nat) (T : Nat → Int64), n ≤ i + c → n ≤ i + c' → (mlS f n c' true i T).1 = rpB n (rlS f n c true i T) ∧ (rpB n (rlS f n c true i T) = true → (mlS f n c' true i T).2.2 = (rlS f n c true i T).2.2) := by
  intro c
  induction c with
  | zero =>
    intro c' i T h1 h2
    have hi : n ≤ i := h1
    rw [mlS_stop (Or.inr hi)]
    show true = rpB n (true, i, T) ∧ (_ → T = T)
    exact ⟨by unfold rpB; rw [if_pos rfl, if_pos hi], fun _ => rfl⟩
  | succ c ih =>
    intro c' i T h1 h2
    by_cases hi : n ≤ i
    · rw [mlS_stop (Or.inr hi)]
      have e : rlS f n (c + 1) true i T = (true, i, T) := by
        show (if true = true then (if n ≤ i then (true, i, T) else _) else _) = _
        rw [if_pos rfl, if_pos hi]
      rw [e]
      exact ⟨by unfold rpB; rw [if_pos rfl, if_pos hi], fun _ => rfl⟩
    · obtain ⟨c'', rfl⟩ : ∃ q, c' = q + 1 := ⟨c' - 1, by omega⟩
      have e1 : rlS f n (c + 1) true i T = rlS f n c (rtS f n i 0 T).1 (rtS f n i 0 T).2.1 (rtS f n i 0 T).2.2 := by
        show (if true = true then (if n ≤ i then (true, i, T) else _) else _) = _
        rw [if_pos rfl, if_neg hi]
      have e2 : mlS f n (c'' + 1) true i T = mlS f n c'' (mstep f n i T).1 (mstep f n i T).2.1 (mstep f n i T).2.2 := by
        show (if true = true then (if n ≤ i then (true, i, T) else _) else _) = _
        rw [if_pos rfl, if_neg hi]
      rw [e1, e2]
      obtain ⟨s1, s2⟩ := step_eq hf i T
      rcases h : (mstep f n i T).1 with _ | _
      · rw [h] at s1
        rw [s1, mlS_stop (Or.inl rfl), rlS_f]
        exact ⟨rfl, fun h => (by cases h)⟩
      · have hg := mstep_gt h
        rw [h] at s1
        rw [s1, s2 s1]
        exact ih c'' _ _ (by omega) (by omega)
theorem prod_fst {α β : Type} {a b : α × β} (h1 : a.1 = b.1) (h2 : a.2 = b.2) : a = b := Prod.ext h1 h2
theorem mt_gt {f : Nat → Int32} {n i : Nat} {sg : Int64} {T : Nat → Int64} (h : (mtS f n sg i T).1 = true) : i + 1 ≤ (mtS f n sg i T).2.1 := by
  unfold mtS mtB at h ⊢
  have ht := tnN_ge f n i
  rcases hX : takesP f n (tnN f n i) 120 with _ | _
  · rw [hX] at h
    simp only [Bool.false_eq_true, if_false] at h ⊢
    rcases hd : isdM f n i with _ | _
    · rw [hd] at h; cases h
    · simp only [if_true, mtE_n]
      rw [takesN_f hX]
      unfold tnN
      rw [if_pos hd]
      split <;> omega
  · simp only [if_true]
    have h1 := takesN_gt hX
    unfold mtX
    rcases h9 : takesP f n (takesN f n (tnN f n i) 120) 94 with _ | _
    · simp only [Bool.false_eq_true, if_false, mtE_n]
      rw [takesN_f h9]
      omega
    · have h2 := takesN_gt h9
      simp only [if_true]
      cases isdM f n (takesN f n (takesN f n (tnN f n i) 120) 94)
      · simp only [Bool.false_eq_true, if_false]; omega
      · simp only [if_true, mtE_n]; omega
theorem num_main {f : Nat → Int32} {n : Nat} (hn : n ≤ 30) (hf : okC f n) : (mpS f n).1 = rpB n (rpS f n 0) ∧ (rpB n (rpS f n 0) = true → (mpS f n).2.2 = (rpS f n 0).2.2) := by
  unfold mpS rpS mpF
  rw [first_eq]
  obtain ⟨s1, s2⟩ := term_eq hf (takesP f n 0 45) (sgN f n 0) (fun _ => 0)
  rcases h : (mtS f n (sgL (takesP f n 0 45)) (sgN f n 0) (fun _ => 0)).1 with _ | _
  · rw [h] at s1
    rw [s1, mlS_stop (Or.inl rfl), rlS_f]
    exact ⟨rfl, fun h => (by cases h)⟩
  · rw [h] at s1
    rw [s1, s2 s1]
    have hge : 1 ≤ (mtS f n (sgL (takesP f n 0 45)) (sgN f n 0) (fun _ => 0)).2.1 := by
      exact Nat.le_trans (Nat.le_add_left 1 _) (mt_gt h)
    exact loop_eq hf 29 30 _ _ (by omega) (by omega)
def bdT (T : Nat → Int64) (B : Nat) : Prop := ∀ j, -(B : Int) ≤ (T j).toInt ∧ (T j).toInt ≤ (B : Int)
theorem add_bd {a b : Int64} {B C : Nat} (h1 : -(B : Int) ≤ a.toInt ∧ a.toInt ≤ (B : Int)) (h2 : -(C : Int) ≤ b.toInt ∧ b.toInt ≤ (C : Int)) (h : B + C ≤ 4000) : -((B + C : Nat) : Int) ≤ (a + b).toInt ∧ (a + b).toInt ≤ ((B + C : Nat) : Int) := by
  rw [Int64.toInt_add, Int.bmod_eq_of_le (by omega) (by omega)]
  omega
theorem sg_bd {b : Bool} {t : Int64} (h0 : 0 ≤ t.toInt) (h1 : t.toInt ≤ 99) : -((99 : Nat) : Int) ≤ (sgL b * t).toInt ∧ (sgL b * t).toInt ≤ ((99 : Nat) : Int) := by
  rw [Int64.toInt_mul]
  cases b
  · rw [show (sgL false).toInt = 1 from rfl, Int.bmod_eq_of_le (by omega) (by omega)]
    omega
  · rw [show (sgL true).toInt = -1 from rfl, Int.bmod_eq_of_le (by omega) (by omega)]
    omega
theorem bd_upd {T : Nat → Int64} {B q : Nat} {v : Int64} (hT : bdT T B) (h : -(B : Int) ≤ v.toInt ∧ v.toInt ≤ (B : Int)) : bdT (vp_updL T q v) B := by
  intro j
  unfold vp_updL
  by_cases e : j = q
  · simp only [if_pos e]; exact h
  · simp only [if_neg e]; exact hT j
theorem bd_up {T : Nat → Int64} {B C : Nat} (h : bdT T B) (hc : B ≤ C) : bdT T C := fun j => by have := h j; omega
theorem bd_E {T : Nat → Int64} {B : Nat} {sg num : Int64} {pw : Int32} {j : Nat} (hT : bdT T B) (hB : B + 99 ≤ 4000) (h : -((99 : Nat) : Int) ≤ (sg * num).toInt ∧ (sg * num).toInt ≤ ((99 : Nat) : Int)) : bdT (mtE sg num T pw j).2.2 (B + 99) := by
  unfold mtE
  by_cases h6 : pw ≤ 6
  · rw [if_pos h6]
    exact bd_upd (bd_up hT (Nat.le_add_right B 99)) (add_bd (hT _) h hB)
  · rw [if_neg h6]
    exact bd_up hT (Nat.le_add_right B 99)
theorem bd_S {f : Nat → Int32} {n i B : Nat} {b : Bool} {T : Nat → Int64} (hf : okC f n) (hT : bdT T B) (hB : B + 99 ≤ 4000) : bdT (mtS f n (sgL b) i T).2.2 (B + 99) := by
  obtain ⟨-, -, -, h0, h1⟩ := num_eq hf i
  have hE : ∀ pw j, bdT (mtE (sgL b) (tnV f n i) T pw j).2.2 (B + 99) := fun pw j => bd_E hT hB (sg_bd h0 h1)
  have hU := bd_up hT (Nat.le_add_right B 99)
  unfold mtS mtB mtX
  cases takesP f n (tnN f n i) 120
  · simp only [Bool.false_eq_true, if_false]
    cases isdM f n i
    · simp only [Bool.false_eq_true, if_false]; exact hU
    · simp only [if_true]; exact hE _ _
  · simp only [if_true]
    cases takesP f n (takesN f n (tnN f n i) 120) 94
    · simp only [Bool.false_eq_true, if_false]; exact hE _ _
    · simp only [if_true]
      cases isdM f n (takesN f n (takesN f n (tnN f n i) 120) 94)
      · simp only [Bool.false_eq_true, if_false]; exact hU
      · simp only [if_true]; exact hE _ _
theorem bd_step {f : Nat → Int32} {n i B : Nat} {T : Nat → Int64} (hf : okC f n) (hT : bdT T B) (hB : B + 99 ≤ 4000) : bdT (mstep f n i T).2.2 (B + 99) := by
  unfold mstep
  cases takesP f n i 43
  · simp only [Bool.false_eq_true, if_false]
    cases takesP f n (takesN f n i 43) 45
    · simp only [Bool.false_eq_true, if_false]; exact bd_up hT (Nat.le_add_right B 99)
    · simp only [if_true]; exact bd_S hf hT hB
  · simp only [if_true]; exact bd_S hf hT hB
theorem bd_loop {f : Nat → Int32} {n : Nat} (hf : okC f n) : ∀ (c : Nat) (g : Bool) (i : Nat) (T : Nat → Int64) (B : Nat), bdT T B → B + 99 * c ≤ 4000 → bdT (mlS f n c g i T).2.2 (B + 99 * c) := by
  intro c
  induction c with
  | zero => intro g i T B h _; exact h
  | succ c ih =>
    intro g i T B h hB
    show bdT (if g = true then (if n ≤ i then (g, i, T) else _) else (g, i, T)).2.2 _
    cases g
    · exact bd_up h (by omega)
    · rw [if_pos rfl]
      by_cases hi : n ≤ i
      · rw [if_pos hi]; exact bd_up h (by omega)
      · rw [if_neg hi]
        exact bd_up (ih _ _ _ (B + 99) (bd_step hf h (by omega)) (by omega)) (by omega)
theorem bd_mp {f : Nat → Int32} {n : Nat} (hf : okC f n) : bdT (mpS f n).2.2 4000 := by
  unfold mpS mpF
  exact bd_up (bd_loop hf 30 _ _ _ 99 (bd_S (B := 0) hf (fun j => ⟨by decide, by decide⟩) (by decide)) (by decide)) (by decide)
theorem dgU_eq (T : Nat → Int64) : dgU T 7 = degP T 6 := by
  simp only [dgU, degP, ite_self]
theorem fact_num9 {f : Nat → Int32} {n : Nat} (hn : n ≤ 30) (hf : okC f n) : (mpS f n).1 = rpB n (rpS f n 0) ∧ (rpB n (rpS f n 0) = true → (mpS f n).2.2 = (rpS f n 0).2.2 ∧ dgU (rpS f n 0).2.2 7 = degP (rpS f n 0).2.2 6 ∧ bdT (rpS f n 0).2.2 4000) := by
  obtain ⟨h1, h2⟩ := num_main hn hf
  exact ⟨h1, fun h => ⟨h2 h, dgU_eq _, h2 h ▸ bd_mp hf⟩⟩
/-! the product's factors -/
theorem fac_eq {f : Nat → Int32} {n : Nat} (hf : okC f n) (i : Nat) (T : Nat → Int32) : (rfS f n i T).1 = (mfS f n i T).1 ∧ ((rfS f n i T).1 = true → (rfS f n i T).2 = (mfS f n i T).2) := by
  unfold rfS mfS
  rcases h40 : takesP f n i 40 with _ | _
  · simp only [Bool.false_eq_true, if_false]
    exact ⟨trivial, fun h => (by cases h)⟩
  · simp only [if_true]
    rcases h120 : takesP f n (takesN f n i 40) 120 with _ | _
    · simp only [Bool.false_eq_true, if_false]
      exact ⟨trivial, fun h => (by cases h)⟩
    · simp only [if_true]
      generalize takesN f n (takesN f n i 40) 120 = j
      -- behind the x
      have hC : ∀ r q, poss r = true → (if takesP f n q 41 = true then rfC f n r (takesN f n q 41) T else (false, takesN f n q 41, T)).1 = (mfC f n r q T).1 ∧ ((if takesP f n q 41 = true then rfC f n r (takesN f n q 41) T else (false, takesN f n q 41, T)).1 = true → (if takesP f n q 41 = true then rfC f n r (takesN f n q 41) T else (false, takesN f n q 41, T)).2 = (mfC f n r q T).2) := by
        intro r q hr
        unfold mfC rfC
        rcases h41 : takesP f n q 41 with _ | _
        · simp only [Bool.false_eq_true, if_false]
          exact ⟨trivial, fun h => (by cases h)⟩
        · simp only [if_true]
          have er : rix r = (r + 3).toNatClampNeg := by unfold rix; rw [sub_m3]
          rw [← er]
          rcases h94 : takesP f n (takesN f n q 41) 94 with _ | _
          · simp only [Bool.false_eq_true, if_false]
            exact ⟨trivial, fun _ => trivial⟩
          · simp only [if_true]
            have e13 := dg13 hf (takesN f n (takesN f n q 41) 94)
            rcases h13 : is13 f n (takesN f n (takesN f n q 41) 94) with _ | _
            · rw [h13] at e13
              have hm : ¬ (0 : Int32) ≤ -1 := by decide
              rw [dgV_f e13, if_neg hm]
              simp only [Bool.false_eq_true, if_false]
              exact ⟨trivial, fun h => (by cases h)⟩
            · rw [h13] at e13
              obtain ⟨d, hd1, hd3, ed⟩ := is13_v h13
              rw [dgV_t (by decide) e13, dgN_t e13, ed, if_pos ((by decide +kernel : ∀ d, d < 4 → 0 ≤ nI d) d (by omega))]
              simp only [if_true]
              exact ⟨trivial, fun _ => trivial⟩
      have hp4 : poss 4 = false := by decide
      have hp0 : poss 0 = true := by decide
      have hpd : ∀ d, d < 4 → 1 ≤ d → poss (nI d) = true ∧ poss (-nI d) = true ∧ 0 ≤ nI d := by decide +kernel
      unfold rfB mfB mfR rrV rrN
      have hm : ¬ (0 : Int32) ≤ -1 := by decide
      rcases h45 : takesP f n j 45 with _ | _
      · rw [takesN_f h45]
        rcases h43 : takesP f n j 43 with _ | _
        · rw [takesN_f h43, h45]
          simp only [Bool.false_eq_true, if_false, hp0, if_true]
          rw [takesN_f h45]
          exact hC 0 _ hp0
        · simp only [Bool.false_eq_true, if_false, if_true]
          have e13 := dg13 hf (takesN f n j 43)
          rcases h13 : is13 f n (takesN f n j 43) with _ | _
          · rw [h13] at e13
            rw [dgV_f e13, if_neg hm, hp4]
            exact ⟨rfl, fun h => (by cases h)⟩
          · rw [h13] at e13
            obtain ⟨d, hd1, hd3, ed⟩ := is13_v h13
            have k := hpd d (by omega) hd1
            rw [dgV_t (by decide) e13, dgN_t e13, ed, if_pos k.2.2, k.2.1]
            exact hC _ _ k.2.1
      · have h43 := takes_ne (c' := 43) (by decide) h45
        rw [h43, takesN_f h43, h45]
        simp only [Bool.false_eq_true, if_false, if_true]
        have e13 := dg13 hf (takesN f n j 45)
        rcases h13 : is13 f n (takesN f n j 45) with _ | _
        · rw [h13] at e13
          rw [dgV_f e13, if_neg hm, hp4]
          exact ⟨rfl, fun h => (by cases h)⟩
        · rw [h13] at e13
          obtain ⟨d, hd1, hd3, ed⟩ := is13_v h13
          have k := hpd d (by omega) hd1
          rw [dgV_t (by decide) e13, dgN_t e13, ed, if_pos k.2.2, k.1]
          exact hC _ _ k.1
theorem flS_f {f : Nat → Int32} {n c i : Nat} {T : Nat → Int32} : flS f n c false i T = (false, i, T) := by cases c <;> rfl
theorem floop_eq {f : Nat → Int32} {n : Nat} (hf : okC f n) : ∀ (c c' : Nat) (i : Nat) (T : Nat → Int32), n ≤ i + c → n ≤ i + c' → (mgS f n c' true i T).1 = fpB n (flS f n c true i T) ∧ (fpB n (flS f n c true i T) = true → (mgS f n c' true i T).2.2 = (flS f n c true i T).2.2) := by
  intro c
  induction c with
  | zero =>
    intro c' i T h1 h2
    have hi : n ≤ i := h1
    rw [mgS_stop (Or.inr hi)]
    show true = fpB n (true, i, T) ∧ (_ → T = T)
    exact ⟨by unfold fpB; rw [if_pos rfl, if_pos hi], fun _ => rfl⟩
  | succ c ih =>
    intro c' i T h1 h2
    by_cases hi : n ≤ i
    · rw [mgS_stop (Or.inr hi)]
      have e : flS f n (c + 1) true i T = (true, i, T) := by
        show (if true = true then (if n ≤ i then (true, i, T) else _) else _) = _
        rw [if_pos rfl, if_pos hi]
      rw [e]
      exact ⟨by unfold fpB; rw [if_pos rfl, if_pos hi], fun _ => rfl⟩
    · obtain ⟨c'', rfl⟩ : ∃ q, c' = q + 1 := ⟨c' - 1, by omega⟩
      have e1 : flS f n (c + 1) true i T = flS f n c (rfS f n i T).1 (rfS f n i T).2.1 (rfS f n i T).2.2 := by
        show (if true = true then (if n ≤ i then (true, i, T) else _) else _) = _
        rw [if_pos rfl, if_neg hi]
      have e2 : mgS f n (c'' + 1) true i T = mgS f n c'' (mfS f n i T).1 (mfS f n i T).2.1 (mfS f n i T).2.2 := by
        show (if true = true then (if n ≤ i then (true, i, T) else _) else _) = _
        rw [if_pos rfl, if_neg hi]
      rw [e1, e2]
      obtain ⟨s1, s2⟩ := fac_eq hf i T
      rcases h : (mfS f n i T).1 with _ | _
      · rw [h] at s1
        rw [s1, mgS_stop (Or.inl rfl), flS_f]
        exact ⟨rfl, fun h => (by cases h)⟩
      · have hg := mfS_gt h
        rw [h] at s1
        rw [s1, s2 s1]
        exact ih c'' _ _ (by omega) (by omega)
theorem den_main {f : Nat → Int32} {n : Nat} (hn : n ≤ 30) (hf : okC f n) : (mqS f n).1 = fpB n (fpS f n 0) ∧ (fpB n (fpS f n 0) = true → (mqS f n).2.2 = (fpS f n 0).2.2) := by
  unfold mqS fpS
  obtain ⟨s1, s2⟩ := fac_eq hf 0 (fun _ => 0)
  rcases h : (mfS f n 0 (fun _ => 0)).1 with _ | _
  · rw [h] at s1
    rw [s1, mgS_stop (Or.inl rfl), flS_f]
    exact ⟨rfl, fun h => (by cases h)⟩
  · have hg := mfS_gt h
    rw [h] at s1
    rw [s1, s2 s1]
    exact floop_eq hf 29 30 _ _ (by omega) (by omega)
/-! a product of factors x - r is monic, of as many degrees as factors -/
def Mon (f : Nat → Int64) (s : Nat) : Prop := f s = 1 ∧ ∀ j, s < j → f j = 0
theorem Mon.mul {f : Nat → Int64} {s : Nat} (h : Mon f s) (r : Int32) : Mon (mulP f r) (s + 1) := by
  refine ⟨?_, fun j hj => ?_⟩
  · show (if s + 1 = 0 then _ else f (s + 1 - 1) - r.toInt64 * f (s + 1)) = 1
    rw [if_neg (by omega), Nat.add_sub_cancel, h.1, h.2 _ (by omega), Int64.mul_zero]
    decide
  · show (if j = 0 then _ else f (j - 1) - r.toInt64 * f j) = 0
    rw [if_neg (by omega), h.2 _ (by omega), h.2 _ (by omega), Int64.mul_zero]
    decide
theorem Mon.muls {f : Nat → Int64} {s : Nat} (h : Mon f s) (r : Int32) : ∀ k, Mon (mulN f r k) (s + k)
  | 0 => h
  | k + 1 => (Mon.muls h r k).mul r
theorem Mon.one : Mon oneP 0 := ⟨rfl, fun j hj => if_neg (by omega)⟩
theorem Mon.bel (m : Nat → Nat) : ∀ j, Mon (belF m j) (sumN m j)
  | 0 => Mon.one
  | j + 1 => (Mon.bel m j).muls (nI j - 3) (m j)
theorem Mon.deg {f : Nat → Int64} {s : Nat} (h : Mon f s) : ∀ d, s ≤ d → degP f d = s
  | 0, hd => by
    have : s = 0 := by omega
    rw [this]; rfl
  | d + 1, hd => by
    show (if f (d + 1) = 0 then degP f d else d + 1) = s
    by_cases e : s = d + 1
    · rw [← e, h.1, if_neg (by decide)]
    · rw [h.2 _ (by omega), if_pos rfl]
      exact h.deg d (by omega)
theorem fact_den9 {f : Nat → Int32} {n : Nat} (hn : n ≤ 30) (hf : okC f n) : (dnX f n 0 = none ∧ dnF f n = 0 ∧ mOf (mqS f n).2.2 = mOf (fpS f n 0).2.2 ∧ degP (belF (mOf (fpS f n 0).2.2) 7) 6 = sumN (mOf (fpS f n 0).2.2) 7 ∧ sumN (mOf (fpS f n 0).2.2) 7 ≤ 5) ∨ (dnX f n 0 = some nIAE ∧ dnF f n = 1) ∨ (dnX f n 0 = some nISE ∧ dnF f n = 2) := by
  obtain ⟨h1, h2⟩ := den_main hn hf
  unfold dnX dnF
  rw [h1]
  rcases hb : fpB n (fpS f n 0) with _ | _
  · exact Or.inr (Or.inl ⟨rfl, rfl⟩)
  · rw [h2 hb]
    by_cases h5 : sumP (fpS f n 0).2.2 7 ≤ 5
    · have h6 := (sum5_iff f n 0).mp h5
      refine Or.inl ⟨?_, ?_, rfl, (Mon.bel _ 7).deg 6 (by omega), h6⟩
      · simp only [if_true, if_pos h5]
      · simp only [if_true, if_pos h5]
    · refine Or.inr (Or.inr ⟨?_, ?_⟩)
      · simp only [if_true, if_neg h5]
      · simp only [if_true, if_neg h5]
