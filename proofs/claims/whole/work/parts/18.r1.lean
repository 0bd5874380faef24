/-! the ring's side -/
theorem hrn_mix (a b : Int64) (f h : Nat → Int64) (r : Int64) : ∀ n, hrn (mixP a b f h) r n = a * hrn f r n + b * hrn h r n
  | 0 => by show (0 : Int64) = a * 0 + b * 0; grind
  | n + 1 => by
    show mixP a b f h (6 - n) + r * hrn (mixP a b f h) r n = a * (f (6 - n) + r * hrn f r n) + b * (h (6 - n) + r * hrn h r n)
    rw [hrn_mix a b f h r n]
    show (a * f (6 - n) + b * h (6 - n)) + _ = _
    grind
theorem dvP_mix (a b : Int64) (f h : Nat → Int64) (r : Int32) : dvP (mixP a b f h) r = mixP a b (dvP f r) (dvP h r) := funext fun j => hrn_mix a b f h r.toInt64 (6 - j)
theorem dvN_mix (a b : Int64) (f h : Nat → Int64) (r : Int32) : ∀ k, dvN (mixP a b f h) r k = mixP a b (dvN f r k) (dvN h r k)
  | 0 => rfl
  | k + 1 => by
    show dvP (dvN (mixP a b f h) r k) r = mixP a b (dvP (dvN f r k) r) (dvP (dvN h r k) r)
    rw [dvN_mix a b f h r k, dvP_mix]
theorem dvN_dvP (f : Nat → Int64) (r : Int32) : ∀ k, dvN (dvP f r) r k = dvN f r (k + 1)
  | 0 => rfl
  | k + 1 => by
    show dvP (dvN (dvP f r) r k) r = dvP (dvN f r (k + 1)) r
    rw [dvN_dvP f r k]
/-- the k-th coefficient around r -/
def tau (f : Nat → Int64) (r : Int32) (k : Nat) : Int64 := hrn (dvN f r k) r.toInt64 7
theorem tau_mix (a b : Int64) (f h : Nat → Int64) (r : Int32) (k : Nat) : tau (mixP a b f h) r k = a * tau f r k + b * tau h r k := by
  unfold tau
  rw [dvN_mix, hrn_mix]
theorem tau_dvP (f : Nat → Int64) (r : Int32) (k : Nat) : tau (dvP f r) r k = tau f r (k + 1) := by
  unfold tau
  rw [dvN_dvP]
theorem hrn_congr {f h : Nat → Int64} {r : Int64} (e : ∀ j, j ≤ 6 → f j = h j) : ∀ n, hrn f r n = hrn h r n
  | 0 => rfl
  | n + 1 => by
    show f (6 - n) + r * hrn f r n = h (6 - n) + r * hrn h r n
    rw [e _ (by omega), hrn_congr e n]
theorem neg32 : ∀ j, j < 7 → (-(nI j - 3)).toInt64 = -(nI j - 3).toInt64 := by decide +kernel
/-- by its own root: the factor goes out again -/
theorem hrn_mul {f : Nat → Int64} {j0 : Nat} (hj : j0 < 7) (hz : ∀ j, 6 ≤ j → f j = 0) : (∀ n, n ≤ 6 → hrn (mulP f (nI j0 - 3)) (nI j0 - 3).toInt64 n = if n = 0 then 0 else f (6 - n)) ∧ hrn (mulP f (nI j0 - 3)) (nI j0 - 3).toInt64 7 = 0 := by
  have hn := neg32 j0 hj
  generalize hr : (nI j0 - 3).toInt64 = r at hn
  have h1 : ∀ n, n ≤ 6 → hrn (mulP f (nI j0 - 3)) r n = if n = 0 then 0 else f (6 - n) := by
    intro n
    induction n with
    | zero => intro _; rfl
    | succ n ih =>
      intro h6
      show mulP f (nI j0 - 3) (6 - n) + r * hrn (mulP f (nI j0 - 3)) r n = _
      have e0 : (if n + 1 = 0 then (0 : Int64) else f (6 - (n + 1))) = f (6 - (n + 1)) := if_neg (by omega)
      rw [ih (by omega), e0]
      show (if 6 - n = 0 then _ else f (6 - n - 1) - (nI j0 - 3).toInt64 * f (6 - n)) + _ = _
      rw [if_neg (by omega), hr, show 6 - n - 1 = 6 - (n + 1) by omega]
      by_cases h0 : n = 0
      · subst h0
        rw [if_pos rfl, hz (6 - 0) (by omega)]
        grind
      · rw [if_neg h0]
        grind
  refine ⟨h1, ?_⟩
  show mulP f (nI j0 - 3) (6 - 6) + r * hrn (mulP f (nI j0 - 3)) r 6 = 0
  rw [h1 6 (by omega), if_neg (by decide)]
  show (if 6 - 6 = 0 then (-(nI j0 - 3)).toInt64 * f 0 else _) + r * f 0 = 0
  rw [if_pos rfl, hn]
  grind
theorem dvP_mul {f : Nat → Int64} {j0 : Nat} (hj : j0 < 7) (hz : ∀ j, 6 ≤ j → f j = 0) : dvP (mulP f (nI j0 - 3)) (nI j0 - 3) = f := by
  funext j
  show hrn _ _ (6 - j) = f j
  rw [(hrn_mul hj hz).1 _ (by omega)]
  by_cases h : 6 - j = 0
  · rw [if_pos h, hz j (by omega)]
  · rw [if_neg h, show 6 - (6 - j) = j by omega]
theorem mul_mix {f : Nat → Int64} {i0 j0 : Nat} (hi : i0 < 7) (hj : j0 < 7) : mulP f (nI i0 - 3) = mixP 1 ((nI j0 - 3).toInt64 - (nI i0 - 3).toInt64) (mulP f (nI j0 - 3)) f := by
  funext j
  show (if j = 0 then (-(nI i0 - 3)).toInt64 * f 0 else f (j - 1) - (nI i0 - 3).toInt64 * f j) = 1 * (if j = 0 then (-(nI j0 - 3)).toInt64 * f 0 else f (j - 1) - (nI j0 - 3).toInt64 * f j) + _ * f j
  by_cases h : j = 0
  · subst h
    rw [if_pos rfl, if_pos rfl, neg32 i0 hi, neg32 j0 hj]
    grind
  · rw [if_neg h, if_neg h]
    grind
theorem tau_mul {f : Nat → Int64} {i0 j0 : Nat} (hi : i0 < 7) (hj : j0 < 7) (hz : ∀ j, 6 ≤ j → f j = 0) (k : Nat) : tau (mulP f (nI i0 - 3)) (nI j0 - 3) k = (if k = 0 then 0 else tau f (nI j0 - 3) (k - 1)) - ((nI i0 - 3).toInt64 - (nI j0 - 3).toInt64) * tau f (nI j0 - 3) k := by
  rw [mul_mix hi hj, tau_mix]
  have e : tau (mulP f (nI j0 - 3)) (nI j0 - 3) k = if k = 0 then 0 else tau f (nI j0 - 3) (k - 1) := by
    cases k with
    | zero => exact (hrn_mul hj hz).2
    | succ k =>
      rw [if_neg (by omega), Nat.add_sub_cancel, ← tau_dvP, dvP_mul hj hz]
  rw [e]
  grind
theorem sub32 : ∀ i, i < 7 → ∀ j, j < 7 → (nI i - 3 - (nI j - 3)).toInt64 = (nI i - 3).toInt64 - (nI j - 3).toInt64 ∧ (-(nI i - 3 - (nI j - 3))).toInt64 = -((nI i - 3).toInt64 - (nI j - 3).toInt64) := by decide +kernel
theorem tau_mulN {f : Nat → Int64} {s i0 j0 : Nat} (hi : i0 < 7) (hj : j0 < 7) (hM : Mon f s) : ∀ t, s + t ≤ 6 → (fun k => tau (mulN f (nI i0 - 3) t) (nI j0 - 3) k) = mulN (fun k => tau f (nI j0 - 3) k) (nI i0 - 3 - (nI j0 - 3)) t
  | 0, _ => rfl
  | t + 1, h => by
    have ih := tau_mulN hi hj hM t (by omega)
    have hz : ∀ j, 6 ≤ j → mulN f (nI i0 - 3) t j = 0 := fun j hj9 => (hM.muls (nI i0 - 3) t).2 j (by omega)
    obtain ⟨e1, e2⟩ := sub32 i0 hi j0 hj
    funext k
    show tau (mulP (mulN f (nI i0 - 3) t) (nI i0 - 3)) (nI j0 - 3) k = mulP (mulN (fun k => tau f (nI j0 - 3) k) (nI i0 - 3 - (nI j0 - 3)) t) (nI i0 - 3 - (nI j0 - 3)) k
    rw [← ih, tau_mul hi hj hz]
    show _ = if k = 0 then (-(nI i0 - 3 - (nI j0 - 3))).toInt64 * tau (mulN f (nI i0 - 3) t) (nI j0 - 3) 0 else tau (mulN f (nI i0 - 3) t) (nI j0 - 3) (k - 1) - (nI i0 - 3 - (nI j0 - 3)).toInt64 * tau (mulN f (nI i0 - 3) t) (nI j0 - 3) k
    rw [e1, e2]
    by_cases h0 : k = 0
    · subst h0
      rw [if_pos rfl, if_pos rfl]
      grind
    · rw [if_neg h0, if_neg h0]
theorem hrn_z {f : Nat → Int64} {r : Int64} {k : Nat} (hz : ∀ j, 6 < j + k → j ≤ 6 → f j = 0) : ∀ n, n ≤ k → n ≤ 7 → hrn f r n = 0
  | 0, _, _ => rfl
  | n + 1, h, h7 => by
    show f (6 - n) + r * hrn f r n = 0
    rw [hz _ (by omega) (by omega), hrn_z hz n (by omega) (by omega)]
    grind
theorem dvN_z (f : Nat → Int64) (r : Int32) : ∀ k, k ≤ 7 → ∀ j, 6 < j + k → j ≤ 6 → dvN f r k j = 0
  | 0, _, j, h1, h2 => absurd h1 (by omega)
  | k + 1, h7, j, h1, h2 => hrn_z (k := k) (fun q h3 h4 => dvN_z f r k (by omega) q h3 h4) (6 - j) (by omega) (by omega)
theorem tau_one (r : Int32) (k : Nat) : tau oneP r k = oneP k := by
  have e0 : dvP oneP r = fun _ => 0 := by
    funext j
    exact hrn_z (f := oneP) (k := 6) (fun q h1 h2 => if_neg (by omega)) (6 - j) (by omega) (by omega)
  have e1 : ∀ n, hrn (fun _ => 0) r.toInt64 n = 0 := fun n => by
    induction n with
    | zero => rfl
    | succ n ih => show (0 : Int64) + r.toInt64 * hrn (fun _ => 0) r.toInt64 n = 0; rw [ih]; grind
  have e2 : ∀ k, dvN (fun _ => 0) r k = fun _ => 0 := fun k => by
    induction k with
    | zero => rfl
    | succ k ih => show dvP (dvN (fun _ => 0) r k) r = _; rw [ih]; funext j; exact e1 _
  cases k with
  | zero =>
    show oneP (6 - 6) + r.toInt64 * hrn oneP r.toInt64 6 = 1
    rw [hrn_z (f := oneP) (k := 6) (fun q h1 h2 => if_neg (by omega)) 6 (by omega) (by omega)]
    show (1 : Int64) + _ = 1
    grind
  | succ k =>
    rw [← tau_dvP, e0]
    unfold tau
    rw [e2, e1]
    rfl
theorem Mon.oth (m : Nat → Nat) (r : Int32) : ∀ j, Mon (othF m r j) (sumN (othT m r) j)
  | 0 => Mon.one
  | j + 1 => (Mon.oth m r j).muls (nI j - 3) (othT m r j)
theorem oth_le (m : Nat → Nat) (r : Int32) : ∀ j, sumN (othT m r) j ≤ sumN m j
  | 0 => Nat.le_refl _
  | j + 1 => by
    have h := oth_le m r j
    show sumN (othT m r) j + othT m r j ≤ sumN m j + m j
    have : othT m r j ≤ m j := by unfold othT; split <;> omega
    omega
theorem sumN_mono {m : Nat → Nat} : ∀ {i j}, i ≤ j → sumN m i ≤ sumN m j := by
  intro i j h
  induction h with
  | refl => exact Nat.le_refl _
  | step _ ih => exact Nat.le_trans ih (Nat.le_add_right _ _)
theorem rs_tau {m : Nat → Nat} (hs : sumN m 7 ≤ 5) {j0 : Nat} (hj : j0 < 7) : ∀ j, j ≤ 7 → (fun k => tau (othF m (nI j0 - 3) j) (nI j0 - 3) k) = rsF m (nI j0 - 3) j
  | 0, _ => by funext k; exact tau_one _ k
  | j + 1, h => by
    have ih := rs_tau hs hj j (by omega)
    have h1 : sumN (othT m (nI j0 - 3)) (j + 1) ≤ 5 := Nat.le_trans (oth_le m _ (j + 1)) (Nat.le_trans (sumN_mono h) hs)
    show (fun k => tau (mulN (othF m (nI j0 - 3) j) (nI j - 3) (othT m (nI j0 - 3) j)) (nI j0 - 3) k) = mulN (rsF m (nI j0 - 3) j) (nI j - 3 - (nI j0 - 3)) (othT m (nI j0 - 3) j)
    rw [tau_mulN (by omega) hj (Mon.oth m (nI j0 - 3) j) _ (by have h2 : sumN (othT m (nI j0 - 3)) j + othT m (nI j0 - 3) j ≤ 5 := h1; omega), ih]
/-! the reference's table around r -/
theorem arI_spec {r : Int64} {k : Nat} {h : Nat → Int64} : ∀ (c : Nat) (N : Nat → Int64), k + c ≤ 6 → (∀ d, c ≤ d → k + d ≤ 6 → N (k + d) = hrn h r (7 - d)) → (∀ d, d < c → N (k + d) = h d) → (∀ d, k + d ≤ 6 → arI r k c N (k + d) = hrn h r (7 - d)) ∧ ∀ q, q < k → arI r k c N q = N q
  | 0, N, _, h1, _ => ⟨fun d hd => h1 d (Nat.zero_le _) hd, fun _ _ => rfl⟩
  | c + 1, N, hc, h1, h2 => by
    have e : vp_updL N (k + c) (N (k + c) + r * N (k + c + 1)) (k + c) = hrn h r (7 - c) := by
      unfold vp_updL
      rw [if_pos rfl, h2 c (by omega), show k + c + 1 = k + (c + 1) by omega, h1 (c + 1) (Nat.le_refl _) hc, show 7 - c = (7 - (c + 1)) + 1 by omega]
      show _ = h (6 - (7 - (c + 1))) + _
      rw [show 6 - (7 - (c + 1)) = c by omega]
    obtain ⟨a1, a2⟩ := arI_spec (r := r) (k := k) (h := h) c (vp_updL N (k + c) (N (k + c) + r * N (k + c + 1))) (by omega) (fun d hd1 hd2 => by
      by_cases q : d = c
      · subst q; exact e
      · unfold vp_updL
        rw [if_neg (by omega)]
        exact h1 d (by omega) hd2) (fun d hd => by
      unfold vp_updL
      rw [if_neg (by omega)]
      exact h2 d (by omega))
    refine ⟨a1, fun q hq => (a2 q hq).trans ?_⟩
    unfold vp_updL
    rw [if_neg (by omega)]
theorem arO_spec (F : Nat → Int64) (r : Int32) : ∀ k, k ≤ 6 → (∀ j, j < k → arO r.toInt64 F k j = tau F r j) ∧ ∀ c, k + c ≤ 6 → arO r.toInt64 F k (k + c) = dvN F r k c
  | 0, _ => ⟨fun j hj => absurd hj (Nat.not_lt_zero _), fun c _ => by rw [Nat.zero_add]; rfl⟩
  | k + 1, hk => by
    obtain ⟨i1, i2⟩ := arO_spec F r k (by omega)
    obtain ⟨a1, a2⟩ := arI_spec (r := r.toInt64) (k := k) (h := dvN F r k) (6 - k) (arO r.toInt64 F k) (by omega) (fun d h1 h2 => by
      obtain rfl : d = 6 - k := by omega
      rw [i2 _ (by omega), show 7 - (6 - k) = k + 1 by omega]
      show _ = dvN F r k (6 - k) + r.toInt64 * hrn (dvN F r k) r.toInt64 k
      rw [hrn_z (k := k) (fun q h3 h4 => dvN_z F r k (by omega) q h3 h4) k (Nat.le_refl _) (by omega)]
      grind) (fun d hd => i2 d (by omega))
    refine ⟨fun j hj => ?_, fun c hc => ?_⟩
    · by_cases e : j = k
      · subst e
        exact a1 0 (by omega)
      · exact (a2 j (by omega)).trans (i1 j (by omega))
    · have := a1 (c + 1) (by omega)
      rw [show k + (c + 1) = k + 1 + c by omega] at this
      refine this.trans ?_
      show hrn (dvN F r k) r.toInt64 (7 - (c + 1)) = hrn (dvN F r k) r.toInt64 (6 - c)
      rw [show 7 - (c + 1) = 6 - c by omega]
/-! the desk's rest after n steps -/
def RS (g0 : Int64) (o : Nat → Int64) (r : Int32) (R : Nat → Int64) : Nat → Nat → Int64
  | 0 => R
  | n + 1 => mixP g0 (-(hrn (RS g0 o r R n) r.toInt64 7)) (dvP (RS g0 o r R n) r) o
theorem RS_1 (g0 : Int64) (o : Nat → Int64) (r : Int32) (R : Nat → Int64) : ∀ n, RS g0 o r (mixP g0 (-(hrn R r.toInt64 7)) (dvP R r) o) n = RS g0 o r R (n + 1)
  | 0 => rfl
  | n + 1 => by
    show mixP g0 (-(hrn (RS g0 o r (mixP g0 (-(hrn R r.toInt64 7)) (dvP R r) o) n) r.toInt64 7)) (dvP (RS g0 o r (mixP g0 (-(hrn R r.toInt64 7)) (dvP R r) o) n) r) o = _
    rw [RS_1 g0 o r R n]
    rfl
theorem pwM_1 (s g0 : Int64) : ∀ n, pwM (s * g0) g0 n = pwM s g0 (n + 1)
  | 0 => rfl
  | n + 1 => by show pwM (s * g0) g0 n * g0 = _; rw [pwM_1 s g0 n]; rfl
theorem RS_tau (g F : Nat → Int64) (r : Int32) (n k : Nat) : tau (RS (tau g r 0) (dvP g r) r F (n + 1)) r k = tau g r 0 * tau (RS (tau g r 0) (dvP g r) r F n) r (k + 1) - tau (RS (tau g r 0) (dvP g r) r F n) r 0 * tau g r (k + 1) := by
  show tau (mixP _ _ _ _) r k = _
  rw [tau_mix, tau_dvP, tau_dvP, show hrn (RS (tau g r 0) (dvP g r) r F n) r.toInt64 7 = tau (RS (tau g r 0) (dvP g r) r F n) r 0 from rfl]
  grind
theorem rwF_st (N G : Nat → Int64) (q : Nat) : ∀ n, q < n → rwF N G (fun _ => 0) n q = wkX N G q
  | 0, h => absurd h (Nat.not_lt_zero _)
  | n + 1, h => by
    by_cases e : q = n
    · subst e; rfl
    · show vp_updL (rwF N G (fun _ => 0) n) n _ q = _
      unfold vp_updL
      rw [if_neg e]
      exact rwF_st N G q n (by omega)
theorem wkX_rec (N G : Nat → Int64) (n : Nat) : wkX N G n = wkV G (wkX N G) n (pwM (N n) (G 0) n) n := by
  show vp_updL (rwF N G (fun _ => 0) n) n (wkV G (rwF N G (fun _ => 0) n) n (pwM (N n) (G 0) n) n) n = _
  unfold vp_updL
  rw [if_pos rfl]
  exact wkV_congr (fun q hq => rwF_st N G q n hq) n (Nat.le_refl _)
theorem wkX_5 {N G : Nat → Int64} {U : Nat → Nat → Int64} (h0 : ∀ k, k ≤ 4 → U 0 k = N k) (hU : ∀ n k, U (n + 1) k = G 0 * U n (k + 1) - U n 0 * G (k + 1)) : ∀ n, n ≤ 4 → wkX N G n = U n 0 := by
  have e0 : wkX N G 0 = U 0 0 := by
    rw [wkX_rec]
    simp only [wkV, pwM]
    exact (h0 0 (by omega)).symm
  have e1 : wkX N G 1 = U 1 0 := by
    rw [wkX_rec]
    simp only [wkV, pwM]
    rw [show 1 - (0 + 1) = 0 from rfl, e0]
    simp only [hU, h0 0 (by omega), h0 1 (by omega), Nat.zero_add]
    grind
  have e2 : wkX N G 2 = U 2 0 := by
    rw [wkX_rec]
    simp only [wkV, pwM]
    rw [show 2 - (0 + 1) = 1 from rfl, show 2 - (1 + 1) = 0 from rfl, e0, e1]
    simp only [hU, h0 0 (by omega), h0 1 (by omega), h0 2 (by omega), Nat.zero_add, Nat.reduceAdd]
    grind
  have e3 : wkX N G 3 = U 3 0 := by
    rw [wkX_rec]
    simp only [wkV, pwM]
    rw [show 3 - (0 + 1) = 2 from rfl, show 3 - (1 + 1) = 1 from rfl, show 3 - (2 + 1) = 0 from rfl, e0, e1, e2]
    simp only [hU, h0 0 (by omega), h0 1 (by omega), h0 2 (by omega), h0 3 (by omega), Nat.zero_add, Nat.reduceAdd]
    grind
  have e4 : wkX N G 4 = U 4 0 := by
    rw [wkX_rec]
    simp only [wkV, pwM]
    rw [show 4 - (0 + 1) = 3 from rfl, show 4 - (1 + 1) = 2 from rfl, show 4 - (2 + 1) = 1 from rfl, show 4 - (3 + 1) = 0 from rfl, e0, e1, e2, e3]
    simp only [hU, h0 0 (by omega), h0 1 (by omega), h0 2 (by omega), h0 3 (by omega), h0 4 (by omega), Nat.zero_add, Nat.reduceAdd]
    grind
  intro n hn
  rcases (show n = 0 ∨ n = 1 ∨ n = 2 ∨ n = 3 ∨ n = 4 by omega) with rfl | rfl | rfl | rfl | rfl
  · exact e0
  · exact e1
  · exact e2
  · exact e3
  · exact e4
theorem wk_desk {m : Nat → Nat} (hs : sumN m 7 ≤ 5) {j0 : Nat} (hj : j0 < 7) (F : Nat → Int64) {n : Nat} (hn : n ≤ 4) : hrn (RS (hrn (othF m (nI j0 - 3) 7) (nI j0 - 3).toInt64 7) (dvP (othF m (nI j0 - 3) 7) (nI j0 - 3)) (nI j0 - 3) F n) (nI j0 - 3).toInt64 7 = wkA F m (nI j0 - 3) n ∧ hrn (othF m (nI j0 - 3) 7) (nI j0 - 3).toInt64 7 = rsF m (nI j0 - 3) 7 0 := by
  have hg : ∀ k, rsF m (nI j0 - 3) 7 k = tau (othF m (nI j0 - 3) 7) (nI j0 - 3) k := fun k => (congrFun (rs_tau hs hj 7 (Nat.le_refl _)) k).symm
  refine ⟨?_, (hg 0).symm⟩
  have h := wkX_5 (N := arO (nI j0 - 3).toInt64 F 6) (G := rsF m (nI j0 - 3) 7) (U := fun n k => tau (RS (tau (othF m (nI j0 - 3) 7) (nI j0 - 3) 0) (dvP (othF m (nI j0 - 3) 7) (nI j0 - 3)) (nI j0 - 3) F n) (nI j0 - 3) k) (fun k hk => ((arO_spec F (nI j0 - 3) 6 (Nat.le_refl _)).1 k (by omega)).symm) (fun n k => by rw [hg, hg]; exact RS_tau _ _ _ _ _) n hn
  exact h.symm
/-! the division -/
def cv (B Q : Nat → Int64) (j : Nat) : Nat → Int64
  | 0 => B 0 * Q j
  | i + 1 => cv B Q j i + B (i + 1) * Q (j - (i + 1))
theorem dvP_back (f : Nat → Int64) (r : Int32) {j : Nat} (h1 : 1 ≤ j) (h6 : j ≤ 6) : f j = dvP f r (j - 1) - r.toInt64 * dvP f r j := by
  show f j = hrn f r.toInt64 (6 - (j - 1)) - r.toInt64 * hrn f r.toInt64 (6 - j)
  rw [show 6 - (j - 1) = (6 - j) + 1 by omega]
  show f j = (f (6 - (6 - j)) + r.toInt64 * hrn f r.toInt64 (6 - j)) - _
  rw [show 6 - (6 - j) = j by omega]
  grind
theorem cv_mul {B Q : Nat → Int64} {j0 : Nat} (hj0 : j0 < 7) {j : Nat} (h6 : j ≤ 6) : ∀ i, i + 1 ≤ j → cv (mulP B (nI j0 - 3)) (dvP Q (nI j0 - 3)) j (i + 1) = cv B Q j i - (nI j0 - 3).toInt64 * B (i + 1) * dvP Q (nI j0 - 3) (j - (i + 1))
  | 0, h => by
    have e := dvP_back Q (nI j0 - 3) (j := j) (by omega) h6
    show (-(nI j0 - 3)).toInt64 * B 0 * dvP Q (nI j0 - 3) j + (B (1 - 1) - (nI j0 - 3).toInt64 * B 1) * dvP Q (nI j0 - 3) (j - 1) = B 0 * Q j - (nI j0 - 3).toInt64 * B 1 * dvP Q (nI j0 - 3) (j - 1)
    rw [neg32 j0 hj0, e, show 1 - 1 = 0 from rfl]
    grind
  | i + 1, h => by
    have ih := cv_mul (B := B) (Q := Q) hj0 h6 i (by omega)
    have e := dvP_back Q (nI j0 - 3) (j := j - (i + 1)) (by omega) (by omega)
    show cv (mulP B (nI j0 - 3)) (dvP Q (nI j0 - 3)) j (i + 1) + (B (i + 1 + 1 - 1) - (nI j0 - 3).toInt64 * B (i + 1 + 1)) * dvP Q (nI j0 - 3) (j - (i + 1 + 1)) = (cv B Q j i + B (i + 1) * Q (j - (i + 1))) - (nI j0 - 3).toInt64 * B (i + 1 + 1) * dvP Q (nI j0 - 3) (j - (i + 1 + 1))
    rw [ih, e, show i + 1 + 1 - 1 = i + 1 by omega, show j - (i + 1) - 1 = j - (i + 1 + 1) by omega]
    grind
def Dv (F B Q : Nat → Int64) (s : Nat) : Prop := Mon B s ∧ (∀ j, s ≤ j → j ≤ 6 → F j = cv B Q j s) ∧ ∀ j, 6 < j + s → j ≤ 6 → Q j = 0
theorem Dv.step {F B Q : Nat → Int64} {s j0 : Nat} (hj0 : j0 < 7) (hs : s + 1 ≤ 6) (h : Dv F B Q s) : Dv F (mulP B (nI j0 - 3)) (dvP Q (nI j0 - 3)) (s + 1) := by
  obtain ⟨h1, h2, h3⟩ := h
  refine ⟨h1.mul _, fun j hj h6 => ?_, fun j hj h6 => hrn_z (k := s) (fun q a b => h3 q a b) (6 - j) (by omega) (by omega)⟩
  rw [cv_mul hj0 h6 s hj, h1.2 (s + 1) (by omega), h2 j (by omega) h6]
  grind
theorem Dv.steps {F B Q : Nat → Int64} {s j0 : Nat} (hj0 : j0 < 7) (h : Dv F B Q s) : ∀ k, s + k ≤ 6 → Dv F (mulN B (nI j0 - 3) k) (dvN Q (nI j0 - 3) k) (s + k)
  | 0, _ => h
  | k + 1, hk => (Dv.steps hj0 h k (by omega)).step hj0 hk
theorem Dv.all {m : Nat → Nat} (hs : sumN m 7 ≤ 5) (F : Nat → Int64) : ∀ j, j ≤ 7 → Dv F (belF m j) (quoF m F j) (sumN m j)
  | 0, _ => ⟨Mon.one, fun j _ _ => by show F j = 1 * F j; grind, fun j h1 h2 => absurd h1 (by show ¬ 6 < j + 0; omega)⟩
  | j + 1, h => (Dv.all hs F j (by omega)).steps (by omega) (m j) (by have := sumN_mono (m := m) h; have e : sumN m (j + 1) = sumN m j + m j := rfl; omega)
def tm (B Q : Nat → Int64) (c j i : Nat) : Int64 := if j - i < c then B i * Q (j - i) else 0
def sm (B Q : Nat → Int64) (c j : Nat) : Nat → Int64
  | 0 => tm B Q c j 0
  | i + 1 => sm B Q c j i + tm B Q c j (i + 1)
theorem tm_full {B Q : Nat → Int64} {c j i : Nat} (hQ : ∀ q, c ≤ q → q ≤ 6 → Q q = 0) (h6 : j ≤ 6) : tm B Q c j i = B i * Q (j - i) := by
  unfold tm
  by_cases h : j - i < c
  · rw [if_pos h]
  · rw [if_neg h, hQ _ (by omega) (by omega)]
    grind
theorem sm_full {B Q : Nat → Int64} {c j : Nat} (hQ : ∀ q, c ≤ q → q ≤ 6 → Q q = 0) (h6 : j ≤ 6) : ∀ i, sm B Q c j i = cv B Q j i
  | 0 => tm_full hQ h6
  | i + 1 => by
    show sm B Q c j i + tm B Q c j (i + 1) = cv B Q j i + B (i + 1) * Q (j - (i + 1))
    rw [sm_full hQ h6 i, tm_full hQ h6]
theorem tm_step (B Q : Nat → Int64) (c : Nat) {j i : Nat} (h : i ≤ j) : tm B Q (c + 1) j i = tm B Q c j i + if c + i = j then B i * Q c else 0 := by
  unfold tm
  by_cases h1 : c + i = j
  · rw [if_pos h1, if_pos (by omega), if_neg (by omega), show j - i = c by omega]
    grind
  · rw [if_neg h1]
    by_cases h2 : j - i < c
    · rw [if_pos h2, if_pos (by omega)]; grind
    · rw [if_neg h2, if_neg (by omega)]; grind
theorem sm_step (B Q : Nat → Int64) (c : Nat) {j : Nat} : ∀ i, i ≤ j → sm B Q (c + 1) j i = sm B Q c j i + if c ≤ j ∧ j - c ≤ i then B (j - c) * Q c else 0
  | 0, h => by
    show tm B Q (c + 1) j 0 = tm B Q c j 0 + _
    rw [tm_step B Q c h]
    by_cases h1 : c + 0 = j
    · rw [if_pos h1, if_pos (by omega), show j - c = 0 by omega]
    · rw [if_neg h1, if_neg (by omega)]
  | i + 1, h => by
    show sm B Q (c + 1) j i + tm B Q (c + 1) j (i + 1) = sm B Q c j i + tm B Q c j (i + 1) + _
    rw [sm_step B Q c i (by omega), tm_step B Q c h]
    by_cases h1 : c ≤ j ∧ j - c ≤ i
    · rw [if_pos h1, if_neg (by omega), if_pos (by omega)]; grind
    · rw [if_neg h1]
      by_cases h2 : c + (i + 1) = j
      · rw [if_pos h2, if_pos (by omega), show j - c = i + 1 by omega]; grind
      · rw [if_neg h2, if_neg (by omega)]; grind
theorem sm_zero {B Q : Nat → Int64} {c s : Nat} : ∀ i, i < s → sm B Q (c + 1) (s + c) i = 0
  | 0, h => if_neg (by omega)
  | i + 1, h => by
    show sm B Q (c + 1) (s + c) i + tm B Q (c + 1) (s + c) (i + 1) = 0
    rw [sm_zero i (by omega)]
    unfold tm
    rw [if_neg (by omega)]
    decide
theorem sm_last {B Q : Nat → Int64} {c : Nat} : ∀ s, sm B Q (c + 1) (s + c) s = B s * Q c
  | 0 => by
    show tm B Q (c + 1) (0 + c) 0 = _
    unfold tm
    rw [if_pos (by omega), show 0 + c - 0 = c by omega]
  | s + 1 => by
    show sm B Q (c + 1) (s + 1 + c) s + tm B Q (c + 1) (s + 1 + c) (s + 1) = _
    rw [sm_zero s (by omega)]
    unfold tm
    rw [if_pos (by omega), show s + 1 + c - (s + 1) = c by omega]
    grind
theorem dvO_spec {B Q : Nat → Int64} {s : Nat} (hB : B s = 1) : ∀ (c : Nat) (N Qq : Nat → Int64), (∀ j, s ≤ j → j < s + c → N j = sm B Q c j s) → ∀ q, (dvO B s c N Qq).2 q = if q < c then Q q else Qq q
  | 0, N, Qq, _, q => (if_neg (by omega)).symm
  | c + 1, N, Qq, h, q => by
    have e0 : N (s + c) = Q c := by
      rw [h _ (by omega) (by omega), sm_last, hB]
      grind
    show (dvO B s c (dvI B (N (s + c)) c N (s + 1)) (vp_updL Qq c (N (s + c)))).2 q = _
    rw [e0, dvO_spec (Q := Q) hB c _ _ (fun j h1 h2 => by
      unfold dvI
      rw [h j h1 (by omega), sm_step B Q c s h1]
      by_cases hc : c ≤ j ∧ j - c ≤ s
      · rw [if_pos hc, if_pos (by omega)]; grind
      · rw [if_neg hc, if_neg (by omega)]; grind)]
    by_cases h1 : q < c
    · rw [if_pos h1, if_pos (by omega)]
    · rw [if_neg h1]
      unfold vp_updL
      by_cases h2 : q = c
      · rw [if_pos h2, if_pos (by omega), h2]
      · rw [if_neg h2, if_neg (by omega)]
theorem quo_eq {m : Nat → Nat} (hs : sumN m 7 ≤ 5) (F : Nat → Int64) {q : Nat} (h6 : q ≤ 6) : (dvD (belF m 7) (sumN m 7) F).2 q = quoF m F 7 q := by
  obtain ⟨h1, h2, h3⟩ := Dv.all hs F 7 (Nat.le_refl _)
  unfold dvD
  rw [dvO_spec (Q := quoF m F 7) h1.1 (7 - sumN m 7) F (fun _ => 0) (fun j a b => by
    rw [sm_full (fun q c d => h3 q (by omega) d) (by omega)]
    exact h2 j a (by omega))]
  by_cases h : q < 7 - sumN m 7
  · rw [if_pos h]
  · rw [if_neg h, h3 q (by omega) h6]
/-! what the desk keeps -/
theorem kp_at {A : Nat → Int64} {j i : Nat} {v : Int64} (hj : j < 7) (hi : i < 5) : kpP A (nI j - 3) (nI (i + 1)) v = vp_updL A (j * 5 + i) v := by
  unfold kpP
  rw [plc_at hj hi, if_neg (nI_pos (by omega)), nI_clamp (by omega)]
theorem pa_at {A : Nat → Int64} {e : Int64} {j i : Nat} (hj : j < 7) (hi : i < 5) : paP A e (nI j - 3) (nI (i + 1)) = A (j * 5 + i) := by
  unfold paP
  rw [plc_at hj hi, if_pos (Int32.not_lt.mp (nI_pos (by omega))), nI_clamp (by omega)]
theorem mkL_spec {g0 : Int64} {o : Nat → Int64} {j : Nat} (hj : j < 7) : ∀ (t : Nat) (R : Nat → Int64) (s : Int64) (A B : Nat → Int64), t ≤ 5 →
    (∀ i, i < t → (mkL g0 o (nI j - 3) t R s A B).2.1 (j * 5 + i) = lowP (hrn (RS g0 o (nI j - 3) R (t - 1 - i)) (nI j - 3).toInt64 7) (pwM s g0 (t - i)) 0 ∧ (mkL g0 o (nI j - 3) t R s A B).2.2 (j * 5 + i) = lowP (hrn (RS g0 o (nI j - 3) R (t - 1 - i)) (nI j - 3).toInt64 7) (pwM s g0 (t - i)) 1) ∧ ∀ q, (q < j * 5 ∨ j * 5 + t ≤ q) → (mkL g0 o (nI j - 3) t R s A B).2.1 q = A q ∧ (mkL g0 o (nI j - 3) t R s A B).2.2 q = B q
  | 0, R, s, A, B, _ => ⟨fun i hi => absurd hi (Nat.not_lt_zero _), fun q _ => ⟨rfl, rfl⟩⟩
  | t + 1, R, s, A, B, ht => by
    obtain ⟨h1, h2⟩ := mkL_spec (g0 := g0) (o := o) hj t (mixP g0 (-(hrn R (nI j - 3).toInt64 7)) (dvP R (nI j - 3)) o) (s * g0) (kpP A (nI j - 3) (nI (t + 1)) (lowP (hrn R (nI j - 3).toInt64 7) (s * g0) 0)) (kpP B (nI j - 3) (nI (t + 1)) (lowP (hrn R (nI j - 3).toInt64 7) (s * g0) 1)) (by omega)
    have e : mkL g0 o (nI j - 3) (t + 1) R s A B = mkL g0 o (nI j - 3) t (mixP g0 (-(hrn R (nI j - 3).toInt64 7)) (dvP R (nI j - 3)) o) (s * g0) (kpP A (nI j - 3) (nI (t + 1)) (lowP (hrn R (nI j - 3).toInt64 7) (s * g0) 0)) (kpP B (nI j - 3) (nI (t + 1)) (lowP (hrn R (nI j - 3).toInt64 7) (s * g0) 1)) := rfl
    rw [e]
    refine ⟨fun i hi => ?_, fun q hq => ?_⟩
    · by_cases hit : i = t
      · subst hit
        obtain ⟨a, b⟩ := h2 (j * 5 + i) (Or.inr (Nat.le_refl _))
        rw [a, b, kp_at hj (by omega), kp_at hj (by omega), show i + 1 - 1 - i = 0 by omega, show i + 1 - i = 1 by omega]
        unfold vp_updL
        rw [if_pos rfl]
        exact ⟨rfl, if_pos rfl⟩
      · obtain ⟨a, b⟩ := h1 i (by omega)
        rw [a, b, RS_1, pwM_1, show t - 1 - i + 1 = t + 1 - 1 - i by omega, show t - i + 1 = t + 1 - i by omega]
        exact ⟨rfl, rfl⟩
    · obtain ⟨a, b⟩ := h2 q (by omega)
      rw [a, b, kp_at hj (by omega), kp_at hj (by omega)]
      unfold vp_updL
      rw [if_neg (by omega)]
      exact ⟨rfl, if_neg (by omega)⟩
theorem tk_spec {m : Nat → Nat} (hm : ∀ j, j < 7 → m j ≤ 5) (hs : sumN m 7 ≤ 5) (F R O : Nat → Int64) : ∀ j, j ≤ 7 → ∀ j', j' < j → ∀ i, i < m j' → (tkS m F R O j).1 (j' * 5 + i) = lowP (wkA F m (nI j' - 3) (m j' - 1 - i)) (wkB m (nI j' - 3) (m j' - 1 - i)) 0 ∧ (tkS m F R O j).2.1 (j' * 5 + i) = lowP (wkA F m (nI j' - 3) (m j' - 1 - i)) (wkB m (nI j' - 3) (m j' - 1 - i)) 1
  | 0, _, j', h, _, _ => absurd h (Nat.not_lt_zero _)
  | j + 1, h7, j', h, i, hi => by
    have h5 := hm j' (by omega)
    have hj5 := hm j (by omega)
    obtain ⟨a1, a2⟩ := mkL_spec (g0 := hrn (othF m (nI j - 3) 7) (nI j - 3).toInt64 7) (o := dvP (othF m (nI j - 3) 7) (nI j - 3)) (show j < 7 by omega) (m j) F 1 (tkS m F R O j).1 (tkS m F R O j).2.1 hj5
    have e : mkP m F (nI j - 3) (tkS m F R O j).1 (tkS m F R O j).2.1 = mkL (hrn (othF m (nI j - 3) 7) (nI j - 3).toInt64 7) (dvP (othF m (nI j - 3) 7) (nI j - 3)) (nI j - 3) (m j) F 1 (tkS m F R O j).1 (tkS m F R O j).2.1 := by
      unfold mkP
      rw [manyP_rt (show j < 7 by omega)]
    show (mkP m F (nI j - 3) (tkS m F R O j).1 (tkS m F R O j).2.1).2.1 _ = _ ∧ (mkP m F (nI j - 3) (tkS m F R O j).1 (tkS m F R O j).2.1).2.2 _ = _
    rw [e]
    by_cases hjj : j' = j
    · subst hjj
      obtain ⟨b1, b2⟩ := a1 i hi
      obtain ⟨w1, w2⟩ := wk_desk hs (show j' < 7 by omega) F (n := m j' - 1 - i) (by omega)
      rw [b1, b2, w1, show m j' - i = m j' - 1 - i + 1 by omega, w2]
      exact ⟨rfl, rfl⟩
    · obtain ⟨b1, b2⟩ := a2 (j' * 5 + i) (Or.inl (by omega))
      rw [b1, b2]
      exact tk_spec hm hs F R O j (by omega) j' (by omega) i hi
