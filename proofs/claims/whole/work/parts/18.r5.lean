/-! doubles: no NaN comes up -/
def mg (a : UInt64) : Nat := a.toNat % 2 ^ 63
theorem n64_le {a : UInt64} (h : mg a ≤ 9218868437227405312) : vf_n64 a := by
  unfold vf_n64
  rw [UInt64.le_iff_toNat_le, FP.Core.mask_toNat]
  exact h
theorem n64_of {a : UInt64} {K : Nat} (h : mg a < K * 2 ^ 52) (hK : K ≤ 2047) : vf_n64 a := n64_le (by omega)
theorem n64_nn {a : UInt64} (h : FP.Core.val64 a ≠ .nan) : vf_n64 a := n64_le ((FP.Core.ne_nan a).mp h)
theorem nn_n64 {a : UInt64} (h : vf_n64 a) : FP.Core.val64 a ≠ .nan := by
  rw [FP.Core.ne_nan]
  unfold vf_n64 at h
  rw [UInt64.le_iff_toNat_le, FP.Core.mask_toNat] at h
  exact h
theorem dc_self9 {x : UInt64} (h : vf_n64 x) : Op.cmpValue (FP.dcmp x x) .l = 0 := by
  show Op.cmpValue (FP.Core.dcmp x x) .l = 0
  rw [FP.Core.dcmp_key (nn_n64 h) (nn_n64 h), (FP.Core.compare_eq_iff _ _).mpr rfl]
  rfl
theorem mg_up {a : UInt64} {K K' : Nat} (h : mg a < K * 2 ^ 52) (hk : K ≤ K') : mg a < K' * 2 ^ 52 := Nat.lt_of_lt_of_le h (Nat.mul_le_mul_right _ hk)
theorem l2d_mg (v : Int64) : mg (FP.l2d v) < 1087 * 2 ^ 52 := by
  have h1 := v.toInt_lt
  have h2 := v.le_toInt
  have := FP.Core.fromInt_mag (i := v.toInt) (a := FP.l2d v) (FP.Core.toNat_of64 (FP.Core.round_fits FP.Core.good_b64 _)) (j := 63) (K := 1086) (by omega) (by decide) (by decide)
  unfold mg
  omega
theorem i2d_mg (v : Int32) : mg (FP.i2d v) < 1055 * 2 ^ 52 := by
  have h1 := v.toInt_lt
  have h2 := v.le_toInt
  have := FP.Core.fromInt_mag (i := v.toInt) (a := FP.i2d v) (FP.Core.toNat_of64 (FP.Core.round_fits FP.Core.good_b64 _)) (j := 31) (K := 1054) (by omega) (by decide) (by decide)
  unfold mg
  omega
theorem l2d_ge {v : Int64} (h : ¬ v = 0) : 1023 * 2 ^ 52 ≤ mg (FP.l2d v) := FP.Core.fromInt_ge (i := v.toInt) (a := FP.l2d v) (FP.Core.toNat_of64 (FP.Core.round_fits FP.Core.good_b64 _)) (fun e => h (Int64.toInt_inj.mp e))
theorem i2d_ge {v : Int32} (h : ¬ v = 0) : 1023 * 2 ^ 52 ≤ mg (FP.i2d v) := FP.Core.fromInt_ge (i := v.toInt) (a := FP.i2d v) (FP.Core.toNat_of64 (FP.Core.round_fits FP.Core.good_b64 _)) (fun e => h (Int32.toInt_inj.mp e))
theorem x_mg (v : Int32) : mg (FP.dmul (FP.i2d v) 4593671619917905920) < 1054 * 2 ^ 52 := FP.Core.dmul_mag (a := FP.i2d v) (b := 4593671619917905920) (Ka := 1055) (Kb := 1021) (i2d_mg v) (by decide) (by decide) (by decide)
/-- a row of Horner -/
theorem hd_mg {f : Nat → Int64} {x : UInt64} {m : Nat} (hx : mg x < 1054 * 2 ^ 52) : ∀ n, n ≤ 7 → mg (hdP f x m n) < (1055 + 34 * n) * 2 ^ 52 ∧ mg (FP.dmul (hdP f x m n) x) < (1087 + 34 * n) * 2 ^ 52
  | 0, _ => by
    have h0 : mg (hdP f x m 0) < 1055 * 2 ^ 52 := (by decide : mg FP.dconst0 < 1055 * 2 ^ 52)
    exact ⟨h0, FP.Core.dmul_mag (Ka := 1055) (Kb := 1054) h0 hx (by decide) (by decide)⟩
  | n + 1, h => by
    obtain ⟨-, b⟩ := hd_mg (f := f) (m := m) hx n (by omega)
    have hl := l2d_mg (f (m - n))
    have h1 : mg (hdP f x m (n + 1)) < (1087 + 34 * n + 2) * 2 ^ 52 := FP.Core.dadd_mag (K := 1087 + 34 * n) b (mg_up hl (by omega)) (by omega)
    have h2 : mg (hdP f x m (n + 1)) < (1055 + 34 * (n + 1)) * 2 ^ 52 := mg_up h1 (by omega)
    have h3 : mg (FP.dmul (hdP f x m (n + 1)) x) < (1055 + 34 * (n + 1) + 1054 - 1025 + 3) * 2 ^ 52 := FP.Core.dmul_mag (Ka := 1055 + 34 * (n + 1)) (Kb := 1054) h2 hx (by omega) (by decide)
    exact ⟨h2, mg_up h3 (by omega)⟩
theorem hd_ok {f : Nat → Int64} {x : UInt64} {m : Nat} (hm : m ≤ 6) (hx : mg x < 1054 * 2 ^ 52) : hdOK f x m := fun n hn => by
  obtain ⟨a, b⟩ := hd_mg (f := f) (m := m) hx n (by omega)
  obtain ⟨c, -⟩ := hd_mg (f := f) (m := m) hx (n + 1) (by omega)
  exact ⟨n64_of b (by omega), n64_of c (by omega)⟩
theorem fin_mg {a : UInt64} {K : Nat} (h : mg a < K * 2 ^ 52) (hK : K ≤ 2047) : ∃ s c q, FP.Core.val64 a = .fin s c q := FP.Core.fin_of_lt h hK
theorem dz_mg {a : UInt64} (h : mg a = 0) : dz a = true := by
  unfold dz
  have := FP.Core.zero_iff.mpr ((FP.Core.zero_bits2 a).mpr h)
  show decide (Op.cmpValue (FP.Core.dcmp a 0) .l = 0) = true
  rw [this]
  rfl
theorem dz_ne {a : UInt64} (h : dz a = false) : ¬ mg a = 0 := fun e => by rw [dz_mg e] at h; cases h
theorem div_nn {a b : UInt64} {K K' : Nat} (ha : mg a < K * 2 ^ 52) (hK : K ≤ 2047) (hb : mg b < K' * 2 ^ 52) (hK' : K' ≤ 2047) (h : dz b = false) : vf_n64 (FP.ddiv a b) := by
  obtain ⟨s, c, q, e1⟩ := fin_mg ha hK
  obtain ⟨t, d, r, e2⟩ := fin_mg hb hK'
  apply n64_nn
  rw [FP.Core.val64_ddiv, e1, e2]
  show (if d = 0 then _ else FP.Core.roundRatio _ _ _ _ _) ≠ _
  have hd : ¬ d = 0 := fun q0 => dz_ne h ((FP.Core.zero_bits2 b).mp ⟨t, r, by rw [e2, q0]⟩)
  rw [if_neg hd]
  exact FP.Core.roundRatio_ne_nan _ _ _ _ _
theorem hd_first {x : UInt64} (hx : mg x < 1054 * 2 ^ 52) : FP.dadd (FP.dmul FP.dconst0 x) (FP.l2d 0) = FP.dconst0 := by
  obtain ⟨s, c, q, e⟩ := fin_mg hx (by decide)
  have h0 : FP.Core.val64 FP.dconst0 = .fin false 0 FP.Core.b64.qmin := FP.Core.val64_zero
  have e1 : FP.Core.val64 (FP.dmul FP.dconst0 x) = .fin s 0 FP.Core.b64.qmin := by
    rw [FP.Core.val64_dmul, h0, e]
    show FP.Core.roundRatio FP.Core.b64 (false != s) (0 * c) 1 _ = _
    rw [Nat.zero_mul]
    cases s <;> rfl
  have e2 : FP.Core.val64 (FP.l2d 0) = .fin false 0 FP.Core.b64.qmin := by decide +kernel
  have e3 : FP.Core.val64 (FP.dadd (FP.dmul FP.dconst0 x) (FP.l2d 0)) = FP.Core.val64 FP.dconst0 := by
    rw [FP.Core.val64_dadd, e1, e2, h0]
    cases s <;> decide +kernel
  exact FP.Core.val64_inj (by rw [e3, h0]; exact FP.Core.Datum.noConfusion) e3
theorem hd_56 {f : Nat → Int64} {x : UInt64} (hx : mg x < 1054 * 2 ^ 52) (hz : f 6 = 0) : ∀ n, hdP f x 6 (n + 1) = hdP f x 5 n
  | 0 => by
    show FP.dadd (FP.dmul FP.dconst0 x) (FP.l2d (f 6)) = FP.dconst0
    rw [hz]
    exact hd_first hx
  | n + 1 => by
    show FP.dadd (FP.dmul (hdP f x 6 (n + 1)) x) (FP.l2d (f (6 - (n + 1)))) = FP.dadd (FP.dmul (hdP f x 5 n) x) (FP.l2d (f (5 - n)))
    rw [hd_56 hx hz n, show 6 - (n + 1) = 5 - n by omega]
theorem hd_congr {f h : Nat → Int64} {x : UInt64} (e : ∀ j, j ≤ 6 → f j = h j) : ∀ n, hdP f x 6 n = hdP h x 6 n
  | 0 => rfl
  | n + 1 => by
    show FP.dadd (FP.dmul (hdP f x 6 n) x) (FP.l2d (f (6 - n))) = FP.dadd (FP.dmul (hdP h x 6 n) x) (FP.l2d (h (6 - n)))
    rw [hd_congr e n, e _ (by omega)]
theorem at_main {F Be : Nat → Int64} {x : UInt64} (hx : mg x < 1054 * 2 ^ 52) (hz : Be 6 = 0) : atH F Be x ∧ amH F Be x ∧ (nearP x = true → amV F Be x = atV F Be x ∧ vf_n64 (atV F Be x)) := by
  have h7 := (hd_mg (f := F) (m := 6) hx 7 (by decide)).1
  have b7 := (hd_mg (f := Be) (m := 6) hx 7 (by decide)).1
  have e := hd_56 hx hz 6
  refine ⟨fun _ => ⟨hd_ok (by decide) hx, fun h => ⟨hd_ok (by decide) hx, div_nn h7 (by decide) b7 (by decide) h⟩⟩, fun _ => ⟨hd_ok (by decide) hx, fun h => ⟨hd_ok (by decide) hx, ?_⟩⟩, fun hn => ⟨?_, ?_⟩⟩
  · rw [← e] at h ⊢
    exact div_nn h7 (by decide) b7 (by decide) h
  · unfold amV atV
    rw [if_pos hn, e]
  · unfold atV
    rcases h : dz (hdP Be x 6 7) with _ | _
    · exact div_nn h7 (by decide) b7 (by decide) h
    · rw [if_pos rfl]
      exact n64_of (K := 1) (by decide) (by decide)
/-! lower bounds, and the sum by parts -/
theorem un_ge {m L : Nat} (hL : 1 ≤ L) (h : L * 2 ^ 52 ≤ m) : 2 ^ 52 * 2 ^ (L - 1) ≤ FP.Core.unitsOf FP.Core.b64 m := by
  have h1 := FP.Core.unitsOf_start (f := FP.Core.b64) hL
  rw [FP.Core.tails_b64] at h1
  rw [← h1]
  exact FP.Core.unitsOf_le_iff.mpr h
theorem mul_ge {a b : UInt64} {La Lb K : Nat} (ha : La * 2 ^ 52 ≤ mg a) (ha2 : mg a < 2047 * 2 ^ 52) (hb : Lb * 2 ^ 52 ≤ mg b) (hb2 : mg b < 2047 * 2 ^ 52) (h1 : 1 ≤ La) (h2 : 1 ≤ Lb) (hK : 1 ≤ K) (hK2 : K ≤ 2047) (h : K + 1023 ≤ La + Lb) : K * 2 ^ 52 ≤ mg (FP.dmul a b) := by
  obtain ⟨s, c, q, e1⟩ := fin_mg ha2 (by decide)
  obtain ⟨t, d, r, e2⟩ := fin_mg hb2 (by decide)
  have f1 : FP.Core.fits FP.Core.b64 (.fin s c q) := e1 ▸ FP.Core.val64_fits a
  have f2 : FP.Core.fits FP.Core.b64 (.fin t d r) := e2 ▸ FP.Core.val64_fits b
  obtain ⟨p1, p2, p3⟩ := FP.Core.product_units f1 f2
  have z1 := FP.Core.zmag_bits (a := a) (by rw [e1]; exact FP.Core.Datum.noConfusion)
  have z2 := FP.Core.zmag_bits (a := b) (by rw [e2]; exact FP.Core.Datum.noConfusion)
  rw [e1] at z1
  rw [e2] at z2
  have hd : FP.Core.decode FP.Core.b64 (FP.Core.dmul a b).toNat = FP.Core.roundRatio FP.Core.b64 (s != t) (c * d) 1 (q + r) := by
    have := FP.Core.val64_dmul a b
    rw [e1, e2, p1] at this
    exact this
  have hm := FP.Core.mag_ge FP.Core.good_b64 (m := K * 2 ^ 52) (e0 := 2 * FP.Core.b64.qmin) hd (by decide) (by decide) p2 (by rw [FP.Core.infBits_b64]; exact Nat.le_trans (Nat.mul_le_mul_right _ hK2) (by decide)) (by
    rw [p3, z1, z2, ← FP.Core.tails_b64, FP.Core.unitsOf_start hK, FP.Core.tails_b64, show (FP.Core.b64.qmin - 2 * FP.Core.b64.qmin).toNat = 1074 from by decide, Nat.mul_one]
    calc 2 ^ 52 * 2 ^ (K - 1) * 2 ^ 1074 = 2 ^ (52 + (K - 1) + 1074) := by rw [← Nat.pow_add, ← Nat.pow_add]
      _ ≤ 2 ^ (52 + (La - 1) + (52 + (Lb - 1))) := Nat.pow_le_pow_right (by decide) (by omega)
      _ = (2 ^ 52 * 2 ^ (La - 1)) * (2 ^ 52 * 2 ^ (Lb - 1)) := by rw [Nat.pow_add, Nat.pow_add 2 52 (La - 1), Nat.pow_add 2 52 (Lb - 1)]
      _ ≤ _ := Nat.mul_le_mul (un_ge h1 ha) (un_ge h2 hb))
  rw [FP.Core.mag_toNat64] at hm
  exact hm
theorem mul_zero {a b : UInt64} (ha2 : mg a < 2047 * 2 ^ 52) (hb2 : mg b < 2047 * 2 ^ 52) (h : mg a = 0 ∨ mg b = 0) : mg (FP.dmul a b) = 0 := by
  obtain ⟨s, c, q, e1⟩ := fin_mg ha2 (by decide)
  obtain ⟨t, d, r, e2⟩ := fin_mg hb2 (by decide)
  have hcd : c * d = 0 := by
    rcases h with h | h
    · obtain ⟨s', q', e⟩ := (FP.Core.zero_bits2 a).mpr h
      rw [e1] at e
      cases e
      exact Nat.zero_mul _
    · obtain ⟨s', q', e⟩ := (FP.Core.zero_bits2 b).mpr h
      rw [e2] at e
      cases e
      exact Nat.mul_zero _
  refine (FP.Core.zero_bits2 _).mp ⟨s != t, FP.Core.b64.qmin, ?_⟩
  rw [FP.Core.val64_dmul, e1, e2]
  show FP.Core.roundRatio FP.Core.b64 (s != t) (c * d) 1 (q + r) = _
  rw [hcd]
  rfl
/-- zero, or no less than so much -/
def zg (L : Nat) (a : UInt64) : Prop := mg a = 0 ∨ L * 2 ^ 52 ≤ mg a
theorem x_zg (v : Int32) : zg 1020 (FP.dmul (FP.i2d v) 4593671619917905920) := by
  by_cases h : v = 0
  · subst h
    exact Or.inl (by decide +kernel)
  · exact Or.inr (mul_ge (La := 1023) (Lb := 1020) (i2d_ge h) (mg_up (i2d_mg v) (by decide)) (by decide) (by decide) (by decide) (by decide) (by decide) (by decide) (by decide))
theorem i_zg (v : Int32) : zg 1020 (FP.i2d v) := by
  by_cases h : v = 0
  · subst h
    exact Or.inl (by decide +kernel)
  · have := i2d_ge h
    exact Or.inr (by omega)
theorem un_dvd {m : Nat} (h : m = 0 ∨ 1020 * 2 ^ 52 ≤ m) : 2 ^ 1019 ∣ FP.Core.unitsOf FP.Core.b64 m := by
  rcases h with h | h
  · subst h
    rw [FP.Core.unitsOf_zero]
    exact Nat.dvd_zero _
  · unfold FP.Core.unitsOf
    rw [FP.Core.tails_b64, if_neg (by omega)]
    have : 1020 ≤ m / 2 ^ 52 := (Nat.le_div_iff_mul_le (by decide)).mpr h
    exact Nat.dvd_trans (Nat.pow_dvd_pow 2 (by omega)) (Nat.dvd_mul_left _ _)
theorem signed_dvd {s : Bool} {c D : Nat} (h : D ∣ c) : (D : Int) ∣ FP.Core.signed s c := by
  unfold FP.Core.signed
  cases s
  · exact Int.ofNat_dvd.mpr h
  · exact Int.dvd_neg.mpr (Int.ofNat_dvd.mpr h)
theorem sub_zg {a b : UInt64} (ha : zg 1020 a) (ha2 : mg a < 2047 * 2 ^ 52) (hb : zg 1020 b) (hb2 : mg b < 2047 * 2 ^ 52) : zg 968 (FP.dsub a b) := by
  obtain ⟨s, c, q, e1⟩ := fin_mg ha2 (by decide)
  obtain ⟨t, d, r, e2⟩ := fin_mg hb2 (by decide)
  have f1 : FP.Core.fits FP.Core.b64 (.fin s c q) := e1 ▸ FP.Core.val64_fits a
  have f2 : FP.Core.fits FP.Core.b64 (.fin t d r) := e2 ▸ FP.Core.val64_fits b
  have f3 : FP.Core.fits FP.Core.b64 (.fin (!t) d r) := f2
  obtain ⟨sg, n, e, p1, p2, p3⟩ := FP.Core.sum_units f1 f3
  have z1 := FP.Core.zmag_bits (a := a) (by rw [e1]; exact FP.Core.Datum.noConfusion)
  have z2 := FP.Core.zmag_bits (a := b) (by rw [e2]; exact FP.Core.Datum.noConfusion)
  rw [e1] at z1
  rw [e2] at z2
  have hv : FP.Core.val64 (FP.Core.dsub a b) = FP.Core.roundRatio FP.Core.b64 sg n 1 e := by
    have := FP.Core.val64_dsub a b
    rw [e1, e2] at this
    rw [this]
    show FP.Core.round FP.Core.b64 (FP.Core.exactSum (.fin s c q) (.fin (!t) d r)) = _
    rw [p1]
    rfl
  by_cases h0 : n = 0
  · left
    refine (FP.Core.zero_bits2 _).mp ⟨sg, FP.Core.b64.qmin, ?_⟩
    refine hv.trans ?_
    rw [h0]
    rfl
  · right
    have hdv : ((2 ^ 1019 : Nat) : Int) ∣ FP.Core.signed sg (FP.Core.inUnits n e FP.Core.b64.qmin) := by
      rw [p3]
      refine Int.dvd_add ?_ ?_
      · show _ ∣ FP.Core.signed s (FP.Core.zmag FP.Core.b64 (.fin s c q))
        rw [z1]
        exact signed_dvd (un_dvd ha)
      · show _ ∣ FP.Core.signed (!t) (FP.Core.zmag FP.Core.b64 (.fin t d r))
        rw [z2]
        exact signed_dvd (un_dvd hb)
    have hdn : 2 ^ 1019 ∣ FP.Core.inUnits n e FP.Core.b64.qmin := by
      have := Int.natAbs_dvd_natAbs.mpr hdv
      rw [FP.Core.natAbs_signed, Int.natAbs_natCast] at this
      exact this
    have hpos : 0 < FP.Core.inUnits n e FP.Core.b64.qmin := Nat.mul_pos (Nat.pos_of_ne_zero h0) (Nat.two_pow_pos _)
    have hge := Nat.le_of_dvd hpos hdn
    have hm := FP.Core.mag_ge FP.Core.good_b64 (m := 968 * 2 ^ 52) (e0 := FP.Core.b64.qmin) hv (by decide) (Int.le_refl _) p2 (by rw [FP.Core.infBits_b64]; decide) (by
      rw [← FP.Core.tails_b64, FP.Core.unitsOf_start (by decide), Int.sub_self, Int.toNat_zero, Nat.pow_zero, Nat.mul_one, Nat.mul_one, FP.Core.tails_b64, ← Nat.pow_add]
      exact hge)
    rw [FP.Core.mag_toNat64] at hm
    exact hm
theorem wp_ok {n d : Nat → Int64} {e : UInt64} (he : mg e < 1057 * 2 ^ 52) (hz : zg 968 e) : ∀ (t i k c : Nat) (sum p : UInt64), (∀ q, i ≤ q → q < i + t → ¬ d q = 0) → k + t ≤ 5 → c + t ≤ 200 → mg p < (1057 + 35 * k) * 2 ^ 52 → zg (968 - 55 * k) p → mg sum < (1419 + 2 * c) * 2 ^ 52 → wpOK n d e t i sum p ∧ mg (wpL n d e t i sum p) < (1419 + 2 * (c + t)) * 2 ^ 52
  | 0, i, k, c, sum, p, _, _, _, _, _, hs => ⟨trivial, hs⟩
  | t + 1, i, k, c, sum, p, hd, hk, hc, hp, hpz, hs => by
    have h1 : mg (FP.ddiv (FP.l2d (n i)) (FP.l2d (d i))) < 1088 * 2 ^ 52 := FP.Core.ddiv_mag (K := 1087) (L := 1023) (l2d_mg (n i)) (l2d_ge (hd i (Nat.le_refl _) (by omega))) (mg_up (l2d_mg (d i)) (by decide)) (by decide) (by decide)
    have h2 : dz p = false → mg (FP.ddiv (FP.ddiv (FP.l2d (n i)) (FP.l2d (d i))) p) < 1419 * 2 ^ 52 := fun hf => by
      have hl : (968 - 55 * k) * 2 ^ 52 ≤ mg p := hpz.resolve_left (dz_ne hf)
      have := FP.Core.ddiv_mag (a := FP.ddiv (FP.l2d (n i)) (FP.l2d (d i))) (b := p) (K := 1088) (L := 968 - 55 * k) h1 hl (mg_up hp (by omega)) (by decide) (by omega)
      exact mg_up (a := FP.ddiv (FP.ddiv (FP.l2d (n i)) (FP.l2d (d i))) p) this (by omega)
    have h3 : dz p = false → mg (FP.dadd sum (FP.ddiv (FP.ddiv (FP.l2d (n i)) (FP.l2d (d i))) p)) < (1419 + 2 * c + 2) * 2 ^ 52 := fun hf => FP.Core.dadd_mag (K := 1419 + 2 * c) hs (mg_up (h2 hf) (by omega)) (by omega)
    have h4 : mg (FP.dmul p e) < (1057 + 35 * (k + 1)) * 2 ^ 52 := by
      have := FP.Core.dmul_mag (a := p) (b := e) (Ka := 1057 + 35 * k) (Kb := 1057) hp he (by omega) (by decide)
      exact mg_up (a := FP.dmul p e) this (by omega)
    have h5 : zg (968 - 55 * (k + 1)) (FP.dmul p e) := by
      rcases hpz with q | q
      · exact Or.inl (mul_zero (mg_up hp (by omega)) (mg_up he (by decide)) (Or.inl q))
      · rcases hz with r | r
        · exact Or.inl (mul_zero (mg_up hp (by omega)) (mg_up he (by decide)) (Or.inr r))
        · exact Or.inr (mul_ge q (mg_up hp (by omega)) r (mg_up he (by decide)) (by omega) (by decide) (by omega) (by omega) (by omega))
    have h6 : mg (wpT (n i) (d i) sum p) < (1419 + 2 * (c + 1)) * 2 ^ 52 := by
      unfold wpT
      rcases hf : dz p with _ | _
      · exact mg_up (h3 hf) (by omega)
      · rw [if_pos rfl]
        exact mg_up hs (by omega)
    obtain ⟨a, b⟩ := wp_ok (n := n) (d := d) he hz t (i + 1) (k + 1) (c + 1) (wpT (n i) (d i) sum p) (FP.dmul p e) (fun q q1 q2 => hd q (by omega) (by omega)) (by omega) (by omega) h4 h5 h6
    refine ⟨⟨fun hf => ⟨n64_of h1 (by decide), n64_of (h2 hf) (by decide), n64_of (h3 hf) (by omega)⟩, n64_of h4 (by omega), a⟩, ?_⟩
    exact mg_up b (by omega)
theorem wp_congr {n d n' d' : Nat → Int64} {e : UInt64} : ∀ (t i : Nat) (sum p : UInt64), (∀ q, i ≤ q → q < i + t → n q = n' q ∧ d q = d' q) → wpL n d e t i sum p = wpL n' d' e t i sum p
  | 0, _, _, _, _ => rfl
  | t + 1, i, sum, p, h => by
    show wpL n d e t (i + 1) (wpT (n i) (d i) sum p) (FP.dmul p e) = wpL n' d' e t (i + 1) (wpT (n' i) (d' i) sum p) (FP.dmul p e)
    rw [(h i (Nat.le_refl _) (by omega)).1, (h i (Nat.le_refl _) (by omega)).2]
    exact wp_congr t (i + 1) _ _ (fun q q1 q2 => h q (by omega) (by omega))
theorem by_main {m : Nat → Nat} (hs : sumN m 7 ≤ 5) {F : Nat → Int64} (hF : ∀ j, nA (F j) ≤ 4000) (R O : Nat → Int64) (v : Int32) : bpH m (tkS m F R O 7).1 (tkS m F R O 7).2.1 (quoF m F 7) (FP.dmul (FP.i2d v) 4593671619917905920) ∧ bmH F m (dvD (belF m 7) (sumN m 7) F).2 (FP.dmul (FP.i2d v) 4593671619917905920) ∧ bmS F m (dvD (belF m 7) (sumN m 7) F).2 (FP.dmul (FP.i2d v) 4593671619917905920) 7 = bpS m (tkS m F R O 7).1 (tkS m F R O 7).2.1 (quoF m F 7) (FP.dmul (FP.i2d v) 4593671619917905920) 7 ∧ vf_n64 (bpS m (tkS m F R O 7).1 (tkS m F R O 7).2.1 (quoF m F 7) (FP.dmul (FP.i2d v) 4593671619917905920) 7) := by
  have hx := x_mg v
  have hxz := x_zg v
  generalize FP.dmul (FP.i2d v) 4593671619917905920 = x at hx hxz
  have hm : ∀ j, j < 7 → m j ≤ 5 := fun j hj => Nat.le_trans (sumN_le 7 j hj) hs
  have he : ∀ r : Int32, mg (FP.dsub x (FP.i2d r)) < 1057 * 2 ^ 52 := fun r => FP.Core.dsub_mag (K := 1055) (mg_up hx (by decide)) (i2d_mg r) (by decide)
  have hez : ∀ r : Int32, zg 968 (FP.dsub x (FP.i2d r)) := fun r => sub_zg hxz (mg_up hx (by decide)) (i_zg r) (mg_up (i2d_mg r) (by decide))
  -- the same numbers, and none below is 0
  have hnd : ∀ j, j < 7 → ∀ q, 1 ≤ q → q < 1 + manyP m (nI j - 3) → paP (tkS m F R O 7).1 0 (nI j - 3) (nI q) = bmn F m (nI j - 3) q ∧ paP (tkS m F R O 7).2.1 1 (nI j - 3) (nI q) = bmd F m (nI j - 3) q ∧ ¬ bmd F m (nI j - 3) q = 0 := by
    intro j hj q q1 q2
    rw [manyP_rt hj] at q2
    obtain ⟨i, rfl⟩ : ∃ i, q = i + 1 := ⟨q - 1, by omega⟩
    obtain ⟨a, b⟩ := st_AB hs hF R O hj (show i < m j by omega)
    unfold bmn bmd
    rw [a, b, manyP_rt hj, show m j - (i + 1) = m j - 1 - i by omega]
    refine ⟨rfl, rfl, fun e0 => ?_⟩
    obtain ⟨w1, w2, w3⟩ := wk_small hs hF hj (n := m j - 1 - i) (by omega)
    obtain ⟨t1, -⟩ := tlU_pos (wkB_ne hs hF hj (n := m j - 1 - i) (by omega)) (fine_nA (x := wkA F m (nI j - 3) (m j - 1 - i)) (by omega)) (fine_nA (x := wkB m (nI j - 3) (m j - 1 - i)) (by omega))
    rw [e0] at t1
    exact absurd t1 (by decide)
  have hq0 : hdP (dvD (belF m 7) (sumN m 7) F).2 x 6 7 = hdP (quoF m F 7) x 6 7 := hd_congr (fun j hj => quo_eq hs F hj) 7
  have hS : ∀ j, j ≤ 7 → bmS F m (dvD (belF m 7) (sumN m 7) F).2 x j = bpS m (tkS m F R O 7).1 (tkS m F R O 7).2.1 (quoF m F 7) x j ∧ mg (bmS F m (dvD (belF m 7) (sumN m 7) F).2 x j) < (1419 + 2 * (5 * j)) * 2 ^ 52 := by
    intro j
    induction j with
    | zero =>
      intro _
      refine ⟨hq0, mg_up (hd_mg (f := (dvD (belF m 7) (sumN m 7) F).2) (m := 6) hx 7 (by decide)).1 (by decide)⟩
    | succ j ih =>
      intro hj
      obtain ⟨a, b⟩ := ih (by omega)
      have h5 := hm j (by omega)
      have hmj := manyP_rt (m := m) (show j < 7 by omega)
      obtain ⟨-, w2⟩ := wp_ok (n := bmn F m (nI j - 3)) (d := bmd F m (nI j - 3)) (he (nI j - 3)) (hez (nI j - 3)) (manyP m (nI j - 3)) 1 0 (5 * j) (bmS F m (dvD (belF m 7) (sumN m 7) F).2 x j) (FP.dsub x (FP.i2d (nI j - 3))) (fun q q1 q2 => (hnd j (by omega) q q1 q2).2.2) (by omega) (by omega) (mg_up (he _) (by decide)) (hez _) b
      refine ⟨?_, mg_up w2 (by omega)⟩
      show wpL (bmn F m (nI j - 3)) (bmd F m (nI j - 3)) (FP.dsub x (FP.i2d (nI j - 3))) (manyP m (nI j - 3)) 1 (bmS F m (dvD (belF m 7) (sumN m 7) F).2 x j) (FP.dsub x (FP.i2d (nI j - 3))) = wpL (fun i => paP (tkS m F R O 7).1 0 (nI j - 3) (nI i)) (fun i => paP (tkS m F R O 7).2.1 1 (nI j - 3) (nI i)) (FP.dsub x (FP.i2d (nI j - 3))) (manyP m (nI j - 3)) 1 (bpS m (tkS m F R O 7).1 (tkS m F R O 7).2.1 (quoF m F 7) x j) (FP.dsub x (FP.i2d (nI j - 3)))
      rw [← a]
      exact wp_congr _ _ _ _ (fun q q1 q2 => ⟨(hnd j (by omega) q q1 q2).1.symm, (hnd j (by omega) q q1 q2).2.1.symm⟩)
  have hW : ∀ j, j < 7 → ∀ (n d : Nat → Int64), (∀ q, 1 ≤ q → q < 1 + manyP m (nI j - 3) → ¬ d q = 0) → wpOK n d (FP.dsub x (FP.i2d (nI j - 3))) (manyP m (nI j - 3)) 1 (bmS F m (dvD (belF m 7) (sumN m 7) F).2 x j) (FP.dsub x (FP.i2d (nI j - 3))) := by
    intro j hj n d hd
    have h5 := hm j hj
    have hmj := manyP_rt (m := m) hj
    exact (wp_ok (n := n) (d := d) (he (nI j - 3)) (hez (nI j - 3)) (manyP m (nI j - 3)) 1 0 (5 * j) (bmS F m (dvD (belF m 7) (sumN m 7) F).2 x j) (FP.dsub x (FP.i2d (nI j - 3))) hd (by omega) (by omega) (mg_up (he _) (by decide)) (hez _) (hS j (by omega)).2).1
  refine ⟨fun _ => ⟨hd_ok (by decide) hx, fun j hj => ⟨n64_of (he _) (by decide), ?_⟩⟩, fun _ => ⟨hd_ok (by decide) hx, fun j hj => ⟨n64_of (he _) (by decide), hW j hj _ _ (fun q q1 q2 => (hnd j hj q q1 q2).2.2)⟩⟩, (hS 7 (by decide)).1, ?_⟩
  · rw [← (hS j (by omega)).1]
    exact hW j hj _ _ (fun q q1 q2 => by rw [(hnd j hj q q1 q2).2.1]; exact (hnd j hj q q1 q2).2.2)
  · rw [← (hS 7 (by decide)).1]
    exact n64_of (hS 7 (by decide)).2 (by decide)
