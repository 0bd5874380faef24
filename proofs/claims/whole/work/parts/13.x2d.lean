def side (w : Int32) : Bool := decide (w = 0 ∨ w = 1)
def xk (b : Bool) : Option String := if b then none else some nIAE
def ptOK (m : Nat → Nat) (r k w : Int32) : Bool := if k < 1 then false else if nI (manyP m r) < k then false else if w = 0 ∨ w = 1 then true else false
def ptV (A B : Nat → Int64) (r k w : Int32) : Int64 := if w = 0 then paP A 0 r k else paP B 1 r k
def igOK (m : Nat → Nat) (r k w : Int32) : Bool := if iiP m r k then (if w = 0 ∨ w = 1 then true else false) else false
def igV (A B Qu : Nat → Int64) (r k w : Int32) : Int64 := if r = 9 then lowP (getP Qu (k - 1)) k.toInt64 w else if k = 0 then (if w = 0 then paP A 0 r 1 else paP B 1 r 1) else lowP (-paP A 0 r (k + 1)) (paP B 1 r (k + 1) * k.toInt64) w
def vlOK (m : Nat → Nat) (t w : Int32) : Bool := if t < -20 then false else if 20 < t then false else if 0 < nI (manyP m t) then false else if w = 0 ∨ w = 1 then true else false
def vlV (F Be : Nat → Int64) (t w : Int32) : Int64 := lowP (hxP F t.toInt64 6 7) (hxP Be t.toInt64 6 7) w
def atV (F Be : Nat → Int64) (x : UInt64) : UInt64 := if dz (hdP Be x 6 7) then FP.dconst0 else FP.ddiv (hdP F x 6 7) (hdP Be x 6 7)
def atH (F Be : Nat → Int64) (x : UInt64) : Prop := nearP x = true → hdOK Be x 6 ∧ (dz (hdP Be x 6 7) = false → hdOK F x 6 ∧ vf_n64 (FP.ddiv (hdP F x 6 7) (hdP Be x 6 7)))
def bpS (m : Nat → Nat) (A B Qu : Nat → Int64) (x : UInt64) : Nat → UInt64
  | 0 => hdP Qu x 6 7
  | j + 1 => wpP m A B (nI j - 3) x (bpS m A B Qu x j)
def bpH (m : Nat → Nat) (A B Qu : Nat → Int64) (x : UInt64) : Prop := nearP x = true → hdOK Qu x 6 ∧ ∀ j, j < 7 → wpH m A B (nI j - 3) x (bpS m A B Qu x j)
/-! what a product's reading leaves: small counts -/
theorem dgV_13 {f : Nat → Int32} {n i : Nat} (h : 0 ≤ dgV f n i 1 3) : ∃ d : Nat, d ≤ 3 ∧ dgV f n i 1 3 = nI d := by
  have hc : dgV f n i 1 3 ≤ 3 := by
    unfold dgV dgP
    by_cases h1 : dgD f n i < 1
    · rw [if_pos h1]; exact (by decide : (-1 : Int32) ≤ 3)
    · by_cases h2 : dgD f n i ≤ 3
      · rw [if_neg h1, if_pos h2]; exact h2
      · rw [if_neg h1, if_neg h2]; exact (by decide : (-1 : Int32) ≤ 3)
  exact nI_of2 (M := 3) (n := 3) (by decide) (Int32.not_lt.mpr h) hc
def smallT (T : Nat → Int32) (b : Nat) : Prop := ∃ t : Nat → Nat, (∀ j, T j = nI (t j)) ∧ ∀ j, t j ≤ b
theorem smallT_upd {T : Nat → Int32} {b d q : Nat} (h : smallT T b) (hd : d ≤ 3) : smallT (upd T q (T q + nI d)) (b + 3) := by
  obtain ⟨t, h1, h2⟩ := h
  refine ⟨fun j => if j = q then t q + d else t j, fun j => ?_, fun j => ?_⟩
  · unfold upd
    by_cases e : j = q
    · simp only [e, reduceIte]; rw [h1 q, nI_add]
    · simp only [e, reduceIte]; exact h1 j
  · by_cases e : j = q
    · simp only [e, reduceIte]; have := h2 q; omega
    · simp only [e, reduceIte]; have := h2 j; omega
theorem smallT_mono {T : Nat → Int32} {b c : Nat} (h : smallT T b) (hc : b ≤ c) : smallT T c := by
  obtain ⟨t, h1, h2⟩ := h
  exact ⟨t, h1, fun j => Nat.le_trans (h2 j) hc⟩
theorem rfS_small {f : Nat → Int32} {n i : Nat} {T : Nat → Int32} {b : Nat} (h : smallT T b) : smallT (rfS f n i T).2.2 (b + 3) := by
  unfold rfS rfB rfC
  have h3 := smallT_mono h (Nat.le_add_right b 3)
  repeat' split
  · next e => obtain ⟨d, hd, e9⟩ := dgV_13 e; rw [e9]; exact smallT_upd h hd
  · exact h3
  · exact smallT_upd (d := 1) h (by decide)
  · exact h3
  · exact h3
  · exact h3
  · exact h3
theorem flS_small {f : Nat → Int32} {n : Nat} : ∀ (c : Nat) (g : Bool) (i : Nat) (T : Nat → Int32) (b : Nat), smallT T b → smallT (flS f n c g i T).2.2 (b + 3 * c)
  | 0, _, _, _, _, h => h
  | c + 1, g, i, T, b, h => by
    unfold flS
    split
    · split
      · exact smallT_mono h (by omega)
      · exact smallT_mono (flS_small c _ _ _ (b + 3) (rfS_small h)) (by omega)
    · exact smallT_mono h (by omega)
theorem fpS_small (f : Nat → Int32) (n i : Nat) : smallT (fpS f n i).2.2 99 := by
  unfold fpS
  exact smallT_mono (flS_small 29 _ _ _ 3 (rfS_small (b := 0) ⟨fun _ => 0, fun _ => rfl, fun _ => Nat.le_refl 0⟩)) (by decide)
def mOf (T : Nat → Int32) : Nat → Nat := fun j => (T j).toNatClampNeg
def sumN (m : Nat → Nat) : Nat → Nat
  | 0 => 0
  | j + 1 => sumN m j + m j
theorem mOf_ok {T : Nat → Int32} (h : smallT T 99) (j : Nat) : T j = nI (mOf T j) ∧ mOf T j ≤ 99 := by
  obtain ⟨t, h1, h2⟩ := h
  unfold mOf
  have := h2 j
  rw [h1 j, nI_clamp (by omega)]
  exact ⟨rfl, this⟩
theorem sumP_mOf {T : Nat → Int32} (h : smallT T 99) : ∀ j, sumP T j = nI (sumN (mOf T) j) ∧ sumN (mOf T) j ≤ 99 * j
  | 0 => ⟨rfl, Nat.le_refl 0⟩
  | j + 1 => by
    obtain ⟨e1, e2⟩ := sumP_mOf h j
    obtain ⟨e3, e4⟩ := mOf_ok h j
    refine ⟨?_, ?_⟩
    · show sumP T j + T j = nI (sumN (mOf T) j + mOf T j)
      rw [e1, ← nI_add]
      exact congrArg (fun z => nI (sumN (mOf T) j) + z) e3
    · show sumN (mOf T) j + mOf T j ≤ 99 * (j + 1)
      omega
theorem sumN_le {m : Nat → Nat} : ∀ n j, j < n → m j ≤ sumN m n
  | 0, _, h => absurd h (Nat.not_lt_zero _)
  | n + 1, j, h => by
    show m j ≤ sumN m n + m n
    rcases Nat.lt_succ_iff_lt_or_eq.mp h with h | rfl
    · have := sumN_le (m := m) n j h; omega
    · omega
theorem sum5_iff (f : Nat → Int32) (n i : Nat) : sumP (fpS f n i).2.2 7 ≤ 5 ↔ sumN (mOf (fpS f n i).2.2) 7 ≤ 5 := by
  obtain ⟨e1, e2⟩ := sumP_mOf (fpS_small f n i) 7
  rw [e1]
  exact nI_leI (b := 5) (by omega) (by decide)
theorem sum5_m {f : Nat → Int32} {n i : Nat} (h : sumP (fpS f n i).2.2 7 ≤ 5) : ∀ j, j < 7 → mOf (fpS f n i).2.2 j ≤ 5 :=
  fun j hj => Nat.le_trans (sumN_le 7 j hj) ((sum5_iff f n i).mp h)
def dnX (f : Nat → Int32) (n i : Nat) : Option String := if fpB n (fpS f n i) then (if sumP (fpS f n i).2.2 7 ≤ 5 then none else some nISE) else some nIAE
set_option maxHeartbeats 4000000 in
set_option maxRecDepth 100000 in
/-- numerator() -/
theorem k_X2_numerator (l : Launch) (hlt : l.stackTraces = false) (G : va_G) (k : Nat → ClassId) (h0 a0 a1 a2 a3 a4 a5 a6 a7 a8 a9 a10 : Nat) (c0 : Nat) (f : Nat → Int32) (n i : Nat) (b1 b2 b3 b7 b9 b10 : Nat) (m : Nat → Nat) (F Be Qu A B T R O : Nat → Int64) (hn : n ≤ 30) (hi : i ≤ n) (hm : ∀ j, j < 7 → m j ≤ 5) : ∀ sz, vx_Met l yX2_numerator wsX2_numerator ({ frames := 6, cells := 1, slots := 6, locals := 149 }) (va_Pc [.ref h0] (KPX G k [(h0, .inr (2, [.ref a0, .ref a1, .ref a2, .ref a3, .ref a4, .ref a5, .ref a6, .ref a7, .ref a8, .ref a9, .ref a10])), (a0, .inr (0, [.ref c0, .int (nI n), .int (nI i)])), (c0, .inl (k 0, 30, .inl f)), (a1, .inr (1, [.ref b1])), (b1, .inl (k 2, 7, .inr (.inl F))), (a2, .inr (1, [.ref b2])), (b2, .inl (k 2, 7, .inr (.inl Be))), (a3, .inr (1, [.ref b3])), (b3, .inl (k 2, 7, .inr (.inl Qu))), (a4, .inl (k 1, 7, .inl (fun j => nI (m j)))), (a5, .inl (k 2, 35, .inr (.inl A))), (a6, .inl (k 2, 35, .inr (.inl B))), (a7, .inr (1, [.ref b7])), (b7, .inl (k 2, 7, .inr (.inl T))), (a9, .inr (1, [.ref b9])), (b9, .inl (k 2, 7, .inr (.inl R))), (a10, .inr (1, [.ref b10])), (b10, .inl (k 2, 7, .inr (.inl O)))] sz)) (va_Qi (fun r (_ : Unit) => xk (rpB n (rpS f n i)) = none ∧ r = nI (degP (rpS f n i).2.2 6)) (KQ G [(h0, .inr (2, [.ref a0, .ref a1, .ref a2, .ref a3, .ref a4, .ref a5, .ref a6, .ref a7, .ref a8, .ref a9, .ref a10])), (a0, .inr (0, [.ref c0, .int (nI 0), .int (nI 0)])), (c0, .inl (k 0, 30, .inl f)), (a1, .inr (1, [.ref b1])), (b1, .inl (k 2, 7, .inr (.inl ((rpS f n i).2.2)))), (a2, .inr (1, [.ref b2])), (b2, .inl (k 2, 7, .inr (.inl (belF m 7)))), (a3, .inr (1, [.ref b3])), (b3, .inl (k 2, 7, .inr (.inl (quoF m (rpS f n i).2.2 7)))), (a4, .inl (k 1, 7, .inl (fun j => nI (m j)))), (a5, .inl (k 2, 35, .inr (.inl ((tkS m (rpS f n i).2.2 R O 7).1)))), (a6, .inl (k 2, 35, .inr (.inl ((tkS m (rpS f n i).2.2 R O 7).2.1)))), (a7, .inr (1, [.ref b7])), (b7, .inl (k 2, 7, .inr (.inl ((rpS f n i).2.2)))), (a9, .inr (1, [.ref b9])), (b9, .inl (k 2, 7, .inr (.inl ((tkS m (rpS f n i).2.2 R O 7).2.2.1)))), (a10, .inr (1, [.ref b10])), (b10, .inl (k 2, 7, .inr (.inl ((tkS m (rpS f n i).2.2 R O 7).2.2.2))))] (va_A [(h0, .inr (2, [.ref a0, .ref a1, .ref a2, .ref a3, .ref a4, .ref a5, .ref a6, .ref a7, .ref a8, .ref a9, .ref a10])), (a0, .inr (0, [.ref c0, .int (nI n), .int (nI i)])), (c0, .inl (k 0, 30, .inl f)), (a1, .inr (1, [.ref b1])), (b1, .inl (k 2, 7, .inr (.inl F))), (a2, .inr (1, [.ref b2])), (b2, .inl (k 2, 7, .inr (.inl Be))), (a3, .inr (1, [.ref b3])), (b3, .inl (k 2, 7, .inr (.inl Qu))), (a4, .inl (k 1, 7, .inl (fun j => nI (m j)))), (a5, .inl (k 2, 35, .inr (.inl A))), (a6, .inl (k 2, 35, .inr (.inl B))), (a7, .inr (1, [.ref b7])), (b7, .inl (k 2, 7, .inr (.inl T))), (a9, .inr (1, [.ref b9])), (b9, .inl (k 2, 7, .inr (.inl R))), (a10, .inr (1, [.ref b10])), (b10, .inl (k 2, 7, .inr (.inl O)))] sz)) (va_A [(h0, .inr (2, [.ref a0, .ref a1, .ref a2, .ref a3, .ref a4, .ref a5, .ref a6, .ref a7, .ref a8, .ref a9, .ref a10])), (a0, .inr (0, [.ref c0, .int (nI n), .int (nI i)])), (c0, .inl (k 0, 30, .inl f)), (a1, .inr (1, [.ref b1])), (b1, .inl (k 2, 7, .inr (.inl F))), (a2, .inr (1, [.ref b2])), (b2, .inl (k 2, 7, .inr (.inl Be))), (a3, .inr (1, [.ref b3])), (b3, .inl (k 2, 7, .inr (.inl Qu))), (a4, .inl (k 1, 7, .inl (fun j => nI (m j)))), (a5, .inl (k 2, 35, .inr (.inl A))), (a6, .inl (k 2, 35, .inr (.inl B))), (a7, .inr (1, [.ref b7])), (b7, .inl (k 2, 7, .inr (.inl T))), (a9, .inr (1, [.ref b9])), (b9, .inl (k 2, 7, .inr (.inl R))), (a10, .inr (1, [.ref b10])), (b10, .inl (k 2, 7, .inr (.inl O)))] sz)) (XQ (xk (rpB n (rpS f n i))) [(h0, .inr (2, [.ref a0, .ref a1, .ref a2, .ref a3, .ref a4, .ref a5, .ref a6, .ref a7, .ref a8, .ref a9, .ref a10])), (a0, .inr (0, [.ref c0, .int (nI 0), .int (nI 0)])), (c0, .inl (k 0, 30, .inl f)), (a1, .inr (1, [.ref b1])), (b1, .inl (k 2, 7, .inr (.inl F))), (a2, .inr (1, [.ref b2])), (b2, .inl (k 2, 7, .inr (.inl Be))), (a3, .inr (1, [.ref b3])), (b3, .inl (k 2, 7, .inr (.inl Qu))), (a4, .inl (k 1, 7, .inl (fun j => nI (m j)))), (a5, .inl (k 2, 35, .inr (.inl A))), (a6, .inl (k 2, 35, .inr (.inl B))), (a7, .inr (1, [.ref b7])), (b7, .inl (k 2, 7, .inr (.inl ((rpS f n i).2.2)))), (a9, .inr (1, [.ref b9])), (b9, .inl (k 2, 7, .inr (.inl R))), (a10, .inr (1, [.ref b10])), (b10, .inl (k 2, 7, .inr (.inl O)))] G (va_A [(h0, .inr (2, [.ref a0, .ref a1, .ref a2, .ref a3, .ref a4, .ref a5, .ref a6, .ref a7, .ref a8, .ref a9, .ref a10])), (a0, .inr (0, [.ref c0, .int (nI n), .int (nI i)])), (c0, .inl (k 0, 30, .inl f)), (a1, .inr (1, [.ref b1])), (b1, .inl (k 2, 7, .inr (.inl F))), (a2, .inr (1, [.ref b2])), (b2, .inl (k 2, 7, .inr (.inl Be))), (a3, .inr (1, [.ref b3])), (b3, .inl (k 2, 7, .inr (.inl Qu))), (a4, .inl (k 1, 7, .inl (fun j => nI (m j)))), (a5, .inl (k 2, 35, .inr (.inl A))), (a6, .inl (k 2, 35, .inr (.inl B))), (a7, .inr (1, [.ref b7])), (b7, .inl (k 2, 7, .inr (.inl T))), (a9, .inr (1, [.ref b9])), (b9, .inl (k 2, 7, .inr (.inl R))), (a10, .inr (1, [.ref b10])), (b10, .inl (k 2, 7, .inr (.inl O)))] sz)) 1 6 (va_A [(h0, .inr (2, [.ref a0, .ref a1, .ref a2, .ref a3, .ref a4, .ref a5, .ref a6, .ref a7, .ref a8, .ref a9, .ref a10])), (a0, .inr (0, [.ref c0, .int (nI n), .int (nI i)])), (c0, .inl (k 0, 30, .inl f)), (a1, .inr (1, [.ref b1])), (b1, .inl (k 2, 7, .inr (.inl F))), (a2, .inr (1, [.ref b2])), (b2, .inl (k 2, 7, .inr (.inl Be))), (a3, .inr (1, [.ref b3])), (b3, .inl (k 2, 7, .inr (.inl Qu))), (a4, .inl (k 1, 7, .inl (fun j => nI (m j)))), (a5, .inl (k 2, 35, .inr (.inl A))), (a6, .inl (k 2, 35, .inr (.inl B))), (a7, .inr (1, [.ref b7])), (b7, .inl (k 2, 7, .inr (.inl T))), (a9, .inr (1, [.ref b9])), (b9, .inl (k 2, 7, .inr (.inl R))), (a10, .inr (1, [.ref b10])), (b10, .inl (k 2, 7, .inr (.inl O)))] sz) := by
  refine met_xi hlt (lv0 := [(0, .ref h0)]) (own := RX2) (by decide) rfl rfl (Nat.le_of_ble_eq_true rfl) rfl (fun Z gx hret hthr => ?_)
  have g := gx.gd
  have hX2 : ∀ w ∈ u_ws RX2 TX2 11, w ∈ wsX2_numerator := fun w h => List.mem_cons_of_mem _ (List.mem_append_left _ (List.mem_append_left _ (List.mem_append_left _ (List.mem_append_right _ (h)))))
  refine z_aload_n g dX2_numerator_0 0 rfl ?_
  refine z_callVi (w' := [_, _, _, _, _, _, _, _, _, _, _, _, _, _, _, _, _, _]) (wr := [_, _, _, _, _, _, _, _, _, _, _, _, _]) g (k_X2_readPolynomial l G k _ _ _ _ _ _ _ _ _ _ _ _ _ _ _ _ _ _ (by assumption) (by repeat (first | assumption | apply takesN_le | apply rnN_le | apply rpN_le | apply sgN_le | apply rrN_le | (apply dgN_le (by decide)) | apply rtS_le | apply rfS_le))) 0 gX2_numerator_X2_readPolynomial rfl rfl rfl nd_X2_readPolynomial ⟨by decide, by decide⟩ 0 rfl rfl [0, 1, 2, 12, 13] [3, 4, 5, 6, 7, 8, 9, 10, 11, 14, 15, 16, 17] [13, 14, 15, 0, 1, 2, 3, 4, 5, 6, 7, 8, 16, 17, 9, 10, 11, 12] rfl rfl rfl rfl (by decide) rfl rfl rfl rfl (Nat.le_of_ble_eq_true rfl) dX2_numerator_1 ⟨by decide, by decide⟩ ?_
  refine z_istore_n (lv' := [(1, .int _), (0, .ref _)]) g dX2_numerator_4 (by decide) rfl ?_
  refine z_aload_n g dX2_numerator_5 1 rfl ?_
  refine z_get g hX2 0 rfl rfl 0 (by decide) (mi 3 rfl) rfl dX2_numerator_6 ?_
  refine z_callVv (w' := [_, _, _, _, _, _, _, _, _, _, _, _, _, _, _, _, _, _]) (wr := [_, _, _, _, _, _, _, _, _, _, _, _, _, _, _, _, _]) g (k_X0_empty l G k _ _ _ _) 0 gX2_numerator_X0_empty rfl rfl rfl nd_X0_empty ⟨by decide, by decide⟩ 1 rfl rfl [1] [0, 2, 3, 4, 5, 6, 7, 8, 9, 10, 11, 12, 13, 14, 15, 16, 17] [0, 17, 1, 2, 3, 4, 5, 6, 7, 8, 9, 10, 11, 12, 13, 14, 15, 16] rfl rfl rfl rfl (by decide) rfl rfl rfl rfl (Nat.le_of_ble_eq_true rfl) dX2_numerator_9 ⟨by decide, by decide⟩ ?_
  refine z_iload_n g dX2_numerator_12 0 rfl ?_
  refine z_bf_ne g (tgt := 26) dX2_numerator_13 (by decide) (fun b13 => ?_) (fun b13 => ?_)
  · refine z_aload_n g dX2_numerator_26 1 rfl ?_
    refine z_get g hX2 0 rfl rfl 1 (by decide) (mi 4 rfl) rfl dX2_numerator_27 ?_
    refine z_aload_n g dX2_numerator_30 1 rfl ?_
    refine z_get g hX2 0 rfl rfl 7 (by decide) (mi 5 rfl) rfl dX2_numerator_31 ?_
    refine z_callVv (w' := [_, _, _, _, _, _, _, _, _, _, _, _, _, _, _, _, _, _]) (wr := [_, _, _, _, _, _, _, _, _, _, _, _, _, _]) g (k_X1_become l G k _ _ _ _ _ _) 1 gX2_numerator_X1_become rfl rfl rfl nd_X1_become ⟨by decide, by decide⟩ 3 rfl rfl [3, 4, 12, 13] [0, 1, 2, 5, 6, 7, 8, 9, 10, 11, 14, 15, 16, 17] [0, 1, 2, 14, 15, 3, 4, 5, 6, 7, 8, 9, 16, 17, 10, 11, 12, 13] rfl rfl rfl rfl (by decide) rfl rfl rfl rfl (Nat.le_of_ble_eq_true rfl) dX2_numerator_34 ⟨by decide, by decide⟩ ?_
    refine z_aload_n g dX2_numerator_37 1 rfl ?_
    refine z_callVv (w' := [_, _, _, _, _, _, _, _, _, _, _, _, _, _, _, _, _, _]) (wr := [_, _, _, _]) g (k_X2_takeApart l G k _ _ _ _ _ _ _ _ _ _ _ _ _ _ _ _ _ _ _ _ _ _ _ _ _ (by assumption)) 0 gX2_numerator_X2_takeApart rfl rfl rfl nd_X2_takeApart ⟨by decide, by decide⟩ 0 rfl rfl [0, 3, 4, 5, 6, 7, 8, 9, 10, 11, 14, 15, 16, 17] [1, 2, 12, 13] [4, 0, 1, 5, 6, 7, 8, 9, 10, 11, 12, 13, 2, 3, 14, 15, 16, 17] rfl rfl rfl rfl (by decide) rfl rfl rfl rfl (Nat.le_of_ble_eq_true rfl) dX2_numerator_38 ⟨by decide, by decide⟩ ?_
    refine z_aload_n g dX2_numerator_41 1 rfl ?_
    refine z_get g hX2 0 rfl rfl 1 (by decide) (mi 4 rfl) rfl dX2_numerator_42 ?_
    refine z_callVi (w' := [_, _, _, _, _, _, _, _, _, _, _, _, _, _, _, _, _, _]) (wr := [_, _, _, _, _, _, _, _, _, _, _, _, _, _, _, _]) g (k_X1_degree l G k _ _ _) 0 gX2_numerator_X1_degree rfl rfl rfl nd_X1_degree ⟨by decide, by decide⟩ 3 rfl rfl [3, 4] [0, 1, 2, 5, 6, 7, 8, 9, 10, 11, 12, 13, 14, 15, 16, 17] [0, 1, 2, 16, 17, 3, 4, 5, 6, 7, 8, 9, 10, 11, 12, 13, 14, 15] rfl rfl rfl rfl (by decide) rfl rfl rfl rfl (Nat.le_of_ble_eq_true rfl) dX2_numerator_45 ⟨by decide, by decide⟩ ?_
    exact hret _ _ _ _ dX2_numerator_48 ((by unfold xk; rw [b13]; rfl)) (rfl) (rfl)
  · exact hthr _ _ _ _ ⟨66, 68, 70, "the draft is no polynomial", mi 1 rfl, mi 2 rfl, List.mem_of_getElem? (i := 0) rfl, rfl, fun w h => List.mem_cons_of_mem _ (List.mem_append_right _ (h)), teN_IAE, teO_c teO_IAE, by decide, dX2_numerator_16, dX2_numerator_19, dX2_numerator_20, dX2_numerator_22, dX2_numerator_25, by decide, by decide, by decide, by decide⟩ ((by unfold xk; rw [b13]; rfl)) (rfl)
theorem nd_X2_numerator : yX2_numerator.cls = RX2 ∧ yX2_numerator.cls ≠ "java/lang/invoke/MethodHandle" ∧ yX2_numerator.cls ≠ "java/lang/invoke/VarHandle" ∧ (parseMethodDescriptor yX2_numerator.desc).map (fun d => d.parameters.length) = some 0 := by decide +kernel
set_option maxHeartbeats 4000000 in
set_option maxRecDepth 100000 in
/-- denominator() -/
theorem k_X2_denominator (l : Launch) (hlt : l.stackTraces = false) (G : va_G) (k : Nat → ClassId) (h0 a0 a1 a2 a3 a4 a5 a6 a7 a8 a9 a10 : Nat) (c0 : Nat) (f : Nat → Int32) (n i : Nat) (b1 b2 b3 b9 b10 : Nat) (m : Nat → Nat) (F Be Qu A B R O : Nat → Int64) (T : Nat → Int32) (hn : n ≤ 30) (hi : i ≤ n) : ∀ sz, vx_Met l yX2_denominator wsX2_denominator ({ frames := 6, cells := 1, slots := 6, locals := 149 }) (va_Pc [.ref h0] (KPX G k [(h0, .inr (2, [.ref a0, .ref a1, .ref a2, .ref a3, .ref a4, .ref a5, .ref a6, .ref a7, .ref a8, .ref a9, .ref a10])), (a0, .inr (0, [.ref c0, .int (nI n), .int (nI i)])), (c0, .inl (k 0, 30, .inl f)), (a1, .inr (1, [.ref b1])), (b1, .inl (k 2, 7, .inr (.inl F))), (a2, .inr (1, [.ref b2])), (b2, .inl (k 2, 7, .inr (.inl Be))), (a3, .inr (1, [.ref b3])), (b3, .inl (k 2, 7, .inr (.inl Qu))), (a4, .inl (k 1, 7, .inl (fun j => nI (m j)))), (a5, .inl (k 2, 35, .inr (.inl A))), (a6, .inl (k 2, 35, .inr (.inl B))), (a8, .inl (k 1, 7, .inl T)), (a9, .inr (1, [.ref b9])), (b9, .inl (k 2, 7, .inr (.inl R))), (a10, .inr (1, [.ref b10])), (b10, .inl (k 2, 7, .inr (.inl O)))] sz)) (va_Qi (fun r (_ : Unit) => dnX f n i = none ∧ r = nI (degP (belF (mOf (fpS f n i).2.2) 7) 6)) (KQ G [(h0, .inr (2, [.ref a0, .ref a1, .ref a2, .ref a3, .ref a4, .ref a5, .ref a6, .ref a7, .ref a8, .ref a9, .ref a10])), (a0, .inr (0, [.ref c0, .int (nI 0), .int (nI 0)])), (c0, .inl (k 0, 30, .inl f)), (a1, .inr (1, [.ref b1])), (b1, .inl (k 2, 7, .inr (.inl F))), (a2, .inr (1, [.ref b2])), (b2, .inl (k 2, 7, .inr (.inl (belF (mOf (fpS f n i).2.2) 7)))), (a3, .inr (1, [.ref b3])), (b3, .inl (k 2, 7, .inr (.inl (quoF (mOf (fpS f n i).2.2) F 7)))), (a4, .inl (k 1, 7, .inl (fun j => nI ((mOf (fpS f n i).2.2) j)))), (a5, .inl (k 2, 35, .inr (.inl ((tkS (mOf (fpS f n i).2.2) F R O 7).1)))), (a6, .inl (k 2, 35, .inr (.inl ((tkS (mOf (fpS f n i).2.2) F R O 7).2.1)))), (a8, .inl (k 1, 7, .inl ((fpS f n i).2.2))), (a9, .inr (1, [.ref b9])), (b9, .inl (k 2, 7, .inr (.inl ((tkS (mOf (fpS f n i).2.2) F R O 7).2.2.1)))), (a10, .inr (1, [.ref b10])), (b10, .inl (k 2, 7, .inr (.inl ((tkS (mOf (fpS f n i).2.2) F R O 7).2.2.2))))] (va_A [(h0, .inr (2, [.ref a0, .ref a1, .ref a2, .ref a3, .ref a4, .ref a5, .ref a6, .ref a7, .ref a8, .ref a9, .ref a10])), (a0, .inr (0, [.ref c0, .int (nI n), .int (nI i)])), (c0, .inl (k 0, 30, .inl f)), (a1, .inr (1, [.ref b1])), (b1, .inl (k 2, 7, .inr (.inl F))), (a2, .inr (1, [.ref b2])), (b2, .inl (k 2, 7, .inr (.inl Be))), (a3, .inr (1, [.ref b3])), (b3, .inl (k 2, 7, .inr (.inl Qu))), (a4, .inl (k 1, 7, .inl (fun j => nI (m j)))), (a5, .inl (k 2, 35, .inr (.inl A))), (a6, .inl (k 2, 35, .inr (.inl B))), (a8, .inl (k 1, 7, .inl T)), (a9, .inr (1, [.ref b9])), (b9, .inl (k 2, 7, .inr (.inl R))), (a10, .inr (1, [.ref b10])), (b10, .inl (k 2, 7, .inr (.inl O)))] sz)) (va_A [(h0, .inr (2, [.ref a0, .ref a1, .ref a2, .ref a3, .ref a4, .ref a5, .ref a6, .ref a7, .ref a8, .ref a9, .ref a10])), (a0, .inr (0, [.ref c0, .int (nI n), .int (nI i)])), (c0, .inl (k 0, 30, .inl f)), (a1, .inr (1, [.ref b1])), (b1, .inl (k 2, 7, .inr (.inl F))), (a2, .inr (1, [.ref b2])), (b2, .inl (k 2, 7, .inr (.inl Be))), (a3, .inr (1, [.ref b3])), (b3, .inl (k 2, 7, .inr (.inl Qu))), (a4, .inl (k 1, 7, .inl (fun j => nI (m j)))), (a5, .inl (k 2, 35, .inr (.inl A))), (a6, .inl (k 2, 35, .inr (.inl B))), (a8, .inl (k 1, 7, .inl T)), (a9, .inr (1, [.ref b9])), (b9, .inl (k 2, 7, .inr (.inl R))), (a10, .inr (1, [.ref b10])), (b10, .inl (k 2, 7, .inr (.inl O)))] sz)) (XQ (dnX f n i) [(h0, .inr (2, [.ref a0, .ref a1, .ref a2, .ref a3, .ref a4, .ref a5, .ref a6, .ref a7, .ref a8, .ref a9, .ref a10])), (a0, .inr (0, [.ref c0, .int (nI 0), .int (nI 0)])), (c0, .inl (k 0, 30, .inl f)), (a1, .inr (1, [.ref b1])), (b1, .inl (k 2, 7, .inr (.inl F))), (a2, .inr (1, [.ref b2])), (b2, .inl (k 2, 7, .inr (.inl Be))), (a3, .inr (1, [.ref b3])), (b3, .inl (k 2, 7, .inr (.inl Qu))), (a4, .inl (k 1, 7, .inl (fun j => nI (m j)))), (a5, .inl (k 2, 35, .inr (.inl A))), (a6, .inl (k 2, 35, .inr (.inl B))), (a8, .inl (k 1, 7, .inl ((fpS f n i).2.2))), (a9, .inr (1, [.ref b9])), (b9, .inl (k 2, 7, .inr (.inl R))), (a10, .inr (1, [.ref b10])), (b10, .inl (k 2, 7, .inr (.inl O)))] G (va_A [(h0, .inr (2, [.ref a0, .ref a1, .ref a2, .ref a3, .ref a4, .ref a5, .ref a6, .ref a7, .ref a8, .ref a9, .ref a10])), (a0, .inr (0, [.ref c0, .int (nI n), .int (nI i)])), (c0, .inl (k 0, 30, .inl f)), (a1, .inr (1, [.ref b1])), (b1, .inl (k 2, 7, .inr (.inl F))), (a2, .inr (1, [.ref b2])), (b2, .inl (k 2, 7, .inr (.inl Be))), (a3, .inr (1, [.ref b3])), (b3, .inl (k 2, 7, .inr (.inl Qu))), (a4, .inl (k 1, 7, .inl (fun j => nI (m j)))), (a5, .inl (k 2, 35, .inr (.inl A))), (a6, .inl (k 2, 35, .inr (.inl B))), (a8, .inl (k 1, 7, .inl T)), (a9, .inr (1, [.ref b9])), (b9, .inl (k 2, 7, .inr (.inl R))), (a10, .inr (1, [.ref b10])), (b10, .inl (k 2, 7, .inr (.inl O)))] sz)) 1 6 (va_A [(h0, .inr (2, [.ref a0, .ref a1, .ref a2, .ref a3, .ref a4, .ref a5, .ref a6, .ref a7, .ref a8, .ref a9, .ref a10])), (a0, .inr (0, [.ref c0, .int (nI n), .int (nI i)])), (c0, .inl (k 0, 30, .inl f)), (a1, .inr (1, [.ref b1])), (b1, .inl (k 2, 7, .inr (.inl F))), (a2, .inr (1, [.ref b2])), (b2, .inl (k 2, 7, .inr (.inl Be))), (a3, .inr (1, [.ref b3])), (b3, .inl (k 2, 7, .inr (.inl Qu))), (a4, .inl (k 1, 7, .inl (fun j => nI (m j)))), (a5, .inl (k 2, 35, .inr (.inl A))), (a6, .inl (k 2, 35, .inr (.inl B))), (a8, .inl (k 1, 7, .inl T)), (a9, .inr (1, [.ref b9])), (b9, .inl (k 2, 7, .inr (.inl R))), (a10, .inr (1, [.ref b10])), (b10, .inl (k 2, 7, .inr (.inl O)))] sz) := by
  refine met_xi hlt (lv0 := [(0, .ref h0)]) (own := RX2) (by decide) rfl rfl (Nat.le_of_ble_eq_true rfl) rfl (fun Z gx hret hthr => ?_)
  have g := gx.gd
  have hX2 : ∀ w ∈ u_ws RX2 TX2 11, w ∈ wsX2_denominator := fun w h => List.mem_cons_of_mem _ (List.mem_append_left _ (List.mem_append_left _ (List.mem_append_left _ (List.mem_append_left _ (List.mem_append_right _ (h))))))
  refine z_aload_n g dX2_denominator_0 0 rfl ?_
  refine z_callVi (w' := [_, _, _, _, _, _, _, _, _, _, _, _, _, _, _, _, _]) (wr := [_, _, _, _, _, _, _, _, _, _, _, _, _]) g (k_X2_readProduct l G k _ _ _ _ _ _ _ _ _ _ _ _ _ _ _ _ _ (by assumption) (by repeat (first | assumption | apply takesN_le | apply rnN_le | apply rpN_le | apply sgN_le | apply rrN_le | (apply dgN_le (by decide)) | apply rtS_le | apply rfS_le))) 0 gX2_denominator_X2_readProduct rfl rfl rfl nd_X2_readProduct ⟨by decide, by decide⟩ 0 rfl rfl [0, 1, 2, 12] [3, 4, 5, 6, 7, 8, 9, 10, 11, 13, 14, 15, 16] [13, 14, 15, 0, 1, 2, 3, 4, 5, 6, 7, 8, 16, 9, 10, 11, 12] rfl rfl rfl rfl (by decide) rfl rfl rfl rfl (Nat.le_of_ble_eq_true rfl) dX2_denominator_1 ⟨by decide, by decide⟩ ?_
  refine z_istore_n (lv' := [(1, .int _), (0, .ref _)]) g dX2_denominator_4 (by decide) rfl ?_
  refine z_aload_n g dX2_denominator_5 1 rfl ?_
  refine z_get g hX2 0 rfl rfl 0 (by decide) (mi 5 rfl) rfl dX2_denominator_6 ?_
  refine z_callVv (w' := [_, _, _, _, _, _, _, _, _, _, _, _, _, _, _, _, _]) (wr := [_, _, _, _, _, _, _, _, _, _, _, _, _, _, _, _]) g (k_X0_empty l G k _ _ _ _) 0 gX2_denominator_X0_empty rfl rfl rfl nd_X0_empty ⟨by decide, by decide⟩ 1 rfl rfl [1] [0, 2, 3, 4, 5, 6, 7, 8, 9, 10, 11, 12, 13, 14, 15, 16] [0, 16, 1, 2, 3, 4, 5, 6, 7, 8, 9, 10, 11, 12, 13, 14, 15] rfl rfl rfl rfl (by decide) rfl rfl rfl rfl (Nat.le_of_ble_eq_true rfl) dX2_denominator_9 ⟨by decide, by decide⟩ ?_
  refine z_iload_n g dX2_denominator_12 0 rfl ?_
  refine z_bf_ne g (tgt := 26) dX2_denominator_13 (by decide) (fun b13 => ?_) (fun b13 => ?_)
  · refine z_aload_n g dX2_denominator_26 1 rfl ?_
    refine z_get g hX2 0 rfl rfl 8 (by decide) (mi 6 rfl) rfl dX2_denominator_27 ?_
    refine z_callSi (w' := [_, _, _, _, _, _, _, _, _, _, _, _, _, _, _, _, _]) (wr := [_, _, _, _, _, _, _, _, _, _, _, _, _, _, _, _]) g (k_X2_sum l G k _ _) 1 gX2_denominator_X2_sum rfl rfl rfl nd_X2_sum ⟨by decide, by decide⟩ [12] [0, 1, 2, 3, 4, 5, 6, 7, 8, 9, 10, 11, 13, 14, 15, 16] [0, 1, 2, 3, 4, 5, 6, 7, 8, 9, 10, 11, 16, 12, 13, 14, 15] rfl rfl rfl rfl (by decide) rfl rfl rfl rfl (Nat.le_of_ble_eq_true rfl) dX2_denominator_30 ⟨by decide, by decide⟩ ?_
    refine z_ic5 g dX2_denominator_33 ?_
    refine z_ic_le g (tgt := 47) dX2_denominator_34 (by decide) (fun b34 => ?_) (fun b34 => ?_)
    · refine z_aload_n g dX2_denominator_47 1 rfl ?_
      refine z_get g hX2 0 rfl rfl 8 (by decide) (mi 6 rfl) rfl dX2_denominator_48 ?_
      refine z_ic0 g dX2_denominator_51 ?_
      refine z_aload_n g dX2_denominator_52 1 rfl ?_
      refine z_get g hX2 0 rfl rfl 4 (by decide) (mi 7 rfl) rfl dX2_denominator_53 ?_
      refine z_ic0 g dX2_denominator_56 ?_
      refine z_bi g 7 dX2_denominator_57 (by decide) ?_
      refine z_copyi (w' := [_, _, _, _, _, _, _, _, _, _, _, _, _, _, _, _, _]) g (mi 8 rfl) (mi 9 rfl) (mi 10 rfl) (mi 11 rfl) 12 9 rfl rfl 7 rfl (by decide) (by decide) (by decide) (by decide) (by decide) dX2_denominator_59 rfl ?_
      refine z_eqI (w' := [_, _, _, _, _, _, _, _, _, _, _, _, _, _, _, _, _]) g (fun j => nI ((mOf (fpS f n i).2.2) j)) 9 rfl (fun j hj => by rw [pk_cpy_in (Nat.zero_le _) (by omega)]; simpa using (mOf_ok (fpS_small f n i) j).1) rfl ?_
      refine z_aload_n g dX2_denominator_62 1 rfl ?_
      refine z_callVv (w' := [_, _, _, _, _, _, _, _, _, _, _, _, _, _, _, _, _]) (wr := [_, _, _]) g (k_X2_takeApart l G k _ _ _ _ _ _ _ _ _ _ _ _ _ _ _ _ _ _ _ _ _ _ _ _ _ (sum5_m b34)) 0 gX2_denominator_X2_takeApart rfl rfl rfl nd_X2_takeApart ⟨by decide, by decide⟩ 0 rfl rfl [0, 3, 4, 5, 6, 7, 8, 9, 10, 11, 13, 14, 15, 16] [1, 2, 12] [3, 0, 1, 4, 5, 6, 7, 8, 9, 10, 11, 12, 2, 13, 14, 15, 16] rfl rfl rfl rfl (by decide) rfl rfl rfl rfl (Nat.le_of_ble_eq_true rfl) dX2_denominator_63 ⟨by decide, by decide⟩ ?_
      refine z_aload_n g dX2_denominator_66 1 rfl ?_
      refine z_get g hX2 0 rfl rfl 2 (by decide) (mi 12 rfl) rfl dX2_denominator_67 ?_
      refine z_callVi (w' := [_, _, _, _, _, _, _, _, _, _, _, _, _, _, _, _, _]) (wr := [_, _, _, _, _, _, _, _, _, _, _, _, _, _, _]) g (k_X1_degree l G k _ _ _) 0 gX2_denominator_X1_degree rfl rfl rfl nd_X1_degree ⟨by decide, by decide⟩ 5 rfl rfl [5, 6] [0, 1, 2, 3, 4, 7, 8, 9, 10, 11, 12, 13, 14, 15, 16] [0, 1, 2, 3, 4, 15, 16, 5, 6, 7, 8, 9, 10, 11, 12, 13, 14] rfl rfl rfl rfl (by decide) rfl rfl rfl rfl (Nat.le_of_ble_eq_true rfl) dX2_denominator_70 ⟨by decide, by decide⟩ ?_
      exact hret _ _ _ _ dX2_denominator_73 ((by unfold dnX; simp only [reduceIte, Bool.false_eq_true, if_pos b13, if_pos b34])) (rfl) (rfl)
    · exact hthr _ _ _ _ ⟨90, 92, 94, "the product has more than 5 roots", mi 3 rfl, mi 4 rfl, List.mem_of_getElem? (i := 2) rfl, rfl, fun w h => List.mem_cons_of_mem _ (List.mem_append_right _ (h)), teN_ISE, teO_c teO_ISE, by decide, dX2_denominator_37, dX2_denominator_40, dX2_denominator_41, dX2_denominator_43, dX2_denominator_46, by decide, by decide, by decide, by decide⟩ ((by unfold dnX; simp only [reduceIte, Bool.false_eq_true, if_pos b13, if_neg b34])) (rfl)
  · exact hthr _ _ _ _ ⟨66, 84, 70, "the draft is no product", mi 1 rfl, mi 2 rfl, List.mem_of_getElem? (i := 1) rfl, rfl, fun w h => List.mem_cons_of_mem _ (List.mem_append_left _ (List.mem_append_right _ (h))), teN_IAE, teO_c teO_IAE, by decide, dX2_denominator_16, dX2_denominator_19, dX2_denominator_20, dX2_denominator_22, dX2_denominator_25, by decide, by decide, by decide, by decide⟩ ((by unfold dnX; simp only [reduceIte, Bool.false_eq_true, if_neg (Bool.eq_false_iff.mp b13)])) (rfl)
theorem nd_X2_denominator : yX2_denominator.cls = RX2 ∧ yX2_denominator.cls ≠ "java/lang/invoke/MethodHandle" ∧ yX2_denominator.cls ≠ "java/lang/invoke/VarHandle" ∧ (parseMethodDescriptor yX2_denominator.desc).map (fun d => d.parameters.length) = some 0 := by decide +kernel
set_option maxHeartbeats 4000000 in
set_option maxRecDepth 100000 in
/-- part(root, k, w) -/
theorem k_X2_part (l : Launch) (hlt : l.stackTraces = false) (G : va_G) (k : Nat → ClassId) (h0 a0 a1 a2 a3 a4 a5 a6 a7 a8 a9 a10 : Nat) (m : Nat → Nat) (A B : Nat → Int64) (p0 p1 p2 : Int32) : ∀ sz, vx_Met l yX2_part wsX2_part ({ frames := 6, cells := 1, slots := 6, locals := 82 }) (va_Pc [.ref h0, .int p0, .int p1, .int p2] (KPX G k [(h0, .inr (2, [.ref a0, .ref a1, .ref a2, .ref a3, .ref a4, .ref a5, .ref a6, .ref a7, .ref a8, .ref a9, .ref a10])), (a4, .inl (k 1, 7, .inl (fun j => nI (m j)))), (a5, .inl (k 2, 35, .inr (.inl A))), (a6, .inl (k 2, 35, .inr (.inl B)))] sz)) (va_Ql (fun r (_ : Unit) => xk (ptOK m p0 p1 p2) = none ∧ r = ptV A B p0 p1 p2) (KQ G [(h0, .inr (2, [.ref a0, .ref a1, .ref a2, .ref a3, .ref a4, .ref a5, .ref a6, .ref a7, .ref a8, .ref a9, .ref a10])), (a4, .inl (k 1, 7, .inl (fun j => nI (m j)))), (a5, .inl (k 2, 35, .inr (.inl A))), (a6, .inl (k 2, 35, .inr (.inl B)))] (va_A [(h0, .inr (2, [.ref a0, .ref a1, .ref a2, .ref a3, .ref a4, .ref a5, .ref a6, .ref a7, .ref a8, .ref a9, .ref a10])), (a4, .inl (k 1, 7, .inl (fun j => nI (m j)))), (a5, .inl (k 2, 35, .inr (.inl A))), (a6, .inl (k 2, 35, .inr (.inl B)))] sz)) (va_A [(h0, .inr (2, [.ref a0, .ref a1, .ref a2, .ref a3, .ref a4, .ref a5, .ref a6, .ref a7, .ref a8, .ref a9, .ref a10])), (a4, .inl (k 1, 7, .inl (fun j => nI (m j)))), (a5, .inl (k 2, 35, .inr (.inl A))), (a6, .inl (k 2, 35, .inr (.inl B)))] sz)) (XQ (xk (ptOK m p0 p1 p2)) [(h0, .inr (2, [.ref a0, .ref a1, .ref a2, .ref a3, .ref a4, .ref a5, .ref a6, .ref a7, .ref a8, .ref a9, .ref a10])), (a4, .inl (k 1, 7, .inl (fun j => nI (m j)))), (a5, .inl (k 2, 35, .inr (.inl A))), (a6, .inl (k 2, 35, .inr (.inl B)))] G (va_A [(h0, .inr (2, [.ref a0, .ref a1, .ref a2, .ref a3, .ref a4, .ref a5, .ref a6, .ref a7, .ref a8, .ref a9, .ref a10])), (a4, .inl (k 1, 7, .inl (fun j => nI (m j)))), (a5, .inl (k 2, 35, .inr (.inl A))), (a6, .inl (k 2, 35, .inr (.inl B)))] sz)) 1 6 (va_A [(h0, .inr (2, [.ref a0, .ref a1, .ref a2, .ref a3, .ref a4, .ref a5, .ref a6, .ref a7, .ref a8, .ref a9, .ref a10])), (a4, .inl (k 1, 7, .inl (fun j => nI (m j)))), (a5, .inl (k 2, 35, .inr (.inl A))), (a6, .inl (k 2, 35, .inr (.inl B)))] sz) := by
  refine met_xl hlt (lv0 := [(0, .ref h0), (1, .int p0), (2, .int p1), (3, .int p2)]) (own := RX2) (by decide) rfl rfl (Nat.le_of_ble_eq_true rfl) rfl (fun Z gx hret hthr => ?_)
  have g := gx.gd
  refine z_iload_n g dX2_part_0 2 rfl ?_
  refine z_ic1 g dX2_part_1 ?_
  refine z_ic_lt g (tgt := 21) dX2_part_2 (by decide) (fun b2 => ?_) (fun b2 => ?_)
  · exact hthr _ _ _ _ ⟨66, 116, 70, "no such part, or w is not 0 or 1", mi 1 rfl, mi 2 rfl, List.mem_of_getElem? (i := 3) rfl, rfl, fun w h => List.mem_cons_of_mem _ (List.mem_append_right _ (h)), teN_IAE, teO_c teO_IAE, by decide, dX2_part_21, dX2_part_24, dX2_part_25, dX2_part_27, dX2_part_30, by decide, by decide, by decide, by decide⟩ ((by unfold xk; simp only [ptOK, if_pos b2, reduceIte, Bool.false_eq_true] <;> rfl)) (rfl)
  · refine z_iload_n g dX2_part_5 2 rfl ?_
    refine z_aload_n g dX2_part_6 0 rfl ?_
    refine z_iload_n g dX2_part_7 1 rfl ?_
    refine z_callVi (w' := [_, _, _, _]) (wr := [_, _]) g (k_X2_many l G k _ _ _ _ _ _ _ _ _ _ _ _ _ _) 1 gX2_part_X2_many rfl rfl rfl nd_X2_many ⟨by decide, by decide⟩ 0 rfl rfl [0, 1] [2, 3] [2, 3, 0, 1] rfl rfl rfl rfl (by decide) rfl rfl rfl rfl (Nat.le_of_ble_eq_true rfl) dX2_part_8 ⟨by decide, by decide⟩ ?_
    refine z_ic_gt g (tgt := 21) dX2_part_11 (by decide) (fun b11 => ?_) (fun b11 => ?_)
    · exact hthr _ _ _ _ ⟨66, 116, 70, "no such part, or w is not 0 or 1", mi 1 rfl, mi 2 rfl, List.mem_of_getElem? (i := 3) rfl, rfl, fun w h => List.mem_cons_of_mem _ (List.mem_append_right _ (h)), teN_IAE, teO_c teO_IAE, by decide, dX2_part_21, dX2_part_24, dX2_part_25, dX2_part_27, dX2_part_30, by decide, by decide, by decide, by decide⟩ ((by unfold xk; simp only [ptOK, if_neg b2, if_pos b11, reduceIte, Bool.false_eq_true] <;> rfl)) (rfl)
    · refine z_iload_n g dX2_part_14 3 rfl ?_
      refine z_callSi (w' := [_, _, _, _]) (wr := [_, _, _, _]) g (k_X2_isSide l G k _) 1 gX2_part_X2_isSide rfl rfl rfl nd_X2_isSide ⟨by decide, by decide⟩ [] [0, 1, 2, 3] [0, 1, 2, 3] rfl rfl rfl rfl (by decide) rfl rfl rfl rfl (Nat.le_of_ble_eq_true rfl) dX2_part_15 ⟨by decide, by decide⟩ ?_
      refine z_bd_ne g (tgt := 31) dX2_part_18 (by decide) (fun b18 => ?_) (fun b18 => ?_)
      · refine z_iload_n g dX2_part_31 3 rfl ?_
        refine z_if_ne g (tgt := 44) dX2_part_32 (by decide) (fun b32 => ?_) (fun b32 => ?_)
        · refine z_aload_n g dX2_part_44 0 rfl ?_
          refine z_iload_n g dX2_part_45 1 rfl ?_
          refine z_iload_n g dX2_part_46 2 rfl ?_
          refine z_callVl (w' := [_, _, _, _]) (wr := [_, _]) g (k_X2_partBelow l G k _ _ _ _ _ _ _ _ _ _ _ _ _ _ _) 2 gX2_part_X2_partBelow rfl rfl rfl nd_X2_partBelow ⟨by decide, by decide⟩ 0 rfl rfl [0, 3] [1, 2] [2, 0, 1, 3] rfl rfl rfl rfl (by decide) rfl rfl rfl rfl (Nat.le_of_ble_eq_true rfl) dX2_part_47 ⟨by decide, by decide⟩ ?_
          exact hret _ _ _ _ dX2_part_50 ((by unfold xk; simp only [ptOK, if_neg b2, if_neg b11, if_pos b18, if_neg b32, reduceIte, Bool.false_eq_true] <;> rfl)) ((by simp only [ptV, if_neg b2, if_neg b11, if_pos b18, if_neg b32, reduceIte, Bool.false_eq_true] <;> rfl)) (rfl)
        · refine z_aload_n g dX2_part_35 0 rfl ?_
          refine z_iload_n g dX2_part_36 1 rfl ?_
          refine z_iload_n g dX2_part_37 2 rfl ?_
          refine z_callVl (w' := [_, _, _, _]) (wr := [_, _]) g (k_X2_partAbove l G k _ _ _ _ _ _ _ _ _ _ _ _ _ _ _) 2 gX2_part_X2_partAbove rfl rfl rfl nd_X2_partAbove ⟨by decide, by decide⟩ 0 rfl rfl [0, 2] [1, 3] [2, 0, 3, 1] rfl rfl rfl rfl (by decide) rfl rfl rfl rfl (Nat.le_of_ble_eq_true rfl) dX2_part_38 ⟨by decide, by decide⟩ ?_
          refine z_goto g 50 dX2_part_41 (by decide) ?_
          exact hret _ _ _ _ dX2_part_50 ((by unfold xk; simp only [ptOK, if_neg b2, if_neg b11, if_pos b18, if_pos b32, reduceIte, Bool.false_eq_true] <;> rfl)) ((by simp only [ptV, if_neg b2, if_neg b11, if_pos b18, if_pos b32, reduceIte, Bool.false_eq_true] <;> rfl)) (rfl)
      · exact hthr _ _ _ _ ⟨66, 116, 70, "no such part, or w is not 0 or 1", mi 1 rfl, mi 2 rfl, List.mem_of_getElem? (i := 3) rfl, rfl, fun w h => List.mem_cons_of_mem _ (List.mem_append_right _ (h)), teN_IAE, teO_c teO_IAE, by decide, dX2_part_21, dX2_part_24, dX2_part_25, dX2_part_27, dX2_part_30, by decide, by decide, by decide, by decide⟩ ((by unfold xk; simp only [ptOK, if_neg b2, if_neg b11, if_neg b18, reduceIte, Bool.false_eq_true] <;> rfl)) (rfl)
theorem nd_X2_part : yX2_part.cls = RX2 ∧ yX2_part.cls ≠ "java/lang/invoke/MethodHandle" ∧ yX2_part.cls ≠ "java/lang/invoke/VarHandle" ∧ (parseMethodDescriptor yX2_part.desc).map (fun d => d.parameters.length) = some 3 := by decide +kernel
set_option maxHeartbeats 4000000 in
set_option maxRecDepth 100000 in
/-- integral(root, k, w) -/
theorem k_X2_integral (l : Launch) (hlt : l.stackTraces = false) (G : va_G) (k : Nat → ClassId) (h0 a0 a1 a2 a3 a4 a5 a6 a7 a8 a9 a10 : Nat) (b3 : Nat) (Qu : Nat → Int64) (m : Nat → Nat) (A B : Nat → Int64) (p0 p1 p2 : Int32) : ∀ sz, vx_Met l yX2_integral wsX2_integral ({ frames := 6, cells := 1, slots := 6, locals := 82 }) (va_Pc [.ref h0, .int p0, .int p1, .int p2] (KPX G k [(h0, .inr (2, [.ref a0, .ref a1, .ref a2, .ref a3, .ref a4, .ref a5, .ref a6, .ref a7, .ref a8, .ref a9, .ref a10])), (a3, .inr (1, [.ref b3])), (b3, .inl (k 2, 7, .inr (.inl Qu))), (a4, .inl (k 1, 7, .inl (fun j => nI (m j)))), (a5, .inl (k 2, 35, .inr (.inl A))), (a6, .inl (k 2, 35, .inr (.inl B)))] sz)) (va_Ql (fun r (_ : Unit) => xk (igOK m p0 p1 p2) = none ∧ r = igV A B Qu p0 p1 p2) (KQ G [(h0, .inr (2, [.ref a0, .ref a1, .ref a2, .ref a3, .ref a4, .ref a5, .ref a6, .ref a7, .ref a8, .ref a9, .ref a10])), (a3, .inr (1, [.ref b3])), (b3, .inl (k 2, 7, .inr (.inl Qu))), (a4, .inl (k 1, 7, .inl (fun j => nI (m j)))), (a5, .inl (k 2, 35, .inr (.inl A))), (a6, .inl (k 2, 35, .inr (.inl B)))] (va_A [(h0, .inr (2, [.ref a0, .ref a1, .ref a2, .ref a3, .ref a4, .ref a5, .ref a6, .ref a7, .ref a8, .ref a9, .ref a10])), (a3, .inr (1, [.ref b3])), (b3, .inl (k 2, 7, .inr (.inl Qu))), (a4, .inl (k 1, 7, .inl (fun j => nI (m j)))), (a5, .inl (k 2, 35, .inr (.inl A))), (a6, .inl (k 2, 35, .inr (.inl B)))] sz)) (va_A [(h0, .inr (2, [.ref a0, .ref a1, .ref a2, .ref a3, .ref a4, .ref a5, .ref a6, .ref a7, .ref a8, .ref a9, .ref a10])), (a3, .inr (1, [.ref b3])), (b3, .inl (k 2, 7, .inr (.inl Qu))), (a4, .inl (k 1, 7, .inl (fun j => nI (m j)))), (a5, .inl (k 2, 35, .inr (.inl A))), (a6, .inl (k 2, 35, .inr (.inl B)))] sz)) (XQ (xk (igOK m p0 p1 p2)) [(h0, .inr (2, [.ref a0, .ref a1, .ref a2, .ref a3, .ref a4, .ref a5, .ref a6, .ref a7, .ref a8, .ref a9, .ref a10])), (a3, .inr (1, [.ref b3])), (b3, .inl (k 2, 7, .inr (.inl Qu))), (a4, .inl (k 1, 7, .inl (fun j => nI (m j)))), (a5, .inl (k 2, 35, .inr (.inl A))), (a6, .inl (k 2, 35, .inr (.inl B)))] G (va_A [(h0, .inr (2, [.ref a0, .ref a1, .ref a2, .ref a3, .ref a4, .ref a5, .ref a6, .ref a7, .ref a8, .ref a9, .ref a10])), (a3, .inr (1, [.ref b3])), (b3, .inl (k 2, 7, .inr (.inl Qu))), (a4, .inl (k 1, 7, .inl (fun j => nI (m j)))), (a5, .inl (k 2, 35, .inr (.inl A))), (a6, .inl (k 2, 35, .inr (.inl B)))] sz)) 1 6 (va_A [(h0, .inr (2, [.ref a0, .ref a1, .ref a2, .ref a3, .ref a4, .ref a5, .ref a6, .ref a7, .ref a8, .ref a9, .ref a10])), (a3, .inr (1, [.ref b3])), (b3, .inl (k 2, 7, .inr (.inl Qu))), (a4, .inl (k 1, 7, .inl (fun j => nI (m j)))), (a5, .inl (k 2, 35, .inr (.inl A))), (a6, .inl (k 2, 35, .inr (.inl B)))] sz) := by
  refine met_xl hlt (lv0 := [(0, .ref h0), (1, .int p0), (2, .int p1), (3, .int p2)]) (own := RX2) (by decide) rfl rfl (Nat.le_of_ble_eq_true rfl) rfl (fun Z gx hret hthr => ?_)
  have g := gx.gd
  have hX2 : ∀ w ∈ u_ws RX2 TX2 11, w ∈ wsX2_integral := fun w h => List.mem_cons_of_mem _ (List.mem_append_left _ (List.mem_append_left _ (List.mem_append_right _ (h))))
  refine z_aload_n g dX2_integral_0 0 rfl ?_
  refine z_iload_n g dX2_integral_1 1 rfl ?_
  refine z_iload_n g dX2_integral_2 2 rfl ?_
  refine z_callVi (w' := [_, _, _, _, _, _]) (wr := [_, _, _, _]) g (k_X2_isInIntegral l G k _ _ _ _ _ _ _ _ _ _ _ _ _ _ _) 2 gX2_integral_X2_isInIntegral rfl rfl rfl nd_X2_isInIntegral ⟨by decide, by decide⟩ 0 rfl rfl [0, 3] [1, 2, 4, 5] [4, 0, 1, 5, 2, 3] rfl rfl rfl rfl (by decide) rfl rfl rfl rfl (Nat.le_of_ble_eq_true rfl) dX2_integral_3 ⟨by decide, by decide⟩ ?_
  refine z_bf_eq g (tgt := 16) dX2_integral_6 (by decide) (fun b6 => ?_) (fun b6 => ?_)
  · exact hthr _ _ _ _ ⟨66, 129, 70, "the integral has no such place, or w is not 0 or 1", mi 1 rfl, mi 2 rfl, List.mem_of_getElem? (i := 4) rfl, rfl, fun w h => List.mem_cons_of_mem _ (List.mem_append_right _ (h)), teN_IAE, teO_c teO_IAE, by decide, dX2_integral_16, dX2_integral_19, dX2_integral_20, dX2_integral_22, dX2_integral_25, by decide, by decide, by decide, by decide⟩ ((by unfold xk; simp only [igOK, if_neg (Bool.eq_false_iff.mp b6), reduceIte, Bool.false_eq_true] <;> rfl)) (rfl)
  · refine z_iload_n g dX2_integral_9 3 rfl ?_
    refine z_callSi (w' := [_, _, _, _, _, _]) (wr := [_, _, _, _, _, _]) g (k_X2_isSide l G k _) 1 gX2_integral_X2_isSide rfl rfl rfl nd_X2_isSide ⟨by decide, by decide⟩ [] [0, 1, 2, 3, 4, 5] [0, 1, 2, 3, 4, 5] rfl rfl rfl rfl (by decide) rfl rfl rfl rfl (Nat.le_of_ble_eq_true rfl) dX2_integral_10 ⟨by decide, by decide⟩ ?_
    refine z_bd_ne g (tgt := 26) dX2_integral_13 (by decide) (fun b13 => ?_) (fun b13 => ?_)
    · refine z_iload_n g dX2_integral_26 1 rfl ?_
      refine z_bi g 9 dX2_integral_27 (by decide) ?_
      refine z_ic_ne g (tgt := 49) dX2_integral_29 (by decide) (fun b29 => ?_) (fun b29 => ?_)
      · refine z_iload_n g dX2_integral_49 2 rfl ?_
        refine z_if_ne g (tgt := 73) dX2_integral_50 (by decide) (fun b50 => ?_) (fun b50 => ?_)
        · refine z_aload_n g dX2_integral_73 0 rfl ?_
          refine z_iload_n g dX2_integral_74 1 rfl ?_
          refine z_iload_n g dX2_integral_75 2 rfl ?_
          refine z_ic1 g dX2_integral_76 ?_
          refine z_iadd g dX2_integral_77 ?_
          refine z_callVl (w' := [_, _, _, _, _, _]) (wr := [_, _, _, _]) g (k_X2_partAbove l G k _ _ _ _ _ _ _ _ _ _ _ _ _ _ _) 2 gX2_integral_X2_partAbove rfl rfl rfl nd_X2_partAbove ⟨by decide, by decide⟩ 0 rfl rfl [0, 4] [1, 2, 3, 5] [4, 0, 1, 2, 5, 3] rfl rfl rfl rfl (by decide) rfl rfl rfl rfl (Nat.le_of_ble_eq_true rfl) dX2_integral_78 ⟨by decide, by decide⟩ ?_
          refine z_lneg g dX2_integral_81 ?_
          refine z_aload_n g dX2_integral_82 0 rfl ?_
          refine z_iload_n g dX2_integral_83 1 rfl ?_
          refine z_iload_n g dX2_integral_84 2 rfl ?_
          refine z_ic1 g dX2_integral_85 ?_
          refine z_iadd g dX2_integral_86 ?_
          refine z_callVl (w' := [_, _, _, _, _, _]) (wr := [_, _, _, _]) g (k_X2_partBelow l G k _ _ _ _ _ _ _ _ _ _ _ _ _ _ _) 2 gX2_integral_X2_partBelow rfl rfl rfl nd_X2_partBelow ⟨by decide, by decide⟩ 0 rfl rfl [0, 5] [1, 2, 3, 4] [4, 0, 1, 2, 3, 5] rfl rfl rfl rfl (by decide) rfl rfl rfl rfl (Nat.le_of_ble_eq_true rfl) dX2_integral_87 ⟨by decide, by decide⟩ ?_
          refine z_iload_n g dX2_integral_90 2 rfl ?_
          refine z_i2l g dX2_integral_91 ?_
          refine z_lmul g dX2_integral_92 ?_
          refine z_iload_n g dX2_integral_93 3 rfl ?_
          refine z_callSl (w' := [_, _, _, _, _, _]) (wr := [_, _, _, _, _, _]) g (k_X2_inLowestTerms l G k _ _ _) 3 gX2_integral_X2_inLowestTerms rfl rfl rfl nd_X2_inLowestTerms ⟨by decide, by decide⟩ [] [0, 1, 2, 3, 4, 5] [0, 1, 2, 3, 4, 5] rfl rfl rfl rfl (by decide) rfl rfl rfl rfl (Nat.le_of_ble_eq_true rfl) dX2_integral_94 ⟨by decide, by decide⟩ ?_
          exact hret _ _ _ _ dX2_integral_97 ((by unfold xk; simp only [igOK, if_pos b6, if_pos b13, if_neg b29, if_neg b50, reduceIte, Bool.false_eq_true] <;> rfl)) ((by simp only [igV, if_pos b6, if_pos b13, if_neg b29, if_neg b50, reduceIte, Bool.false_eq_true] <;> rfl)) (rfl)
        · refine z_iload_n g dX2_integral_53 3 rfl ?_
          refine z_if_ne g (tgt := 66) dX2_integral_54 (by decide) (fun b54 => ?_) (fun b54 => ?_)
          · refine z_aload_n g dX2_integral_66 0 rfl ?_
            refine z_iload_n g dX2_integral_67 1 rfl ?_
            refine z_ic1 g dX2_integral_68 ?_
            refine z_callVl (w' := [_, _, _, _, _, _]) (wr := [_, _, _, _]) g (k_X2_partBelow l G k _ _ _ _ _ _ _ _ _ _ _ _ _ _ _) 2 gX2_integral_X2_partBelow rfl rfl rfl nd_X2_partBelow ⟨by decide, by decide⟩ 0 rfl rfl [0, 5] [1, 2, 3, 4] [4, 0, 1, 2, 3, 5] rfl rfl rfl rfl (by decide) rfl rfl rfl rfl (Nat.le_of_ble_eq_true rfl) dX2_integral_69 ⟨by decide, by decide⟩ ?_
            exact hret _ _ _ _ dX2_integral_72 ((by unfold xk; simp only [igOK, if_pos b6, if_pos b13, if_neg b29, if_pos b50, if_neg b54, reduceIte, Bool.false_eq_true] <;> rfl)) ((by simp only [igV, if_pos b6, if_pos b13, if_neg b29, if_pos b50, if_neg b54, reduceIte, Bool.false_eq_true] <;> rfl)) (rfl)
          · refine z_aload_n g dX2_integral_57 0 rfl ?_
            refine z_iload_n g dX2_integral_58 1 rfl ?_
            refine z_ic1 g dX2_integral_59 ?_
            refine z_callVl (w' := [_, _, _, _, _, _]) (wr := [_, _, _, _]) g (k_X2_partAbove l G k _ _ _ _ _ _ _ _ _ _ _ _ _ _ _) 2 gX2_integral_X2_partAbove rfl rfl rfl nd_X2_partAbove ⟨by decide, by decide⟩ 0 rfl rfl [0, 4] [1, 2, 3, 5] [4, 0, 1, 2, 5, 3] rfl rfl rfl rfl (by decide) rfl rfl rfl rfl (Nat.le_of_ble_eq_true rfl) dX2_integral_60 ⟨by decide, by decide⟩ ?_
            refine z_goto g 72 dX2_integral_63 (by decide) ?_
            exact hret _ _ _ _ dX2_integral_72 ((by unfold xk; simp only [igOK, if_pos b6, if_pos b13, if_neg b29, if_pos b50, if_pos b54, reduceIte, Bool.false_eq_true] <;> rfl)) ((by simp only [igV, if_pos b6, if_pos b13, if_neg b29, if_pos b50, if_pos b54, reduceIte, Bool.false_eq_true] <;> rfl)) (rfl)
      · refine z_aload_n g dX2_integral_32 0 rfl ?_
        refine z_get g hX2 0 rfl rfl 3 (by decide) (mi 3 rfl) rfl dX2_integral_33 ?_
        refine z_iload_n g dX2_integral_36 2 rfl ?_
        refine z_ic1 g dX2_integral_37 ?_
        refine z_isub g dX2_integral_38 ?_
        refine z_callVl (w' := [_, _, _, _, _, _]) (wr := [_, _, _, _]) g (k_X1_get l G k _ _ _ _) 1 gX2_integral_X1_get rfl rfl rfl nd_X1_get ⟨by decide, by decide⟩ 1 rfl rfl [1, 2] [0, 3, 4, 5] [0, 4, 5, 1, 2, 3] rfl rfl rfl rfl (by decide) rfl rfl rfl rfl (Nat.le_of_ble_eq_true rfl) dX2_integral_39 ⟨by decide, by decide⟩ ?_
        refine z_iload_n g dX2_integral_42 2 rfl ?_
        refine z_i2l g dX2_integral_43 ?_
        refine z_iload_n g dX2_integral_44 3 rfl ?_
        refine z_callSl (w' := [_, _, _, _, _, _]) (wr := [_, _, _, _, _, _]) g (k_X2_inLowestTerms l G k _ _ _) 3 gX2_integral_X2_inLowestTerms rfl rfl rfl nd_X2_inLowestTerms ⟨by decide, by decide⟩ [] [0, 1, 2, 3, 4, 5] [0, 1, 2, 3, 4, 5] rfl rfl rfl rfl (by decide) rfl rfl rfl rfl (Nat.le_of_ble_eq_true rfl) dX2_integral_45 ⟨by decide, by decide⟩ ?_
        exact hret _ _ _ _ dX2_integral_48 ((by unfold xk; simp only [igOK, if_pos b6, if_pos b13, if_pos b29, reduceIte, Bool.false_eq_true] <;> rfl)) ((by simp only [igV, if_pos b6, if_pos b13, if_pos b29, reduceIte, Bool.false_eq_true] <;> rfl)) (rfl)
    · exact hthr _ _ _ _ ⟨66, 129, 70, "the integral has no such place, or w is not 0 or 1", mi 1 rfl, mi 2 rfl, List.mem_of_getElem? (i := 4) rfl, rfl, fun w h => List.mem_cons_of_mem _ (List.mem_append_right _ (h)), teN_IAE, teO_c teO_IAE, by decide, dX2_integral_16, dX2_integral_19, dX2_integral_20, dX2_integral_22, dX2_integral_25, by decide, by decide, by decide, by decide⟩ ((by unfold xk; simp only [igOK, if_pos b6, if_neg b13, reduceIte, Bool.false_eq_true] <;> rfl)) (rfl)
theorem nd_X2_integral : yX2_integral.cls = RX2 ∧ yX2_integral.cls ≠ "java/lang/invoke/MethodHandle" ∧ yX2_integral.cls ≠ "java/lang/invoke/VarHandle" ∧ (parseMethodDescriptor yX2_integral.desc).map (fun d => d.parameters.length) = some 3 := by decide +kernel
set_option maxHeartbeats 4000000 in
set_option maxRecDepth 100000 in
/-- value(t, w) -/
theorem k_X2_value (l : Launch) (hlt : l.stackTraces = false) (G : va_G) (k : Nat → ClassId) (h0 a0 a1 a2 a3 a4 a5 a6 a7 a8 a9 a10 : Nat) (b1 b2 : Nat) (F Be : Nat → Int64) (m : Nat → Nat) (p0 p1 : Int32) : ∀ sz, vx_Met l yX2_value wsX2_value ({ frames := 6, cells := 1, slots := 6, locals := 82 }) (va_Pc [.ref h0, .int p0, .int p1] (KPX G k [(h0, .inr (2, [.ref a0, .ref a1, .ref a2, .ref a3, .ref a4, .ref a5, .ref a6, .ref a7, .ref a8, .ref a9, .ref a10])), (a1, .inr (1, [.ref b1])), (b1, .inl (k 2, 7, .inr (.inl F))), (a2, .inr (1, [.ref b2])), (b2, .inl (k 2, 7, .inr (.inl Be))), (a4, .inl (k 1, 7, .inl (fun j => nI (m j))))] sz)) (va_Ql (fun r (_ : Unit) => xk (vlOK m p0 p1) = none ∧ r = vlV F Be p0 p1) (KQ G [(h0, .inr (2, [.ref a0, .ref a1, .ref a2, .ref a3, .ref a4, .ref a5, .ref a6, .ref a7, .ref a8, .ref a9, .ref a10])), (a1, .inr (1, [.ref b1])), (b1, .inl (k 2, 7, .inr (.inl F))), (a2, .inr (1, [.ref b2])), (b2, .inl (k 2, 7, .inr (.inl Be))), (a4, .inl (k 1, 7, .inl (fun j => nI (m j))))] (va_A [(h0, .inr (2, [.ref a0, .ref a1, .ref a2, .ref a3, .ref a4, .ref a5, .ref a6, .ref a7, .ref a8, .ref a9, .ref a10])), (a1, .inr (1, [.ref b1])), (b1, .inl (k 2, 7, .inr (.inl F))), (a2, .inr (1, [.ref b2])), (b2, .inl (k 2, 7, .inr (.inl Be))), (a4, .inl (k 1, 7, .inl (fun j => nI (m j))))] sz)) (va_A [(h0, .inr (2, [.ref a0, .ref a1, .ref a2, .ref a3, .ref a4, .ref a5, .ref a6, .ref a7, .ref a8, .ref a9, .ref a10])), (a1, .inr (1, [.ref b1])), (b1, .inl (k 2, 7, .inr (.inl F))), (a2, .inr (1, [.ref b2])), (b2, .inl (k 2, 7, .inr (.inl Be))), (a4, .inl (k 1, 7, .inl (fun j => nI (m j))))] sz)) (XQ (xk (vlOK m p0 p1)) [(h0, .inr (2, [.ref a0, .ref a1, .ref a2, .ref a3, .ref a4, .ref a5, .ref a6, .ref a7, .ref a8, .ref a9, .ref a10])), (a1, .inr (1, [.ref b1])), (b1, .inl (k 2, 7, .inr (.inl F))), (a2, .inr (1, [.ref b2])), (b2, .inl (k 2, 7, .inr (.inl Be))), (a4, .inl (k 1, 7, .inl (fun j => nI (m j))))] G (va_A [(h0, .inr (2, [.ref a0, .ref a1, .ref a2, .ref a3, .ref a4, .ref a5, .ref a6, .ref a7, .ref a8, .ref a9, .ref a10])), (a1, .inr (1, [.ref b1])), (b1, .inl (k 2, 7, .inr (.inl F))), (a2, .inr (1, [.ref b2])), (b2, .inl (k 2, 7, .inr (.inl Be))), (a4, .inl (k 1, 7, .inl (fun j => nI (m j))))] sz)) 1 6 (va_A [(h0, .inr (2, [.ref a0, .ref a1, .ref a2, .ref a3, .ref a4, .ref a5, .ref a6, .ref a7, .ref a8, .ref a9, .ref a10])), (a1, .inr (1, [.ref b1])), (b1, .inl (k 2, 7, .inr (.inl F))), (a2, .inr (1, [.ref b2])), (b2, .inl (k 2, 7, .inr (.inl Be))), (a4, .inl (k 1, 7, .inl (fun j => nI (m j))))] sz) := by
  refine met_xl hlt (lv0 := [(0, .ref h0), (1, .int p0), (2, .int p1)]) (own := RX2) (by decide) rfl rfl (Nat.le_of_ble_eq_true rfl) rfl (fun Z gx hret hthr => ?_)
  have g := gx.gd
  have hX2 : ∀ w ∈ u_ws RX2 TX2 11, w ∈ wsX2_value := fun w h => List.mem_cons_of_mem _ (List.mem_append_left _ (List.mem_append_left _ (List.mem_append_right _ (h))))
  refine z_iload_n g dX2_value_0 1 rfl ?_
  refine z_bi g (-20) dX2_value_1 (by decide) ?_
  refine z_ic_lt g (tgt := 27) dX2_value_3 (by decide) (fun b3 => ?_) (fun b3 => ?_)
  · exact hthr _ _ _ _ ⟨66, 135, 70, "t is a root or not -20 .. 20, or w is not 0 or 1", mi 1 rfl, mi 2 rfl, List.mem_of_getElem? (i := 5) rfl, rfl, fun w h => List.mem_cons_of_mem _ (List.mem_append_right _ (h)), teN_IAE, teO_c teO_IAE, by decide, dX2_value_27, dX2_value_30, dX2_value_31, dX2_value_33, dX2_value_36, by decide, by decide, by decide, by decide⟩ ((by unfold xk; simp only [vlOK, if_pos b3, reduceIte, Bool.false_eq_true] <;> rfl)) (rfl)
  · refine z_iload_n g dX2_value_6 1 rfl ?_
    refine z_bi g 20 dX2_value_7 (by decide) ?_
    refine z_ic_gt g (tgt := 27) dX2_value_9 (by decide) (fun b9 => ?_) (fun b9 => ?_)
    · exact hthr _ _ _ _ ⟨66, 135, 70, "t is a root or not -20 .. 20, or w is not 0 or 1", mi 1 rfl, mi 2 rfl, List.mem_of_getElem? (i := 5) rfl, rfl, fun w h => List.mem_cons_of_mem _ (List.mem_append_right _ (h)), teN_IAE, teO_c teO_IAE, by decide, dX2_value_27, dX2_value_30, dX2_value_31, dX2_value_33, dX2_value_36, by decide, by decide, by decide, by decide⟩ ((by unfold xk; simp only [vlOK, if_neg b3, if_pos b9, reduceIte, Bool.false_eq_true] <;> rfl)) (rfl)
    · refine z_aload_n g dX2_value_12 0 rfl ?_
      refine z_iload_n g dX2_value_13 1 rfl ?_
      refine z_callVi (w' := [_, _, _, _, _, _]) (wr := [_, _, _, _]) g (k_X2_many l G k _ _ _ _ _ _ _ _ _ _ _ _ _ _) 1 gX2_value_X2_many rfl rfl rfl nd_X2_many ⟨by decide, by decide⟩ 0 rfl rfl [0, 5] [1, 2, 3, 4] [4, 0, 1, 2, 3, 5] rfl rfl rfl rfl (by decide) rfl rfl rfl rfl (Nat.le_of_ble_eq_true rfl) dX2_value_14 ⟨by decide, by decide⟩ ?_
      refine z_if_gt g (tgt := 27) dX2_value_17 (by decide) (fun b17 => ?_) (fun b17 => ?_)
      · exact hthr _ _ _ _ ⟨66, 135, 70, "t is a root or not -20 .. 20, or w is not 0 or 1", mi 1 rfl, mi 2 rfl, List.mem_of_getElem? (i := 5) rfl, rfl, fun w h => List.mem_cons_of_mem _ (List.mem_append_right _ (h)), teN_IAE, teO_c teO_IAE, by decide, dX2_value_27, dX2_value_30, dX2_value_31, dX2_value_33, dX2_value_36, by decide, by decide, by decide, by decide⟩ ((by unfold xk; simp only [vlOK, if_neg b3, if_neg b9, if_pos b17, reduceIte, Bool.false_eq_true] <;> rfl)) (rfl)
      · refine z_iload_n g dX2_value_20 2 rfl ?_
        refine z_callSi (w' := [_, _, _, _, _, _]) (wr := [_, _, _, _, _, _]) g (k_X2_isSide l G k _) 1 gX2_value_X2_isSide rfl rfl rfl nd_X2_isSide ⟨by decide, by decide⟩ [] [0, 1, 2, 3, 4, 5] [0, 1, 2, 3, 4, 5] rfl rfl rfl rfl (by decide) rfl rfl rfl rfl (Nat.le_of_ble_eq_true rfl) dX2_value_21 ⟨by decide, by decide⟩ ?_
        refine z_bd_ne g (tgt := 37) dX2_value_24 (by decide) (fun b24 => ?_) (fun b24 => ?_)
        · refine z_aload_n g dX2_value_37 0 rfl ?_
          refine z_get g hX2 0 rfl rfl 1 (by decide) (mi 3 rfl) rfl dX2_value_38 ?_
          refine z_iload_n g dX2_value_41 1 rfl ?_
          refine z_callVl (w' := [_, _, _, _, _, _]) (wr := [_, _, _, _]) g (k_X1_exactlyAt l G k _ _ _ _) 1 gX2_value_X1_exactlyAt rfl rfl rfl nd_X1_exactlyAt ⟨by decide, by decide⟩ 1 rfl rfl [1, 2] [0, 3, 4, 5] [0, 4, 5, 1, 2, 3] rfl rfl rfl rfl (by decide) rfl rfl rfl rfl (Nat.le_of_ble_eq_true rfl) dX2_value_42 ⟨by decide, by decide⟩ ?_
          refine z_aload_n g dX2_value_45 0 rfl ?_
          refine z_get g hX2 0 rfl rfl 2 (by decide) (mi 4 rfl) rfl dX2_value_46 ?_
          refine z_iload_n g dX2_value_49 1 rfl ?_
          refine z_callVl (w' := [_, _, _, _, _, _]) (wr := [_, _, _, _]) g (k_X1_exactlyAt l G k _ _ _ _) 1 gX2_value_X1_exactlyAt rfl rfl rfl nd_X1_exactlyAt ⟨by decide, by decide⟩ 3 rfl rfl [3, 4] [0, 1, 2, 5] [0, 1, 2, 4, 5, 3] rfl rfl rfl rfl (by decide) rfl rfl rfl rfl (Nat.le_of_ble_eq_true rfl) dX2_value_50 ⟨by decide, by decide⟩ ?_
          refine z_iload_n g dX2_value_53 2 rfl ?_
          refine z_callSl (w' := [_, _, _, _, _, _]) (wr := [_, _, _, _, _, _]) g (k_X2_inLowestTerms l G k _ _ _) 3 gX2_value_X2_inLowestTerms rfl rfl rfl nd_X2_inLowestTerms ⟨by decide, by decide⟩ [] [0, 1, 2, 3, 4, 5] [0, 1, 2, 3, 4, 5] rfl rfl rfl rfl (by decide) rfl rfl rfl rfl (Nat.le_of_ble_eq_true rfl) dX2_value_54 ⟨by decide, by decide⟩ ?_
          exact hret _ _ _ _ dX2_value_57 ((by unfold xk; simp only [vlOK, if_neg b3, if_neg b9, if_neg b17, if_pos b24, reduceIte, Bool.false_eq_true] <;> rfl)) (rfl) (rfl)
        · exact hthr _ _ _ _ ⟨66, 135, 70, "t is a root or not -20 .. 20, or w is not 0 or 1", mi 1 rfl, mi 2 rfl, List.mem_of_getElem? (i := 5) rfl, rfl, fun w h => List.mem_cons_of_mem _ (List.mem_append_right _ (h)), teN_IAE, teO_c teO_IAE, by decide, dX2_value_27, dX2_value_30, dX2_value_31, dX2_value_33, dX2_value_36, by decide, by decide, by decide, by decide⟩ ((by unfold xk; simp only [vlOK, if_neg b3, if_neg b9, if_neg b17, if_neg b24, reduceIte, Bool.false_eq_true] <;> rfl)) (rfl)
theorem nd_X2_value : yX2_value.cls = RX2 ∧ yX2_value.cls ≠ "java/lang/invoke/MethodHandle" ∧ yX2_value.cls ≠ "java/lang/invoke/VarHandle" ∧ (parseMethodDescriptor yX2_value.desc).map (fun d => d.parameters.length) = some 2 := by decide +kernel
set_option maxHeartbeats 4000000 in
set_option maxRecDepth 100000 in
/-- at(x) -/
theorem k_X2_at (l : Launch) (hlt : l.stackTraces = false) (G : va_G) (k : Nat → ClassId) (h0 a0 a1 a2 a3 a4 a5 a6 a7 a8 a9 a10 : Nat) (b1 b2 : Nat) (F Be : Nat → Int64) (p0 : UInt64) (hH : atH F Be p0) : ∀ sz, vx_Met l yX2_at wsX2_at ({ frames := 6, cells := 1, slots := 6, locals := 82 }) (va_Pc [.ref h0, .double p0] (KPX G k [(h0, .inr (2, [.ref a0, .ref a1, .ref a2, .ref a3, .ref a4, .ref a5, .ref a6, .ref a7, .ref a8, .ref a9, .ref a10])), (a1, .inr (1, [.ref b1])), (b1, .inl (k 2, 7, .inr (.inl F))), (a2, .inr (1, [.ref b2])), (b2, .inl (k 2, 7, .inr (.inl Be)))] sz)) (va_Qd (fun r (_ : Unit) => xk (nearP p0) = none ∧ r = atV F Be p0) (KQ G [(h0, .inr (2, [.ref a0, .ref a1, .ref a2, .ref a3, .ref a4, .ref a5, .ref a6, .ref a7, .ref a8, .ref a9, .ref a10])), (a1, .inr (1, [.ref b1])), (b1, .inl (k 2, 7, .inr (.inl F))), (a2, .inr (1, [.ref b2])), (b2, .inl (k 2, 7, .inr (.inl Be)))] (va_A [(h0, .inr (2, [.ref a0, .ref a1, .ref a2, .ref a3, .ref a4, .ref a5, .ref a6, .ref a7, .ref a8, .ref a9, .ref a10])), (a1, .inr (1, [.ref b1])), (b1, .inl (k 2, 7, .inr (.inl F))), (a2, .inr (1, [.ref b2])), (b2, .inl (k 2, 7, .inr (.inl Be)))] sz)) (va_A [(h0, .inr (2, [.ref a0, .ref a1, .ref a2, .ref a3, .ref a4, .ref a5, .ref a6, .ref a7, .ref a8, .ref a9, .ref a10])), (a1, .inr (1, [.ref b1])), (b1, .inl (k 2, 7, .inr (.inl F))), (a2, .inr (1, [.ref b2])), (b2, .inl (k 2, 7, .inr (.inl Be)))] sz)) (XQ (xk (nearP p0)) [(h0, .inr (2, [.ref a0, .ref a1, .ref a2, .ref a3, .ref a4, .ref a5, .ref a6, .ref a7, .ref a8, .ref a9, .ref a10])), (a1, .inr (1, [.ref b1])), (b1, .inl (k 2, 7, .inr (.inl F))), (a2, .inr (1, [.ref b2])), (b2, .inl (k 2, 7, .inr (.inl Be)))] G (va_A [(h0, .inr (2, [.ref a0, .ref a1, .ref a2, .ref a3, .ref a4, .ref a5, .ref a6, .ref a7, .ref a8, .ref a9, .ref a10])), (a1, .inr (1, [.ref b1])), (b1, .inl (k 2, 7, .inr (.inl F))), (a2, .inr (1, [.ref b2])), (b2, .inl (k 2, 7, .inr (.inl Be)))] sz)) 1 6 (va_A [(h0, .inr (2, [.ref a0, .ref a1, .ref a2, .ref a3, .ref a4, .ref a5, .ref a6, .ref a7, .ref a8, .ref a9, .ref a10])), (a1, .inr (1, [.ref b1])), (b1, .inl (k 2, 7, .inr (.inl F))), (a2, .inr (1, [.ref b2])), (b2, .inl (k 2, 7, .inr (.inl Be)))] sz) := by
  refine met_xd hlt (lv0 := [(0, .ref h0), (1, .double p0)]) (own := RX2) (by decide) rfl rfl (Nat.le_of_ble_eq_true rfl) rfl (fun Z gx hret hthr => ?_)
  have g := gx.gd
  have hX2 : ∀ w ∈ u_ws RX2 TX2 11, w ∈ wsX2_at := fun w h => List.mem_cons_of_mem _ (List.mem_append_left _ (List.mem_append_left _ (List.mem_append_right _ (h))))
  refine z_dload_n g dX2_at_0 1 rfl ?_
  refine z_callSi (w' := [_, _, _, _, _]) (wr := [_, _, _, _, _]) g (k_X2_isNear l G k _) 1 gX2_at_X2_isNear rfl rfl rfl nd_X2_isNear ⟨by decide, by decide⟩ [] [0, 1, 2, 3, 4] [0, 1, 2, 3, 4] rfl rfl rfl rfl (by decide) rfl rfl rfl rfl (Nat.le_of_ble_eq_true rfl) dX2_at_1 ⟨by decide, by decide⟩ ?_
  refine z_bf_ne g (tgt := 17) dX2_at_4 (by decide) (fun b4 => ?_) (fun b4 => ?_)
  · refine z_aload_n g dX2_at_17 0 rfl ?_
    refine z_get g hX2 0 rfl rfl 2 (by decide) (mi 3 rfl) rfl dX2_at_18 ?_
    refine z_dload_n g dX2_at_21 1 rfl ?_
    refine z_callVd (w' := [_, _, _, _, _]) (wr := [_, _, _]) g (k_X1_inDoublesAt l G k _ _ _ _ (hH b4).1) 1 gX2_at_X1_inDoublesAt rfl rfl rfl nd_X1_inDoublesAt ⟨by decide, by decide⟩ 3 rfl rfl [3, 4] [0, 1, 2] [0, 1, 2, 3, 4] rfl rfl rfl rfl (by decide) rfl rfl rfl rfl (Nat.le_of_ble_eq_true rfl) dX2_at_22 ⟨by decide, by decide⟩ ?_
    refine z_dstore_n (lv' := [(3, .double _), (0, .ref _), (1, .double _)]) g dX2_at_25 (by decide) rfl ?_
    refine z_dload_n g dX2_at_26 0 rfl ?_
    refine z_dc0 g dX2_at_27 ?_
    refine z_dcmp g dX2_at_28 ?_
    refine z_if_ne g (tgt := 36) dX2_at_29 (by decide) (fun b29 => ?_) (fun b29 => ?_)
    · refine z_aload_n g dX2_at_36 1 rfl ?_
      refine z_get g hX2 0 rfl rfl 1 (by decide) (mi 4 rfl) rfl dX2_at_37 ?_
      refine z_dload_n g dX2_at_40 2 rfl ?_
      refine z_callVd (w' := [_, _, _, _, _]) (wr := [_, _, _]) g (k_X1_inDoublesAt l G k _ _ _ _ ((hH b4).2 (decide_eq_false b29)).1) 1 gX2_at_X1_inDoublesAt rfl rfl rfl nd_X1_inDoublesAt ⟨by decide, by decide⟩ 1 rfl rfl [1, 2] [0, 3, 4] [0, 3, 4, 1, 2] rfl rfl rfl rfl (by decide) rfl rfl rfl rfl (Nat.le_of_ble_eq_true rfl) dX2_at_41 ⟨by decide, by decide⟩ ?_
      refine z_dload_n g dX2_at_44 0 rfl ?_
      refine z_ddiv g dX2_at_45 ((hH b4).2 (decide_eq_false b29)).2 ?_
      exact hret _ _ _ _ dX2_at_46 ((by unfold xk; rw [b4]; rfl)) ((by unfold atV; first | rw [if_pos (show dz (hdP Be p0 6 7) = true from decide_eq_true b29)] | rw [if_neg (show ¬ dz (hdP Be p0 6 7) = true from Bool.eq_false_iff.mp (decide_eq_false b29))])) (rfl)
    · refine z_dc0 g dX2_at_32 ?_
      refine z_goto g 46 dX2_at_33 (by decide) ?_
      exact hret _ _ _ _ dX2_at_46 ((by unfold xk; rw [b4]; rfl)) ((by unfold atV; first | rw [if_pos (show dz (hdP Be p0 6 7) = true from decide_eq_true b29)] | rw [if_neg (show ¬ dz (hdP Be p0 6 7) = true from Bool.eq_false_iff.mp (decide_eq_false b29))])) (rfl)
  · exact hthr _ _ _ _ ⟨66, 144, 70, "x is not -100.0 .. 100.0", mi 1 rfl, mi 2 rfl, List.mem_of_getElem? (i := 6) rfl, rfl, fun w h => List.mem_cons_of_mem _ (List.mem_append_right _ (h)), teN_IAE, teO_c teO_IAE, by decide, dX2_at_7, dX2_at_10, dX2_at_11, dX2_at_13, dX2_at_16, by decide, by decide, by decide, by decide⟩ ((by unfold xk; rw [b4]; rfl)) (rfl)
theorem nd_X2_at : yX2_at.cls = RX2 ∧ yX2_at.cls ≠ "java/lang/invoke/MethodHandle" ∧ yX2_at.cls ≠ "java/lang/invoke/VarHandle" ∧ (parseMethodDescriptor yX2_at.desc).map (fun d => d.parameters.length) = some 1 := by decide +kernel
set_option maxHeartbeats 4000000 in
set_option maxRecDepth 100000 in
/-- byParts(x) -/
theorem k_X2_byParts (l : Launch) (hlt : l.stackTraces = false) (G : va_G) (k : Nat → ClassId) (h0 a0 a1 a2 a3 a4 a5 a6 a7 a8 a9 a10 : Nat) (b3 : Nat) (Qu : Nat → Int64) (m : Nat → Nat) (A B : Nat → Int64) (p0 : UInt64) (hm : ∀ j, j < 7 → m j ≤ 5) (hH : bpH m A B Qu p0) : ∀ sz, vx_Met l yX2_byParts wsX2_byParts ({ frames := 6, cells := 1, slots := 6, locals := 98 }) (va_Pc [.ref h0, .double p0] (KPX G k [(h0, .inr (2, [.ref a0, .ref a1, .ref a2, .ref a3, .ref a4, .ref a5, .ref a6, .ref a7, .ref a8, .ref a9, .ref a10])), (a3, .inr (1, [.ref b3])), (b3, .inl (k 2, 7, .inr (.inl Qu))), (a4, .inl (k 1, 7, .inl (fun j => nI (m j)))), (a5, .inl (k 2, 35, .inr (.inl A))), (a6, .inl (k 2, 35, .inr (.inl B)))] sz)) (va_Qd (fun r (_ : Unit) => xk (nearP p0) = none ∧ r = bpS m A B Qu p0 7) (KQ G [(h0, .inr (2, [.ref a0, .ref a1, .ref a2, .ref a3, .ref a4, .ref a5, .ref a6, .ref a7, .ref a8, .ref a9, .ref a10])), (a3, .inr (1, [.ref b3])), (b3, .inl (k 2, 7, .inr (.inl Qu))), (a4, .inl (k 1, 7, .inl (fun j => nI (m j)))), (a5, .inl (k 2, 35, .inr (.inl A))), (a6, .inl (k 2, 35, .inr (.inl B)))] (va_A [(h0, .inr (2, [.ref a0, .ref a1, .ref a2, .ref a3, .ref a4, .ref a5, .ref a6, .ref a7, .ref a8, .ref a9, .ref a10])), (a3, .inr (1, [.ref b3])), (b3, .inl (k 2, 7, .inr (.inl Qu))), (a4, .inl (k 1, 7, .inl (fun j => nI (m j)))), (a5, .inl (k 2, 35, .inr (.inl A))), (a6, .inl (k 2, 35, .inr (.inl B)))] sz)) (va_A [(h0, .inr (2, [.ref a0, .ref a1, .ref a2, .ref a3, .ref a4, .ref a5, .ref a6, .ref a7, .ref a8, .ref a9, .ref a10])), (a3, .inr (1, [.ref b3])), (b3, .inl (k 2, 7, .inr (.inl Qu))), (a4, .inl (k 1, 7, .inl (fun j => nI (m j)))), (a5, .inl (k 2, 35, .inr (.inl A))), (a6, .inl (k 2, 35, .inr (.inl B)))] sz)) (XQ (xk (nearP p0)) [(h0, .inr (2, [.ref a0, .ref a1, .ref a2, .ref a3, .ref a4, .ref a5, .ref a6, .ref a7, .ref a8, .ref a9, .ref a10])), (a3, .inr (1, [.ref b3])), (b3, .inl (k 2, 7, .inr (.inl Qu))), (a4, .inl (k 1, 7, .inl (fun j => nI (m j)))), (a5, .inl (k 2, 35, .inr (.inl A))), (a6, .inl (k 2, 35, .inr (.inl B)))] G (va_A [(h0, .inr (2, [.ref a0, .ref a1, .ref a2, .ref a3, .ref a4, .ref a5, .ref a6, .ref a7, .ref a8, .ref a9, .ref a10])), (a3, .inr (1, [.ref b3])), (b3, .inl (k 2, 7, .inr (.inl Qu))), (a4, .inl (k 1, 7, .inl (fun j => nI (m j)))), (a5, .inl (k 2, 35, .inr (.inl A))), (a6, .inl (k 2, 35, .inr (.inl B)))] sz)) 1 6 (va_A [(h0, .inr (2, [.ref a0, .ref a1, .ref a2, .ref a3, .ref a4, .ref a5, .ref a6, .ref a7, .ref a8, .ref a9, .ref a10])), (a3, .inr (1, [.ref b3])), (b3, .inl (k 2, 7, .inr (.inl Qu))), (a4, .inl (k 1, 7, .inl (fun j => nI (m j)))), (a5, .inl (k 2, 35, .inr (.inl A))), (a6, .inl (k 2, 35, .inr (.inl B)))] sz) := by
  refine met_xd hlt (lv0 := [(0, .ref h0), (1, .double p0)]) (own := RX2) (by decide) rfl rfl (Nat.le_of_ble_eq_true rfl) rfl (fun Z gx hret hthr => ?_)
  have g := gx.gd
  have hX2 : ∀ w ∈ u_ws RX2 TX2 11, w ∈ wsX2_byParts := fun w h => List.mem_cons_of_mem _ (List.mem_append_left _ (List.mem_append_left _ (List.mem_append_right _ (h))))
  refine z_dload_n g dX2_byParts_0 1 rfl ?_
  refine z_callSi (w' := [_, _, _, _, _, _]) (wr := [_, _, _, _, _, _]) g (k_X2_isNear l G k _) 1 gX2_byParts_X2_isNear rfl rfl rfl nd_X2_isNear ⟨by decide, by decide⟩ [] [0, 1, 2, 3, 4, 5] [0, 1, 2, 3, 4, 5] rfl rfl rfl rfl (by decide) rfl rfl rfl rfl (Nat.le_of_ble_eq_true rfl) dX2_byParts_1 ⟨by decide, by decide⟩ ?_
  refine z_bf_ne g (tgt := 17) dX2_byParts_4 (by decide) (fun b4 => ?_) (fun b4 => ?_)
  · refine z_aload_n g dX2_byParts_17 0 rfl ?_
    refine z_get g hX2 0 rfl rfl 3 (by decide) (mi 3 rfl) rfl dX2_byParts_18 ?_
    refine z_dload_n g dX2_byParts_21 1 rfl ?_
    refine z_callVd (w' := [_, _, _, _, _, _]) (wr := [_, _, _, _]) g (k_X1_inDoublesAt l G k _ _ _ _ (hH b4).1) 1 gX2_byParts_X1_inDoublesAt rfl rfl rfl nd_X1_inDoublesAt ⟨by decide, by decide⟩ 1 rfl rfl [1, 2] [0, 3, 4, 5] [0, 4, 5, 1, 2, 3] rfl rfl rfl rfl (by decide) rfl rfl rfl rfl (Nat.le_of_ble_eq_true rfl) dX2_byParts_22 ⟨by decide, by decide⟩ ?_
    refine z_dstore_n (lv' := [(3, .double _), (0, .ref _), (1, .double _)]) g dX2_byParts_25 (by decide) rfl ?_
    refine z_bi g (-3) dX2_byParts_26 (by decide) ?_
    refine z_istore (lv' := [(5, .int _), (3, .double _), (0, .ref _), (1, .double _)]) g dX2_byParts_28 (by decide) rfl ?_
    have cut_30 : ∀ (N30 : Nat) (j : Nat), 7 - j < N30 → (j ≤ 7) → Z 0 0 [(h0, .inr (2, [.ref a0, .ref a1, .ref a2, .ref a3, .ref a4, .ref a5, .ref a6, .ref a7, .ref a8, .ref a9, .ref a10])), (a3, .inr (1, [.ref b3])), (b3, .inl (k 2, 7, .inr (.inl Qu))), (a4, .inl (k 1, 7, .inl (fun j => nI (m j)))), (a5, .inl (k 2, 35, .inr (.inl A))), (a6, .inl (k 2, 35, .inr (.inl B)))] [(0, .ref h0), (1, .double p0), (3, .double (bpS m A B Qu p0 j)), (5, .int (nI j - 3))] 30 [] := by
      intro N30
      induction N30 with
      | zero => intro j hms; exact absurd hms (Nat.not_lt_zero _)
      | succ N30 ih30 =>
        intro j hms30 hj
        refine z_iload g dX2_byParts_30 3 rfl ?_
        refine z_ic3 g dX2_byParts_32 ?_
        refine z_ic_gt g (tgt := 51) dX2_byParts_33 (by decide) (fun b33 => ?_) (fun b33 => ?_)
        · obtain rfl := rt_gt hj b33
          refine z_dload_n g dX2_byParts_51 2 rfl ?_
          exact hret _ _ _ _ dX2_byParts_52 ((by unfold xk; rw [b4]; rfl)) (rfl) (rfl)
        · have hj7 := rt_le hj b33
          refine z_aload_n g dX2_byParts_36 0 rfl ?_
          refine z_iload g dX2_byParts_37 3 rfl ?_
          refine z_dload_n g dX2_byParts_39 1 rfl ?_
          refine z_dload_n g dX2_byParts_40 2 rfl ?_
          refine z_callVd (w' := [_, _, _, _, _, _]) (wr := [_, _]) g (k_X2_withPartsOf l G k _ _ _ _ _ _ _ _ _ _ _ _ _ _ _ _ _ _ hm ((hH b4).2 j (rt_le hj b33))) 3 gX2_byParts_X2_withPartsOf rfl rfl rfl nd_X2_withPartsOf ⟨by decide, by decide⟩ 0 rfl rfl [0, 3, 4, 5] [1, 2] [2, 0, 1, 3, 4, 5] rfl rfl rfl rfl (by decide) rfl rfl rfl rfl (Nat.le_of_ble_eq_true rfl) dX2_byParts_41 ⟨by decide, by decide⟩ ?_
          refine z_dstore_n (lv' := [(3, .double _), (0, .ref _), (1, .double _), (5, .int _)]) g dX2_byParts_44 (by decide) rfl ?_
          refine z_iinc (lv' := [(5, .int _), (3, .double _), (0, .ref _), (1, .double _)]) g (nI (j + 1) - 3) dX2_byParts_45 3 rfl (rt_inc j) (by decide) rfl ?_
          refine z_goto g 30 dX2_byParts_48 (by decide) ?_
          refine z_locs (lv' := [(0, .ref _), (1, .double _), (3, .double _), (5, .int _)]) g [2, 3, 1, 0] rfl ?_
          exact ih30 (j + 1) (by omega) (by omega)
    refine z_locs (lv' := [(0, .ref _), (1, .double _), (3, .double _), (5, .int _)]) g [2, 3, 1, 0] rfl ?_
    exact cut_30 _ 0 (Nat.lt_succ_self _) (by decide)
  · exact hthr _ _ _ _ ⟨66, 144, 70, "x is not -100.0 .. 100.0", mi 1 rfl, mi 2 rfl, List.mem_of_getElem? (i := 6) rfl, rfl, fun w h => List.mem_cons_of_mem _ (List.mem_append_right _ (h)), teN_IAE, teO_c teO_IAE, by decide, dX2_byParts_7, dX2_byParts_10, dX2_byParts_11, dX2_byParts_13, dX2_byParts_16, by decide, by decide, by decide, by decide⟩ ((by unfold xk; rw [b4]; rfl)) (rfl)
theorem nd_X2_byParts : yX2_byParts.cls = RX2 ∧ yX2_byParts.cls ≠ "java/lang/invoke/MethodHandle" ∧ yX2_byParts.cls ≠ "java/lang/invoke/VarHandle" ∧ (parseMethodDescriptor yX2_byParts.desc).map (fun d => d.parameters.length) = some 1 := by decide +kernel
