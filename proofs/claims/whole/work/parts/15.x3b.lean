/-! the reference: division, parts, values -/
def dvI (Lo : Nat → Int64) (q : Int64) (c : Nat) (N : Nat → Int64) (i : Nat) : Nat → Int64 := fun j => if c ≤ j ∧ j < c + i then N j - q * Lo (j - c) else N j
def dvO (Lo : Nat → Int64) (dg : Nat) : Nat → (Nat → Int64) → (Nat → Int64) → (Nat → Int64) × (Nat → Int64)
  | 0, N, Q => (N, Q)
  | c + 1, N, Q => dvO Lo dg c (dvI Lo (N (dg + c)) c N (dg + 1)) (vp_updL Q c (N (dg + c)))
def dvD (Lo : Nat → Int64) (dg : Nat) (F : Nat → Int64) : (Nat → Int64) × (Nat → Int64) := dvO Lo dg (7 - dg) F (fun _ => 0)
theorem dv_lt {a c : Nat} (hb : a + c < 2 ^ 30) (h : nI (a + c) - 1 < nI a) : c = 0 := by
  rcases c with _ | c
  · rfl
  · rw [← Nat.add_assoc, nI_pred] at h
    exact absurd h (nI_nlt (by omega) (by omega))
theorem dv_ge {a c : Nat} (ha : a < 8) (h : ¬ nI (a + c) - 1 < nI a) : ∃ b, c = b + 1 := by
  rcases c with _ | c
  · refine absurd ?_ h
    exact (by decide : ∀ a, a < 8 → nI (a + 0) - 1 < nI a) a ha
  · exact ⟨c, rfl⟩
theorem dv_sub {a c : Nat} : nI (a + c) - nI a = nI c := by
  rw [pk_sub (Nat.le_add_right a c), Nat.add_sub_cancel_left]
def mcOK (o i : Int32) : Bool := if o < 0 then false else if 2 < o then false else if i < 0 then false else if 6 < i then false else if o = 1 then (if i ≤ 5 then true else false) else true
def mcV (F Lo Q : Nat → Int64) (o i : Int32) : Int64 := if mcOK o i then (if o = 0 then F i.toNatClampNeg else if o = 1 then Lo i.toNatClampNeg else Q i.toNatClampNeg) else 0
theorem ix5 {i : Int32} (h1 : ¬ i < 0) (h2 : i ≤ 5) : i = nI i.toNatClampNeg ∧ i.toNatClampNeg < 6 := by
  obtain ⟨j, hj, rfl⟩ := nI_of2 (M := 5) (n := 5) (by decide) h1 h2
  rw [nI_clamp (by omega)]
  exact ⟨rfl, by omega⟩
theorem sub_m3 (r : Int32) : r - (-3) = r + 3 := by rw [Int32.sub_eq_add_neg]; rfl
theorem rix3 {r : Int32} (h : poss r = true) : r + 3 = nI (rix r) ∧ rix r < 7 := by
  rw [← sub_m3]
  exact rix_ok h
def arI (r : Int64) (k : Nat) : Nat → (Nat → Int64) → Nat → Int64
  | 0, N => N
  | c + 1, N => arI r k c (vp_updL N (k + c) (N (k + c) + r * N (k + c + 1)))
def arO (r : Int64) (F : Nat → Int64) : Nat → Nat → Int64
  | 0 => F
  | k + 1 => arI r k (6 - k) (arO r F k)
def rsF (m : Nat → Nat) (r : Int32) : Nat → Nat → Int64
  | 0 => oneP
  | j + 1 => mulN (rsF m r j) (nI j - 3 - r) (othT m r j)
def cgT : Nat → Int64 → Int64 → Prop
  | 0, _, y => y = 0
  | c + 1, x, y => y = 0 ∨ cgT c y (x - x / y * y)
theorem cgL_0 (c : Nat) (x : Int64) : cgL c x 0 = x := by
  rcases c with _ | c
  · rfl
  · unfold cgL; rw [if_pos rfl]
theorem absL_ge {a : Int64} (h : 0 ≤ a) : a = absL a := by
  unfold absL
  by_cases h2 : 0 < a
  · rw [if_pos h2]
  · have e : a = 0 := Int64.le_antisymm (Int64.not_lt.mp h2) h
    rw [e]; rfl
theorem absL_lt {a : Int64} (h : ¬ 0 ≤ a) : -a = absL a := by
  unfold absL
  rw [if_neg (fun h2 => h (Int64.le_of_lt h2))]
def tlO (a b : Int64) : Int64 := if 0 ≤ b then a / cgP a b else -a / cgP a b
def tlU (a b : Int64) : Int64 := (if 0 ≤ b then b else -b) / cgP a b
def pwM (v g : Int64) : Nat → Int64
  | 0 => v
  | n + 1 => pwM v g n * g
def wkV (G : Nat → Int64) (row : Nat → Int64) (j : Nat) (v : Int64) : Nat → Int64
  | 0 => v
  | i + 1 => wkV G row j v i - pwM (G (i + 1) * row (j - (i + 1))) (G 0) i
def rwF (N G row0 : Nat → Int64) : Nat → Nat → Int64
  | 0 => row0
  | j + 1 => vp_updL (rwF N G row0 j) j (wkV G (rwF N G row0 j) j (pwM (N j) (G 0) j) j)
theorem wkV_congr {G row row' : Nat → Int64} {j : Nat} {v : Int64} (h : ∀ q, q < j → row q = row' q) : ∀ i, i ≤ j → wkV G row j v i = wkV G row' j v i
  | 0, _ => rfl
  | i + 1, hi => by
    show wkV G row j v i - pwM (G (i + 1) * row (j - (i + 1))) (G 0) i = wkV G row' j v i - pwM (G (i + 1) * row' (j - (i + 1))) (G 0) i
    rw [wkV_congr h i (by omega), h (j - (i + 1)) (by omega)]
theorem rwF_ind (N G a b : Nat → Int64) : ∀ j i, i < j → rwF N G a j i = rwF N G b j i
  | 0, _, h => absurd h (Nat.not_lt_zero _)
  | j + 1, i, h => by
    show vp_updL _ j _ i = vp_updL _ j _ i
    unfold vp_updL
    by_cases e : i = j
    · rw [if_pos e, if_pos e, wkV_congr (fun q hq => rwF_ind N G a b j q hq) j (Nat.le_refl j)]
    · rw [if_neg e, if_neg e]
      exact rwF_ind N G a b j i (by omega)
def wkX (N G : Nat → Int64) (n : Nat) : Int64 := rwF N G (fun _ => 0) (n + 1) n
theorem rwF_X (N G row : Nat → Int64) (n : Nat) : rwF N G row (n + 1) n = wkX N G n := rwF_ind N G row (fun _ => 0) (n + 1) n (Nat.lt_succ_self n)
def wkA (F : Nat → Int64) (m : Nat → Nat) (r : Int32) (n : Nat) : Int64 := wkX (arO r.toInt64 F 6) (rsF m r 7) n
def wkB (m : Nat → Nat) (r : Int32) (n : Nat) : Int64 := pwM 1 (rsF m r 7 0) (n + 1)
def wkG (F : Nat → Int64) (m : Nat → Nat) : Prop := ∀ (r : Int32), poss r = true → ∀ n, n + 1 ≤ manyP m r → ¬ cgP (wkA F m r n) (wkB m r n) = 0
/-- near, rest, row, over, under -/
abbrev SC : Type := (Nat → Int64) × (Nat → Int64) × (Nat → Int64) × Int64 × Int64
def wkS (F : Nat → Int64) (m : Nat → Nat) (r : Int32) (n : Nat) (S : SC) : SC := (arO r.toInt64 F 6, rsF m r 7, rwF (arO r.toInt64 F 6) (rsF m r 7) S.2.2.1 (n + 1), tlO (wkA F m r n) (wkB m r n), tlU (wkA F m r n) (wkB m r n))
def ipP (m : Nat → Nat) (r k : Int32) : Bool := if nI (manyP m r) ≤ 0 then false else if k < 1 then false else if nI (manyP m r) < k then false else true
def sd2 (w : Int32) : Bool := if w < 0 then false else if 2 ≤ w then false else true
def mpOK (m : Nat → Nat) (r k w : Int32) : Bool := if ipP m r k then sd2 w else false
theorem poss_many {m : Nat → Nat} {r : Int32} (h : ¬ nI (manyP m r) ≤ 0) : poss r = true := by
  by_cases h2 : poss r = true
  · exact h2
  · exact absurd (by unfold manyP; rw [if_neg h2]; decide) h
theorem many_poss {m : Nat → Nat} {r : Int32} (h : poss r = true) : manyP m r = m (rix r) := by
  unfold manyP
  rw [if_pos h]
theorem k_of {M : Nat} {k : Int32} (hM : M ≤ 5) (h1 : ¬ k < 1) (h2 : ¬ nI M < k) : 1 ≤ k.toNatClampNeg ∧ k.toNatClampNeg ≤ M ∧ k = nI k.toNatClampNeg := by
  have h0 : ¬ k < 0 := fun h => h1 (Int32.lt_trans h (by decide))
  have hk : k ≤ 5 := Int32.le_trans (Int32.not_lt.mp h2) (nI_le (b := 5) hM (by decide))
  obtain ⟨j, hj, rfl⟩ := nI_of2 (M := 5) (n := 5) (by decide) h0 hk
  rw [nI_clamp (by omega)]
  refine ⟨?_, ?_, rfl⟩
  · rcases j with _ | j
    · exact absurd (by decide) h1
    · omega
  · rcases Nat.lt_or_ge M j with h | h
    · exact absurd (nI_lt h (by omega)) h2
    · exact h
/-! the common divisor: its fuel, its sign, its size -/
def fibA : Nat → Nat → Nat → Nat
  | 0, a, _ => a
  | n + 1, a, b => fibA n b (a + b)
theorem fibA_add : ∀ (n a b : Nat), fibA (n + 2) a b = fibA (n + 1) a b + fibA n a b
  | 0, a, b => Nat.add_comm a b
  | n + 1, a, b => fibA_add n b (a + b)
def nA (x : Int64) : Nat := x.toInt.natAbs
theorem nA_0 {x : Int64} (h : nA x = 0) : x = 0 := by
  unfold nA at h
  exact Int64.toInt_inj.mp (Int.natAbs_eq_zero.mp h)
theorem nA_ne {x : Int64} (h : ¬ x = 0) : 0 < nA x := Nat.pos_of_ne_zero fun e => h (nA_0 e)
theorem rem_int (x y : Int64) (hy : ¬ y = 0) : (x - x / y * y).toInt = x.toInt.tmod y.toInt := by
  have h1 := x.toInt_lt
  have h2 := x.le_toInt
  have hb : -(2 : Int) ^ 63 ≤ x.toInt.tmod y.toInt ∧ x.toInt.tmod y.toInt < 2 ^ 63 := by
    have h3 := Nat.mod_le x.toInt.natAbs y.toInt.natAbs
    have h5 : (x.toInt.tmod y.toInt).natAbs = x.toInt.natAbs % y.toInt.natAbs := Int.natAbs_tmod ..
    by_cases h0 : 0 ≤ x.toInt
    · have := Int.tmod_nonneg y.toInt h0
      omega
    · have : x.toInt.tmod y.toInt ≤ 0 := by
        have h6 := Int.tmod_nonneg y.toInt (show 0 ≤ -x.toInt by omega)
        rw [Int.neg_tmod] at h6
        omega
      omega
  have e : x.toInt - x.toInt.tdiv y.toInt * y.toInt = x.toInt.tmod y.toInt := by
    have := Int.mul_tdiv_add_tmod x.toInt y.toInt
    rw [Int.mul_comm] at this
    omega
  rw [Int64.toInt_sub, Int64.toInt_mul, Int64.toInt_div]
  simp only [Int.bmod_mul_bmod, Int.bmod_sub_bmod, Int.sub_bmod_bmod]
  rw [e]
  exact Int.bmod_eq_of_le (by omega) (by omega)
theorem rem_nA (x y : Int64) (hy : ¬ y = 0) : nA (x - x / y * y) = nA x % nA y := by
  unfold nA
  rw [rem_int x y hy]
  exact Int.natAbs_tmod ..
theorem cgT_fib : ∀ (c : Nat) (x y : Int64), nA y < nA x → (nA x < fibA (c + 1) 1 1 ∨ nA y < fibA c 1 1) → cgT c x y
  | 0, x, y, h1, h2 => by
    rcases h2 with h | h
    · exact absurd h (by show ¬ nA x < 1; omega)
    · exact nA_0 (by have h : nA y < 1 := h; omega)
  | c + 1, x, y, h1, h2 => by
    by_cases hy : y = 0
    · exact Or.inl hy
    · refine Or.inr (cgT_fib c y _ ?_ ?_)
      · rw [rem_nA x y hy]
        exact Nat.mod_lt _ (nA_ne hy)
      · rw [rem_nA x y hy]
        by_cases h : nA y < fibA (c + 1) 1 1
        · exact Or.inl h
        · right
          rcases h2 with h3 | h3
          · have e := fibA_add c 1 1
            have h4 : nA x % nA y ≤ nA x - nA y := by
              rw [Nat.mod_eq_sub_mod (Nat.le_of_lt h1)]
              exact Nat.mod_le _ _
            have h3 : nA x < fibA (c + 2) 1 1 := h3
            omega
          · exact absurd h3 h
theorem nA_le (x : Int64) : nA x ≤ 2 ^ 63 := by
  unfold nA
  have h1 := x.toInt_lt
  have h2 := x.le_toInt
  omega
theorem cgT_all (a b : Int64) : cgT 100 a b := by
  by_cases hb : b = 0
  · exact Or.inl hb
  · refine Or.inr (cgT_fib 99 b _ ?_ (Or.inl ?_))
    · rw [rem_nA a b hb]
      exact Nat.mod_lt _ (nA_ne hb)
    · exact Nat.lt_of_le_of_lt (nA_le b) (by decide +kernel)
theorem cgT_100 (a b : Int64) : cgT 100 (absL a) (absL b) := cgT_all _ _
set_option maxHeartbeats 4000000 in
set_option maxRecDepth 100000 in
/-- divide() -/
theorem k_X3_divide (l : Launch) (G : va_G) (k : Nat → ClassId) (h0 e1 e3 e4 e5 e7 e8 e11 e12 e13 e14 : Nat) (ft : Int32) (n dg i : Nat) (ov un : Int64) (F Lo Qu Ne : Nat → Int64) (hdg : dg ≤ 5) : ∀ sz, Met l yX3_divide wsX3_divide ({ frames := 0, cells := 0, slots := 0, locals := 0 }) (va_Pc [.ref h0] (KP G k [(h0, .inr (3, [.int ft, .ref e1, .int (nI n), .ref e3, .ref e4, .ref e5, .int (nI dg), .ref e7, .ref e8, .long ov, .long un, .ref e11, .ref e12, .ref e13, .ref e14, .int (nI i)])), (e3, .inl (k 2, 7, .inr (.inl F))), (e4, .inl (k 2, 6, .inr (.inl Lo))), (e5, .inl (k 2, 7, .inr (.inl Qu))), (e11, .inl (k 2, 7, .inr (.inl Ne)))] sz)) (va_Qv (fun (_ : Unit) => True) (KQ G [(h0, .inr (3, [.int ft, .ref e1, .int (nI n), .ref e3, .ref e4, .ref e5, .int (nI dg), .ref e7, .ref e8, .long ov, .long un, .ref e11, .ref e12, .ref e13, .ref e14, .int (nI i)])), (e3, .inl (k 2, 7, .inr (.inl F))), (e4, .inl (k 2, 6, .inr (.inl Lo))), (e5, .inl (k 2, 7, .inr (.inl ((dvD Lo dg F).2)))), (e11, .inl (k 2, 7, .inr (.inl ((dvD Lo dg F).1))))] (va_A [(h0, .inr (3, [.int ft, .ref e1, .int (nI n), .ref e3, .ref e4, .ref e5, .int (nI dg), .ref e7, .ref e8, .long ov, .long un, .ref e11, .ref e12, .ref e13, .ref e14, .int (nI i)])), (e3, .inl (k 2, 7, .inr (.inl F))), (e4, .inl (k 2, 6, .inr (.inl Lo))), (e5, .inl (k 2, 7, .inr (.inl Qu))), (e11, .inl (k 2, 7, .inr (.inl Ne)))] sz)) (va_A [(h0, .inr (3, [.int ft, .ref e1, .int (nI n), .ref e3, .ref e4, .ref e5, .int (nI dg), .ref e7, .ref e8, .long ov, .long un, .ref e11, .ref e12, .ref e13, .ref e14, .int (nI i)])), (e3, .inl (k 2, 7, .inr (.inl F))), (e4, .inl (k 2, 6, .inr (.inl Lo))), (e5, .inl (k 2, 7, .inr (.inl Qu))), (e11, .inl (k 2, 7, .inr (.inl Ne)))] sz)) 0 0 (va_A [(h0, .inr (3, [.int ft, .ref e1, .int (nI n), .ref e3, .ref e4, .ref e5, .int (nI dg), .ref e7, .ref e8, .long ov, .long un, .ref e11, .ref e12, .ref e13, .ref e14, .int (nI i)])), (e3, .inl (k 2, 7, .inr (.inl F))), (e4, .inl (k 2, 6, .inr (.inl Lo))), (e5, .inl (k 2, 7, .inr (.inl Qu))), (e11, .inl (k 2, 7, .inr (.inl Ne)))] sz) := by
  refine met_v 0 0 (lv0 := [(0, .ref h0)]) (own := RX3) (by decide) rfl rfl (Nat.le_of_ble_eq_true rfl) rfl (fun Z g hret => ?_)
  have hX3 : ∀ w ∈ u_ws RX3 TX3 16, w ∈ wsX3_divide := fun w h => List.mem_cons_of_mem _ (List.mem_append_right _ (h))
  refine z_ic0 g dX3_divide_0 ?_
  refine z_istore_n (lv' := [(1, .int _), (0, .ref _)]) g dX3_divide_1 (by decide) rfl ?_
  have cut_2 : ∀ (N2 : Nat) (j : Nat) (N' Q' : Nat → Int64), 7 - j < N2 → (j ≤ 7) → (∀ q, q < j → N' q = F q) → (∀ q, q < j → Q' q = 0) → Z 0 0 [(h0, .inr (3, [.int ft, .ref e1, .int (nI n), .ref e3, .ref e4, .ref e5, .int (nI dg), .ref e7, .ref e8, .long ov, .long un, .ref e11, .ref e12, .ref e13, .ref e14, .int (nI i)])), (e3, .inl (k 2, 7, .inr (.inl F))), (e4, .inl (k 2, 6, .inr (.inl Lo))), (e5, .inl (k 2, 7, .inr (.inl Q'))), (e11, .inl (k 2, 7, .inr (.inl N')))] [(0, .ref h0), (1, .int (nI j))] 2 [] := by
    intro N2
    induction N2 with
    | zero => intro j N' Q' hms; exact absurd hms (Nat.not_lt_zero _)
    | succ N2 ih2 =>
      intro j N' Q' hms2 hj hN hQ
      refine z_iload_n g dX3_divide_2 1 rfl ?_
      refine z_bi g 7 dX3_divide_3 (by decide) ?_
      refine z_n_ge g (a := j) (b := 7) (tgt := 33) (by omega) (by omega) dX3_divide_5 (by decide) (fun b5 => ?_) (fun b5 => ?_)
      · refine z_eqL (w' := [_, _, _, _, _]) g F 4 rfl (fun q h => hN q (by omega)) rfl ?_
        refine z_eqL (w' := [_, _, _, _, _]) g (fun _ => 0) 3 rfl (fun q h => hQ q (by omega)) rfl ?_
        refine z_bi g 6 dX3_divide_33 (by decide) ?_
        refine z_istore_n (lv' := [(1, .int _), (0, .ref _)]) g dX3_divide_35 (by decide) rfl ?_
        have cut_36 : ∀ (N36 : Nat) (c : Nat) (x : Int32) (N' Q' : Nat → Int64), c < N36 → (x = nI (dg + c) - 1) → (dg + c ≤ 7) → (dvO Lo dg c N' Q' = (dvD Lo dg F)) → Z 0 0 [(h0, .inr (3, [.int ft, .ref e1, .int (nI n), .ref e3, .ref e4, .ref e5, .int (nI dg), .ref e7, .ref e8, .long ov, .long un, .ref e11, .ref e12, .ref e13, .ref e14, .int (nI i)])), (e3, .inl (k 2, 7, .inr (.inl F))), (e4, .inl (k 2, 6, .inr (.inl Lo))), (e5, .inl (k 2, 7, .inr (.inl Q'))), (e11, .inl (k 2, 7, .inr (.inl N')))] [(0, .ref h0), (1, .int x)] 36 [] := by
          intro N36
          induction N36 with
          | zero => intro c x N' Q' hms; exact absurd hms (Nat.not_lt_zero _)
          | succ N36 ih36 =>
            intro c x N' Q' hms36 hx hc hI
            refine z_iload_n g dX3_divide_36 1 rfl ?_
            refine z_aload_n g dX3_divide_37 0 rfl ?_
            refine z_get g hX3 0 rfl rfl 6 (by decide) (mi 4 rfl) rfl dX3_divide_38 ?_
            refine z_ic_lt g (tgt := 125) dX3_divide_41 (by decide) (fun b41 => ?_) (fun b41 => ?_)
            · rw [hx] at b41
              obtain rfl := dv_lt (by omega) b41
              exact hret _ _ _ dX3_divide_125 ((by rw [← hI]; rfl))
            · rw [hx] at b41
              obtain ⟨c, rfl⟩ := dv_ge (by omega) b41
              have hx2 : x = nI (dg + c) := by rw [hx, ← Nat.add_assoc, nI_pred]
              refine z_aload_n g dX3_divide_44 0 rfl ?_
              refine z_get g hX3 0 rfl rfl 11 (by decide) (mi 1 rfl) rfl dX3_divide_45 ?_
              refine z_iload_n g dX3_divide_48 1 rfl ?_
              refine z_lald g 4 rfl (dg + c) hx2 (by omega) (by decide) dX3_divide_49 ?_
              refine z_lstore_n (lv' := [(2, .long _), (0, .ref _), (1, .int _)]) g dX3_divide_50 (by decide) rfl ?_
              refine z_aload_n g dX3_divide_51 1 rfl ?_
              refine z_get g hX3 0 rfl rfl 5 (by decide) (mi 3 rfl) rfl dX3_divide_52 ?_
              refine z_iload_n g dX3_divide_55 2 rfl ?_
              refine z_aload_n g dX3_divide_56 1 rfl ?_
              refine z_get g hX3 0 rfl rfl 6 (by decide) (mi 4 rfl) rfl dX3_divide_57 ?_
              refine z_isub g dX3_divide_60 ?_
              refine z_lload_n g dX3_divide_61 0 rfl ?_
              refine z_last (w' := [_, _, _, _, _]) g 3 rfl c (by rw [hx2]; exact dv_sub) (by omega) (by decide) dX3_divide_62 rfl ?_
              refine z_eqL (w' := [_, _, _, _, _]) g (dvI Lo (N' (dg + c)) c N' 0) 4 rfl (fun q h => by unfold dvI; rw [if_neg (by omega)]) rfl ?_
              refine z_ic0 g dX3_divide_63 ?_
              refine z_istore (lv' := [(4, .int _), (2, .long _), (0, .ref _), (1, .int _)]) g dX3_divide_64 (by decide) rfl ?_
              have cut_66 : ∀ (N66 : Nat) (i9 : Nat), dg + 1 - i9 < N66 → (i9 ≤ dg + 1) → Z 0 0 [(h0, .inr (3, [.int ft, .ref e1, .int (nI n), .ref e3, .ref e4, .ref e5, .int (nI dg), .ref e7, .ref e8, .long ov, .long un, .ref e11, .ref e12, .ref e13, .ref e14, .int (nI i)])), (e3, .inl (k 2, 7, .inr (.inl F))), (e4, .inl (k 2, 6, .inr (.inl Lo))), (e5, .inl (k 2, 7, .inr (.inl (vp_updL Q' c (N' (dg + c)))))), (e11, .inl (k 2, 7, .inr (.inl (dvI Lo (N' (dg + c)) c N' i9))))] [(0, .ref h0), (1, .int x), (2, .long (N' (dg + c))), (4, .int (nI i9))] 66 [] := by
                intro N66
                induction N66 with
                | zero => intro i9 hms; exact absurd hms (Nat.not_lt_zero _)
                | succ N66 ih66 =>
                  intro i9 hms66 hi9
                  refine z_iload g dX3_divide_66 3 rfl ?_
                  refine z_aload_n g dX3_divide_68 0 rfl ?_
                  refine z_get g hX3 0 rfl rfl 6 (by decide) (mi 4 rfl) rfl dX3_divide_69 ?_
                  refine z_n_gt g (a := i9) (b := dg) (tgt := 119) (by omega) (by omega) dX3_divide_72 (by decide) (fun b72 => ?_) (fun b72 => ?_)
                  · obtain rfl : i9 = dg + 1 := by omega
                    refine z_iinc (lv' := [(1, .int _), (0, .ref _), (2, .long _), (4, .int _)]) g (nI (dg + c) - 1) dX3_divide_119 1 rfl (by rw [hx2, Int32.sub_eq_add_neg]; rfl) (by decide) rfl ?_
                    refine z_goto g 36 dX3_divide_122 (by decide) ?_
                    refine z_locs (lv' := [(0, .ref _), (1, .int _)]) g [1, 0] rfl ?_
                    exact ih36 c _ _ _ (by omega) rfl (by omega) hI
                  · refine z_aload_n g dX3_divide_75 0 rfl ?_
                    refine z_get g hX3 0 rfl rfl 11 (by decide) (mi 1 rfl) rfl dX3_divide_76 ?_
                    refine z_iload_n g dX3_divide_79 1 rfl ?_
                    refine z_aload_n g dX3_divide_80 0 rfl ?_
                    refine z_get g hX3 0 rfl rfl 6 (by decide) (mi 4 rfl) rfl dX3_divide_81 ?_
                    refine z_isub g dX3_divide_84 ?_
                    refine z_iload g dX3_divide_85 3 rfl ?_
                    refine z_iadd g dX3_divide_87 ?_
                    refine z_aload_n g dX3_divide_88 0 rfl ?_
                    refine z_get g hX3 0 rfl rfl 11 (by decide) (mi 1 rfl) rfl dX3_divide_89 ?_
                    refine z_iload_n g dX3_divide_92 1 rfl ?_
                    refine z_aload_n g dX3_divide_93 0 rfl ?_
                    refine z_get g hX3 0 rfl rfl 6 (by decide) (mi 4 rfl) rfl dX3_divide_94 ?_
                    refine z_isub g dX3_divide_97 ?_
                    refine z_iload g dX3_divide_98 3 rfl ?_
                    refine z_iadd g dX3_divide_100 ?_
                    refine z_lald g 4 rfl (c + i9) (by rw [hx2, dv_sub, nI_add]) (by omega) (by decide) dX3_divide_101 ?_
                    refine z_lload_n g dX3_divide_102 2 rfl ?_
                    refine z_aload_n g dX3_divide_103 0 rfl ?_
                    refine z_get g hX3 0 rfl rfl 4 (by decide) (mi 5 rfl) rfl dX3_divide_104 ?_
                    refine z_iload g dX3_divide_107 3 rfl ?_
                    refine z_lald g 2 rfl i9 rfl (by omega) (by decide) dX3_divide_109 ?_
                    refine z_lmul g dX3_divide_110 ?_
                    refine z_lsub g dX3_divide_111 ?_
                    refine z_last (w' := [_, _, _, _, _]) g 4 rfl (c + i9) (by rw [hx2, dv_sub, nI_add]) (by omega) (by decide) dX3_divide_112 rfl ?_
                    refine z_eqL (w' := [_, _, _, _, _]) g (dvI Lo (N' (dg + c)) c N' (i9 + 1)) 4 rfl (fun q h => by unfold vp_updL; split; (next e => rw [e]; unfold dvI; rw [if_neg (by omega), if_pos (by omega), Nat.add_sub_cancel_left]); (next e => unfold dvI; by_cases e2 : c ≤ q ∧ q < c + i9; (rw [if_pos e2, if_pos (by omega)]); (rw [if_neg e2, if_neg (by omega)]))) rfl ?_
                    refine z_inc (lv' := [(4, .int _), (0, .ref _), (1, .int _), (2, .long _)]) g dX3_divide_113 3 rfl (by decide) rfl ?_
                    refine z_goto g 66 dX3_divide_116 (by decide) ?_
                    refine z_locs (lv' := [(0, .ref _), (1, .int _), (2, .long _), (4, .int _)]) g [1, 2, 3, 0] rfl ?_
                    exact ih66 (i9 + 1) (by omega) (by omega)
              refine z_locs (lv' := [(0, .ref _), (1, .int _), (2, .long _), (4, .int _)]) g [2, 3, 1, 0] rfl ?_
              exact cut_66 _ 0 (Nat.lt_succ_self _) (Nat.zero_le _)
        refine z_locs (lv' := [(0, .ref _), (1, .int _)]) g [1, 0] rfl ?_
        exact cut_36 _ (7 - dg) _ _ _ (Nat.lt_succ_self _) (by rw [show dg + (7 - dg) = 7 by omega]; rfl) (by omega) rfl
      · refine z_aload_n g dX3_divide_8 0 rfl ?_
        refine z_get g hX3 0 rfl rfl 11 (by decide) (mi 1 rfl) rfl dX3_divide_9 ?_
        refine z_iload_n g dX3_divide_12 1 rfl ?_
        refine z_aload_n g dX3_divide_13 0 rfl ?_
        refine z_get g hX3 0 rfl rfl 3 (by decide) (mi 2 rfl) rfl dX3_divide_14 ?_
        refine z_iload_n g dX3_divide_17 1 rfl ?_
        refine z_lald g 1 rfl j rfl (by omega) (by decide) dX3_divide_18 ?_
        refine z_last (w' := [_, _, _, _, _]) g 4 rfl j rfl (by omega) (by decide) dX3_divide_19 rfl ?_
        refine z_aload_n g dX3_divide_20 0 rfl ?_
        refine z_get g hX3 0 rfl rfl 5 (by decide) (mi 3 rfl) rfl dX3_divide_21 ?_
        refine z_iload_n g dX3_divide_24 1 rfl ?_
        refine z_lc0 g dX3_divide_25 ?_
        refine z_last (w' := [_, _, _, _, _]) g 3 rfl j rfl (by omega) (by decide) dX3_divide_26 rfl ?_
        refine z_inc (lv' := [(1, .int _), (0, .ref _)]) g dX3_divide_27 1 rfl (by decide) rfl ?_
        refine z_goto g 2 dX3_divide_30 (by decide) ?_
        refine z_locs (lv' := [(0, .ref _), (1, .int _)]) g [1, 0] rfl ?_
        exact ih2 _ _ _ (by omega) (by omega) (fun q h => by unfold vp_updL; split; (next e => rw [e]); (next e => exact hN q (by omega))) (fun q h => by unfold vp_updL; split; rfl; exact hQ q (by omega))
  refine z_locs (lv' := [(0, .ref _), (1, .int _)]) g [1, 0] rfl ?_
  exact cut_2 _ 0 _ _ (Nat.lt_succ_self _) (by decide) (fun q h => absurd h (Nat.not_lt_zero _)) (fun q h => absurd h (Nat.not_lt_zero _))
theorem nd_X3_divide : yX3_divide.cls = RX3 ∧ yX3_divide.cls ≠ "java/lang/invoke/MethodHandle" ∧ yX3_divide.cls ≠ "java/lang/invoke/VarHandle" ∧ (parseMethodDescriptor yX3_divide.desc).map (fun d => d.parameters.length) = some 0 := by decide +kernel
set_option maxHeartbeats 4000000 in
set_option maxRecDepth 100000 in
/-- coefficient(of, i) -/
theorem k_X3_coefficient (l : Launch) (G : va_G) (k : Nat → ClassId) (h0 e1 e3 e4 e5 e7 e8 e11 e12 e13 e14 : Nat) (ft : Int32) (n dg i : Nat) (ov un : Int64) (F Lo Qu Ne : Nat → Int64) (p0 p1 : Int32) (hdg : dg ≤ 5) : ∀ sz, Met l yX3_coefficient wsX3_coefficient ({ frames := 1, cells := 0, slots := 0, locals := 24 }) (va_Pc [.ref h0, .int p0, .int p1] (KP G k [(h0, .inr (3, [.int ft, .ref e1, .int (nI n), .ref e3, .ref e4, .ref e5, .int (nI dg), .ref e7, .ref e8, .long ov, .long un, .ref e11, .ref e12, .ref e13, .ref e14, .int (nI i)])), (e3, .inl (k 2, 7, .inr (.inl F))), (e4, .inl (k 2, 6, .inr (.inl Lo))), (e5, .inl (k 2, 7, .inr (.inl Qu))), (e11, .inl (k 2, 7, .inr (.inl Ne)))] sz)) (va_Ql (fun r (_ : Unit) => r = mcV F Lo (dvD Lo dg F).2 p0 p1) (KQ G [(h0, .inr (3, [.int 0, .ref e1, .int (nI n), .ref e3, .ref e4, .ref e5, .int (nI dg), .ref e7, .ref e8, .long ov, .long un, .ref e11, .ref e12, .ref e13, .ref e14, .int (nI i)])), (e3, .inl (k 2, 7, .inr (.inl F))), (e4, .inl (k 2, 6, .inr (.inl Lo))), (e5, .inl (k 2, 7, .inr (.inl (if mcOK p0 p1 then (dvD Lo dg F).2 else Qu)))), (e11, .inl (k 2, 7, .inr (.inl (if mcOK p0 p1 then (dvD Lo dg F).1 else Ne))))] (va_A [(h0, .inr (3, [.int ft, .ref e1, .int (nI n), .ref e3, .ref e4, .ref e5, .int (nI dg), .ref e7, .ref e8, .long ov, .long un, .ref e11, .ref e12, .ref e13, .ref e14, .int (nI i)])), (e3, .inl (k 2, 7, .inr (.inl F))), (e4, .inl (k 2, 6, .inr (.inl Lo))), (e5, .inl (k 2, 7, .inr (.inl Qu))), (e11, .inl (k 2, 7, .inr (.inl Ne)))] sz)) (va_A [(h0, .inr (3, [.int ft, .ref e1, .int (nI n), .ref e3, .ref e4, .ref e5, .int (nI dg), .ref e7, .ref e8, .long ov, .long un, .ref e11, .ref e12, .ref e13, .ref e14, .int (nI i)])), (e3, .inl (k 2, 7, .inr (.inl F))), (e4, .inl (k 2, 6, .inr (.inl Lo))), (e5, .inl (k 2, 7, .inr (.inl Qu))), (e11, .inl (k 2, 7, .inr (.inl Ne)))] sz)) 0 0 (va_A [(h0, .inr (3, [.int ft, .ref e1, .int (nI n), .ref e3, .ref e4, .ref e5, .int (nI dg), .ref e7, .ref e8, .long ov, .long un, .ref e11, .ref e12, .ref e13, .ref e14, .int (nI i)])), (e3, .inl (k 2, 7, .inr (.inl F))), (e4, .inl (k 2, 6, .inr (.inl Lo))), (e5, .inl (k 2, 7, .inr (.inl Qu))), (e11, .inl (k 2, 7, .inr (.inl Ne)))] sz) := by
  refine met_l 0 0 (lv0 := [(0, .ref h0), (1, .int p0), (2, .int p1)]) (own := RX3) (by decide) rfl rfl (Nat.le_of_ble_eq_true rfl) rfl (fun Z g hret => ?_)
  have hX3 : ∀ w ∈ u_ws RX3 TX3 16, w ∈ wsX3_coefficient := fun w h => List.mem_cons_of_mem _ (List.mem_append_right _ (h))
  refine z_aload_n g dX3_coefficient_0 0 rfl ?_
  refine z_ic0 g dX3_coefficient_1 ?_
  refine z_put (w' := [(_, .inr (3, [_, _, _, _, _, _, _, _, _, _, _, _, _, _, _, _])), _, _, _, _]) g hX3 tyX3 tyX3_ok nmX3 0 rfl rfl 0 (by decide) (mi 1 rfl) rfl rfl rfl (Nat.le_of_ble_eq_true rfl) dX3_coefficient_2 rfl ?_
  refine z_iload_n g dX3_coefficient_5 1 rfl ?_
  refine z_if_lt g (tgt := 34) dX3_coefficient_6 (by decide) (fun b6 => ?_) (fun b6 => ?_)
  · refine z_lc0 g dX3_coefficient_34 ?_
    exact hret _ _ _ _ dX3_coefficient_35 ((by simp only [mcV, mcOK, if_pos b6, reduceIte, Bool.false_eq_true] <;> rfl)) ((by simp only [mcOK, if_pos b6, reduceIte, Bool.false_eq_true]))
  · refine z_iload_n g dX3_coefficient_9 1 rfl ?_
    refine z_ic2 g dX3_coefficient_10 ?_
    refine z_ic_gt g (tgt := 34) dX3_coefficient_11 (by decide) (fun b11 => ?_) (fun b11 => ?_)
    · refine z_lc0 g dX3_coefficient_34 ?_
      exact hret _ _ _ _ dX3_coefficient_35 ((by simp only [mcV, mcOK, if_neg b6, if_pos b11, reduceIte, Bool.false_eq_true] <;> rfl)) ((by simp only [mcOK, if_neg b6, if_pos b11, reduceIte, Bool.false_eq_true]))
    · refine z_iload_n g dX3_coefficient_14 2 rfl ?_
      refine z_if_lt g (tgt := 34) dX3_coefficient_15 (by decide) (fun b15 => ?_) (fun b15 => ?_)
      · refine z_lc0 g dX3_coefficient_34 ?_
        exact hret _ _ _ _ dX3_coefficient_35 ((by simp only [mcV, mcOK, if_neg b6, if_neg b11, if_pos b15, reduceIte, Bool.false_eq_true] <;> rfl)) ((by simp only [mcOK, if_neg b6, if_neg b11, if_pos b15, reduceIte, Bool.false_eq_true]))
      · refine z_iload_n g dX3_coefficient_18 2 rfl ?_
        refine z_bi g 6 dX3_coefficient_19 (by decide) ?_
        refine z_ic_gt g (tgt := 34) dX3_coefficient_21 (by decide) (fun b21 => ?_) (fun b21 => ?_)
        · refine z_lc0 g dX3_coefficient_34 ?_
          exact hret _ _ _ _ dX3_coefficient_35 ((by simp only [mcV, mcOK, if_neg b6, if_neg b11, if_neg b15, if_pos b21, reduceIte, Bool.false_eq_true] <;> rfl)) ((by simp only [mcOK, if_neg b6, if_neg b11, if_neg b15, if_pos b21, reduceIte, Bool.false_eq_true]))
        · refine z_iload_n g dX3_coefficient_24 1 rfl ?_
          refine z_ic1 g dX3_coefficient_25 ?_
          refine z_ic_ne g (tgt := 36) dX3_coefficient_26 (by decide) (fun b26 => ?_) (fun b26 => ?_)
          · refine z_aload_n g dX3_coefficient_36 0 rfl ?_
            refine z_callVv (w' := [_, _, _, _, _]) (wr := []) g (k_X3_divide l G k _ _ _ _ _ _ _ _ _ _ _ _ _ _ _ _ _ _ _ _ _ (by assumption)) 0 gX3_coefficient_X3_divide rfl rfl rfl nd_X3_divide ⟨by decide, by decide⟩ 0 rfl rfl [0, 1, 2, 3, 4] [] [0, 1, 2, 3, 4] rfl rfl rfl rfl (by decide) rfl rfl rfl rfl (Nat.le_of_ble_eq_true rfl) dX3_coefficient_37 ⟨by decide, by decide⟩ ?_
            refine z_iload_n g dX3_coefficient_40 1 rfl ?_
            refine z_if_ne g (tgt := 53) dX3_coefficient_41 (by decide) (fun b41 => ?_) (fun b41 => ?_)
            · refine z_iload_n g dX3_coefficient_53 1 rfl ?_
              refine z_ic1 g dX3_coefficient_54 ?_
              refine z_ic_ne g (tgt := 67) dX3_coefficient_55 (by decide) (fun b55 => ?_) (fun b55 => ?_)
              · refine z_aload_n g dX3_coefficient_67 0 rfl ?_
                refine z_get g hX3 0 rfl rfl 5 (by decide) (mi 4 rfl) rfl dX3_coefficient_68 ?_
                refine z_iload_n g dX3_coefficient_71 2 rfl ?_
                refine z_lald g 3 rfl p1.toNatClampNeg (ix6 b15 b21).1 (ix6 b15 b21).2 (by decide) dX3_coefficient_72 ?_
                exact hret _ _ _ _ dX3_coefficient_73 ((by simp only [mcV, mcOK, if_neg b6, if_neg b11, if_neg b15, if_neg b21, if_neg b26, if_neg b41, if_neg b55, reduceIte, Bool.false_eq_true] <;> rfl)) ((by simp only [mcOK, if_neg b6, if_neg b11, if_neg b15, if_neg b21, if_neg b26, if_neg b41, if_neg b55, reduceIte, Bool.false_eq_true]))
              · exact absurd b55 b26
            · refine z_aload_n g dX3_coefficient_44 0 rfl ?_
              refine z_get g hX3 0 rfl rfl 3 (by decide) (mi 2 rfl) rfl dX3_coefficient_45 ?_
              refine z_iload_n g dX3_coefficient_48 2 rfl ?_
              refine z_lald g 1 rfl p1.toNatClampNeg (ix6 b15 b21).1 (ix6 b15 b21).2 (by decide) dX3_coefficient_49 ?_
              refine z_goto g 73 dX3_coefficient_50 (by decide) ?_
              exact hret _ _ _ _ dX3_coefficient_73 ((by simp only [mcV, mcOK, if_neg b6, if_neg b11, if_neg b15, if_neg b21, if_neg b26, if_pos b41, reduceIte, Bool.false_eq_true] <;> rfl)) ((by simp only [mcOK, if_neg b6, if_neg b11, if_neg b15, if_neg b21, if_neg b26, if_pos b41, reduceIte, Bool.false_eq_true]))
          · refine z_iload_n g dX3_coefficient_29 2 rfl ?_
            refine z_ic5 g dX3_coefficient_30 ?_
            refine z_ic_le g (tgt := 36) dX3_coefficient_31 (by decide) (fun b31 => ?_) (fun b31 => ?_)
            · refine z_aload_n g dX3_coefficient_36 0 rfl ?_
              refine z_callVv (w' := [_, _, _, _, _]) (wr := []) g (k_X3_divide l G k _ _ _ _ _ _ _ _ _ _ _ _ _ _ _ _ _ _ _ _ _ (by assumption)) 0 gX3_coefficient_X3_divide rfl rfl rfl nd_X3_divide ⟨by decide, by decide⟩ 0 rfl rfl [0, 1, 2, 3, 4] [] [0, 1, 2, 3, 4] rfl rfl rfl rfl (by decide) rfl rfl rfl rfl (Nat.le_of_ble_eq_true rfl) dX3_coefficient_37 ⟨by decide, by decide⟩ ?_
              refine z_iload_n g dX3_coefficient_40 1 rfl ?_
              refine z_if_ne g (tgt := 53) dX3_coefficient_41 (by decide) (fun b41 => ?_) (fun b41 => ?_)
              · refine z_iload_n g dX3_coefficient_53 1 rfl ?_
                refine z_ic1 g dX3_coefficient_54 ?_
                refine z_ic_ne g (tgt := 67) dX3_coefficient_55 (by decide) (fun b55 => ?_) (fun b55 => ?_)
                · exact absurd b26 b55
                · refine z_aload_n g dX3_coefficient_58 0 rfl ?_
                  refine z_get g hX3 0 rfl rfl 4 (by decide) (mi 3 rfl) rfl dX3_coefficient_59 ?_
                  refine z_iload_n g dX3_coefficient_62 2 rfl ?_
                  refine z_lald g 2 rfl p1.toNatClampNeg (ix5 b15 b31).1 (ix5 b15 b31).2 (by decide) dX3_coefficient_63 ?_
                  refine z_goto g 73 dX3_coefficient_64 (by decide) ?_
                  exact hret _ _ _ _ dX3_coefficient_73 ((by simp only [mcV, mcOK, if_neg b6, if_neg b11, if_neg b15, if_neg b21, if_pos b26, if_pos b31, if_neg b41, if_pos b55, reduceIte, Bool.false_eq_true] <;> rfl)) ((by simp only [mcOK, if_neg b6, if_neg b11, if_neg b15, if_neg b21, if_pos b26, if_pos b31, if_neg b41, if_pos b55, reduceIte, Bool.false_eq_true]))
              · exact absurd (b41.symm.trans b26) (by decide)
            · refine z_lc0 g dX3_coefficient_34 ?_
              exact hret _ _ _ _ dX3_coefficient_35 ((by simp only [mcV, mcOK, if_neg b6, if_neg b11, if_neg b15, if_neg b21, if_pos b26, if_neg b31, reduceIte, Bool.false_eq_true] <;> rfl)) ((by simp only [mcOK, if_neg b6, if_neg b11, if_neg b15, if_neg b21, if_pos b26, if_neg b31, reduceIte, Bool.false_eq_true]))
theorem nd_X3_coefficient : yX3_coefficient.cls = RX3 ∧ yX3_coefficient.cls ≠ "java/lang/invoke/MethodHandle" ∧ yX3_coefficient.cls ≠ "java/lang/invoke/VarHandle" ∧ (parseMethodDescriptor yX3_coefficient.desc).map (fun d => d.parameters.length) = some 2 := by decide +kernel
set_option maxHeartbeats 4000000 in
set_option maxRecDepth 100000 in
/-- many(root) -/
theorem k_X3_many (l : Launch) (G : va_G) (k : Nat → ClassId) (h0 e1 e3 e4 e5 e7 e8 e11 e12 e13 e14 : Nat) (ft : Int32) (n dg i : Nat) (ov un : Int64) (m : Nat → Nat) (p0 : Int32) : ∀ sz, Met l yX3_many wsX3_many ({ frames := 0, cells := 0, slots := 0, locals := 0 }) (va_Pc [.ref h0, .int p0] (KP G k [(h0, .inr (3, [.int ft, .ref e1, .int (nI n), .ref e3, .ref e4, .ref e5, .int (nI dg), .ref e7, .ref e8, .long ov, .long un, .ref e11, .ref e12, .ref e13, .ref e14, .int (nI i)])), (e7, .inl (k 1, 7, .inl (fun j => nI (m j))))] sz)) (va_Qi (fun r (_ : Unit) => r = nI (manyP m p0)) (KQ G [(h0, .inr (3, [.int 0, .ref e1, .int (nI n), .ref e3, .ref e4, .ref e5, .int (nI dg), .ref e7, .ref e8, .long ov, .long un, .ref e11, .ref e12, .ref e13, .ref e14, .int (nI i)])), (e7, .inl (k 1, 7, .inl (fun j => nI (m j))))] (va_A [(h0, .inr (3, [.int ft, .ref e1, .int (nI n), .ref e3, .ref e4, .ref e5, .int (nI dg), .ref e7, .ref e8, .long ov, .long un, .ref e11, .ref e12, .ref e13, .ref e14, .int (nI i)])), (e7, .inl (k 1, 7, .inl (fun j => nI (m j))))] sz)) (va_A [(h0, .inr (3, [.int ft, .ref e1, .int (nI n), .ref e3, .ref e4, .ref e5, .int (nI dg), .ref e7, .ref e8, .long ov, .long un, .ref e11, .ref e12, .ref e13, .ref e14, .int (nI i)])), (e7, .inl (k 1, 7, .inl (fun j => nI (m j))))] sz)) 0 0 (va_A [(h0, .inr (3, [.int ft, .ref e1, .int (nI n), .ref e3, .ref e4, .ref e5, .int (nI dg), .ref e7, .ref e8, .long ov, .long un, .ref e11, .ref e12, .ref e13, .ref e14, .int (nI i)])), (e7, .inl (k 1, 7, .inl (fun j => nI (m j))))] sz) := by
  refine met_i 0 0 (lv0 := [(0, .ref h0), (1, .int p0)]) (own := RX3) (by decide) rfl rfl (Nat.le_of_ble_eq_true rfl) rfl (fun Z g hret => ?_)
  have hX3 : ∀ w ∈ u_ws RX3 TX3 16, w ∈ wsX3_many := fun w h => List.mem_cons_of_mem _ (List.mem_append_right _ (h))
  refine z_aload_n g dX3_many_0 0 rfl ?_
  refine z_ic0 g dX3_many_1 ?_
  refine z_put (w' := [(_, .inr (3, [_, _, _, _, _, _, _, _, _, _, _, _, _, _, _, _])), _]) g hX3 tyX3 tyX3_ok nmX3 0 rfl rfl 0 (by decide) (mi 1 rfl) rfl rfl rfl (Nat.le_of_ble_eq_true rfl) dX3_many_2 rfl ?_
  refine z_iload_n g dX3_many_5 1 rfl ?_
  refine z_bi g (-3) dX3_many_6 (by decide) ?_
  refine z_ic_lt g (tgt := 27) dX3_many_8 (by decide) (fun b8 => ?_) (fun b8 => ?_)
  · refine z_ic0 g dX3_many_27 ?_
    exact hret _ _ _ _ dX3_many_28 ((by first | (rw [many_poss hp]; done) | (unfold manyP poss; simp only [reduceIte, if_pos b8, Bool.false_eq_true] <;> rfl))) (rfl)
  · refine z_iload_n g dX3_many_11 1 rfl ?_
    refine z_ic3 g dX3_many_12 ?_
    refine z_ic_gt g (tgt := 27) dX3_many_13 (by decide) (fun b13 => ?_) (fun b13 => ?_)
    · refine z_ic0 g dX3_many_27 ?_
      exact hret _ _ _ _ dX3_many_28 ((by first | (rw [many_poss hp]; done) | (unfold manyP poss; simp only [reduceIte, if_neg b8, if_pos b13, Bool.false_eq_true] <;> rfl))) (rfl)
    · have hp : poss p0 = true := by unfold poss; rw [if_neg b8, if_neg b13]
      refine z_aload_n g dX3_many_16 0 rfl ?_
      refine z_get g hX3 0 rfl rfl 7 (by decide) (mi 2 rfl) rfl dX3_many_17 ?_
      refine z_iload_n g dX3_many_20 1 rfl ?_
      refine z_ic3 g dX3_many_21 ?_
      refine z_iadd g dX3_many_22 ?_
      refine z_iald g 1 rfl (rix p0) (rix3 hp).1 (rix3 hp).2 (by decide) dX3_many_23 ?_
      refine z_goto g 28 dX3_many_24 (by decide) ?_
      exact hret _ _ _ _ dX3_many_28 ((by first | (rw [many_poss hp]; done) | (unfold manyP poss; simp only [reduceIte, if_neg b8, if_neg b13, Bool.false_eq_true] <;> rfl))) (rfl)
theorem nd_X3_many : yX3_many.cls = RX3 ∧ yX3_many.cls ≠ "java/lang/invoke/MethodHandle" ∧ yX3_many.cls ≠ "java/lang/invoke/VarHandle" ∧ (parseMethodDescriptor yX3_many.desc).map (fun d => d.parameters.length) = some 1 := by decide +kernel
set_option maxHeartbeats 4000000 in
set_option maxRecDepth 100000 in
/-- around(r) -/
theorem k_X3_around (l : Launch) (G : va_G) (k : Nat → ClassId) (h0 e1 e3 e4 e5 e7 e8 e11 e12 e13 e14 : Nat) (ft : Int32) (n dg i : Nat) (ov un : Int64) (m : Nat → Nat) (F Ne Re : Nat → Int64) (p0 : Int32) (hm : ∀ j, j < 7 → m j ≤ 5) : ∀ sz, Met l yX3_around wsX3_around ({ frames := 1, cells := 0, slots := 0, locals := 22 }) (va_Pc [.ref h0, .int p0] (KP G k [(h0, .inr (3, [.int ft, .ref e1, .int (nI n), .ref e3, .ref e4, .ref e5, .int (nI dg), .ref e7, .ref e8, .long ov, .long un, .ref e11, .ref e12, .ref e13, .ref e14, .int (nI i)])), (e3, .inl (k 2, 7, .inr (.inl F))), (e7, .inl (k 1, 7, .inl (fun j => nI (m j)))), (e11, .inl (k 2, 7, .inr (.inl Ne))), (e12, .inl (k 2, 6, .inr (.inl Re)))] sz)) (va_Qv (fun (_ : Unit) => True) (KQ G [(h0, .inr (3, [.int ft, .ref e1, .int (nI n), .ref e3, .ref e4, .ref e5, .int (nI dg), .ref e7, .ref e8, .long ov, .long un, .ref e11, .ref e12, .ref e13, .ref e14, .int (nI i)])), (e3, .inl (k 2, 7, .inr (.inl F))), (e7, .inl (k 1, 7, .inl (fun j => nI (m j)))), (e11, .inl (k 2, 7, .inr (.inl (arO p0.toInt64 F 6)))), (e12, .inl (k 2, 6, .inr (.inl (rsF m p0 7))))] (va_A [(h0, .inr (3, [.int ft, .ref e1, .int (nI n), .ref e3, .ref e4, .ref e5, .int (nI dg), .ref e7, .ref e8, .long ov, .long un, .ref e11, .ref e12, .ref e13, .ref e14, .int (nI i)])), (e3, .inl (k 2, 7, .inr (.inl F))), (e7, .inl (k 1, 7, .inl (fun j => nI (m j)))), (e11, .inl (k 2, 7, .inr (.inl Ne))), (e12, .inl (k 2, 6, .inr (.inl Re)))] sz)) (va_A [(h0, .inr (3, [.int ft, .ref e1, .int (nI n), .ref e3, .ref e4, .ref e5, .int (nI dg), .ref e7, .ref e8, .long ov, .long un, .ref e11, .ref e12, .ref e13, .ref e14, .int (nI i)])), (e3, .inl (k 2, 7, .inr (.inl F))), (e7, .inl (k 1, 7, .inl (fun j => nI (m j)))), (e11, .inl (k 2, 7, .inr (.inl Ne))), (e12, .inl (k 2, 6, .inr (.inl Re)))] sz)) 0 0 (va_A [(h0, .inr (3, [.int ft, .ref e1, .int (nI n), .ref e3, .ref e4, .ref e5, .int (nI dg), .ref e7, .ref e8, .long ov, .long un, .ref e11, .ref e12, .ref e13, .ref e14, .int (nI i)])), (e3, .inl (k 2, 7, .inr (.inl F))), (e7, .inl (k 1, 7, .inl (fun j => nI (m j)))), (e11, .inl (k 2, 7, .inr (.inl Ne))), (e12, .inl (k 2, 6, .inr (.inl Re)))] sz) := by
  refine met_v 0 0 (lv0 := [(0, .ref h0), (1, .int p0)]) (own := RX3) (by decide) rfl rfl (Nat.le_of_ble_eq_true rfl) rfl (fun Z g hret => ?_)
  have hX3 : ∀ w ∈ u_ws RX3 TX3 16, w ∈ wsX3_around := fun w h => List.mem_cons_of_mem _ (List.mem_append_right _ (h))
  refine z_ic0 g dX3_around_0 ?_
  refine z_istore_n (lv' := [(2, .int _), (0, .ref _), (1, .int _)]) g dX3_around_1 (by decide) rfl ?_
  have cut_2 : ∀ (N2 : Nat) (j : Nat) (N' : Nat → Int64), 7 - j < N2 → (j ≤ 7) → (∀ q, q < j → N' q = F q) → Z 0 0 [(h0, .inr (3, [.int ft, .ref e1, .int (nI n), .ref e3, .ref e4, .ref e5, .int (nI dg), .ref e7, .ref e8, .long ov, .long un, .ref e11, .ref e12, .ref e13, .ref e14, .int (nI i)])), (e3, .inl (k 2, 7, .inr (.inl F))), (e7, .inl (k 1, 7, .inl (fun j => nI (m j)))), (e11, .inl (k 2, 7, .inr (.inl N'))), (e12, .inl (k 2, 6, .inr (.inl Re)))] [(0, .ref h0), (1, .int p0), (2, .int (nI j))] 2 [] := by
    intro N2
    induction N2 with
    | zero => intro j N' hms; exact absurd hms (Nat.not_lt_zero _)
    | succ N2 ih2 =>
      intro j N' hms2 hj hN
      refine z_iload_n g dX3_around_2 2 rfl ?_
      refine z_bi g 7 dX3_around_3 (by decide) ?_
      refine z_n_ge g (a := j) (b := 7) (tgt := 26) (by omega) (by omega) dX3_around_5 (by decide) (fun b5 => ?_) (fun b5 => ?_)
      · refine z_eqL (w' := [_, _, _, _, _]) g F 3 rfl (fun q h => hN q (by omega)) rfl ?_
        refine z_ic0 g dX3_around_26 ?_
        refine z_istore_n (lv' := [(2, .int _), (0, .ref _), (1, .int _)]) g dX3_around_27 (by decide) rfl ?_
        have cut_28 : ∀ (N28 : Nat) (k9 : Nat), 6 - k9 < N28 → (k9 ≤ 6) → Z 0 0 [(h0, .inr (3, [.int ft, .ref e1, .int (nI n), .ref e3, .ref e4, .ref e5, .int (nI dg), .ref e7, .ref e8, .long ov, .long un, .ref e11, .ref e12, .ref e13, .ref e14, .int (nI i)])), (e3, .inl (k 2, 7, .inr (.inl F))), (e7, .inl (k 1, 7, .inl (fun j => nI (m j)))), (e11, .inl (k 2, 7, .inr (.inl (arO p0.toInt64 F k9)))), (e12, .inl (k 2, 6, .inr (.inl Re)))] [(0, .ref h0), (1, .int p0), (2, .int (nI k9))] 28 [] := by
          intro N28
          induction N28 with
          | zero => intro k9 hms; exact absurd hms (Nat.not_lt_zero _)
          | succ N28 ih28 =>
            intro k9 hms28 hk9
            refine z_iload_n g dX3_around_28 2 rfl ?_
            refine z_bi g 6 dX3_around_29 (by decide) ?_
            refine z_n_ge g (a := k9) (b := 6) (tgt := 77) (by omega) (by omega) dX3_around_31 (by decide) (fun b31 => ?_) (fun b31 => ?_)
            · obtain rfl : k9 = 6 := by omega
              refine z_ic0 g dX3_around_77 ?_
              refine z_istore_n (lv' := [(2, .int _), (0, .ref _), (1, .int _)]) g dX3_around_78 (by decide) rfl ?_
              have cut_79 : ∀ (N79 : Nat) (j : Nat) (L' : Nat → Int64), 6 - j < N79 → (j ≤ 6) → (∀ q, q < j → L' q = oneP q) → Z 0 0 [(h0, .inr (3, [.int ft, .ref e1, .int (nI n), .ref e3, .ref e4, .ref e5, .int (nI dg), .ref e7, .ref e8, .long ov, .long un, .ref e11, .ref e12, .ref e13, .ref e14, .int (nI i)])), (e3, .inl (k 2, 7, .inr (.inl F))), (e7, .inl (k 1, 7, .inl (fun j => nI (m j)))), (e11, .inl (k 2, 7, .inr (.inl (arO p0.toInt64 F 6)))), (e12, .inl (k 2, 6, .inr (.inl L')))] [(0, .ref h0), (1, .int p0), (2, .int (nI j))] 79 [] := by
                intro N79
                induction N79 with
                | zero => intro j L' hms; exact absurd hms (Nat.not_lt_zero _)
                | succ N79 ih79 =>
                  intro j L' hms79 hj hL
                  refine z_iload_n g dX3_around_79 2 rfl ?_
                  refine z_bi g 6 dX3_around_80 (by decide) ?_
                  refine z_n_ge g (a := j) (b := 6) (tgt := 106) (by omega) (by omega) dX3_around_82 (by decide) (fun b82 => ?_) (fun b82 => ?_)
                  · refine z_eqL (w' := [_, _, _, _, _]) g oneP 4 rfl (fun q h => hL q (by omega)) rfl ?_
                    refine z_bi g (-3) dX3_around_106 (by decide) ?_
                    refine z_istore_n (lv' := [(2, .int _), (0, .ref _), (1, .int _)]) g dX3_around_108 (by decide) rfl ?_
                    have cut_109 : ∀ (N109 : Nat) (j : Nat), 7 - j < N109 → (j ≤ 7) → Z 0 0 [(h0, .inr (3, [.int ft, .ref e1, .int (nI n), .ref e3, .ref e4, .ref e5, .int (nI dg), .ref e7, .ref e8, .long ov, .long un, .ref e11, .ref e12, .ref e13, .ref e14, .int (nI i)])), (e3, .inl (k 2, 7, .inr (.inl F))), (e7, .inl (k 1, 7, .inl (fun j => nI (m j)))), (e11, .inl (k 2, 7, .inr (.inl (arO p0.toInt64 F 6)))), (e12, .inl (k 2, 6, .inr (.inl (rsF m p0 j))))] [(0, .ref h0), (1, .int p0), (2, .int (nI j - 3))] 109 [] := by
                      intro N109
                      induction N109 with
                      | zero => intro j hms; exact absurd hms (Nat.not_lt_zero _)
                      | succ N109 ih109 =>
                        intro j hms109 hj
                        refine z_iload_n g dX3_around_109 2 rfl ?_
                        refine z_ic4 g dX3_around_110 ?_
                        refine z_ic_ge g (tgt := 155) dX3_around_111 (by decide) (fun b111 => ?_) (fun b111 => ?_)
                        · obtain rfl := rt4_ge hj b111
                          exact hret _ _ _ dX3_around_155 (rfl)
                        · have hj7 : j < 7 := rt4_lt hj b111
                          have hm5 := hm j hj7
                          refine z_ic0 g dX3_around_114 ?_
                          refine z_istore_n (lv' := [(3, .int _), (0, .ref _), (1, .int _), (2, .int _)]) g dX3_around_115 (by decide) rfl ?_
                          have cut_116 : ∀ (N116 : Nat) (i9 : Nat), othT m p0 j + 1 - i9 < N116 → (i9 ≤ othT m p0 j) → Z 0 0 [(h0, .inr (3, [.int ft, .ref e1, .int (nI n), .ref e3, .ref e4, .ref e5, .int (nI dg), .ref e7, .ref e8, .long ov, .long un, .ref e11, .ref e12, .ref e13, .ref e14, .int (nI i)])), (e3, .inl (k 2, 7, .inr (.inl F))), (e7, .inl (k 1, 7, .inl (fun j => nI (m j)))), (e11, .inl (k 2, 7, .inr (.inl (arO p0.toInt64 F 6)))), (e12, .inl (k 2, 6, .inr (.inl (mulN (rsF m p0 j) (nI j - 3 - p0) i9))))] [(0, .ref h0), (1, .int p0), (2, .int (nI j - 3)), (3, .int (nI i9))] 116 [] := by
                            intro N116
                            induction N116 with
                            | zero => intro i9 hms; exact absurd hms (Nat.not_lt_zero _)
                            | succ N116 ih116 =>
                              intro i9 hms116 hi9
                              have ho5 : othT m p0 j ≤ 5 := by unfold othT; split; exact Nat.zero_le _; exact hm5
                              refine z_iload_n g dX3_around_116 3 rfl ?_
                              refine z_aload_n g dX3_around_117 0 rfl ?_
                              refine z_get g hX3 0 rfl rfl 7 (by decide) (mi 4 rfl) rfl dX3_around_118 ?_
                              refine z_iload_n g dX3_around_121 2 rfl ?_
                              refine z_ic3 g dX3_around_122 ?_
                              refine z_iadd g dX3_around_123 ?_
                              refine z_iald g 2 rfl j (rt3 j) (by omega) (by decide) dX3_around_124 ?_
                              refine z_ti (y := nI (m j)) (rfl) ?_
                              refine z_n_ge g (a := i9) (b := (m j)) (tgt := 149) (by omega) (by omega) dX3_around_125 (by decide) (fun b125 => ?_) (fun b125 => ?_)
                              · obtain rfl : i9 = othT m p0 j := by unfold othT at hi9 ⊢; by_cases e : nI j - 3 = p0; (rw [if_pos e] at hi9 ⊢; omega); (rw [if_neg e] at hi9 ⊢; first | omega | exact absurd b130 e)
                                refine z_iinc (lv' := [(2, .int _), (0, .ref _), (1, .int _), (3, .int _)]) g (nI (j + 1) - 3) dX3_around_149 2 rfl (rt_inc j) (by decide) rfl ?_
                                refine z_goto g 109 dX3_around_152 (by decide) ?_
                                refine z_locs (lv' := [(0, .ref _), (1, .int _), (2, .int _)]) g [1, 2, 0] rfl ?_
                                exact ih109 (j + 1) (by omega) (by omega)
                              · refine z_iload_n g dX3_around_128 2 rfl ?_
                                refine z_iload_n g dX3_around_129 1 rfl ?_
                                refine z_ic_eq g (tgt := 149) dX3_around_130 (by decide) (fun b130 => ?_) (fun b130 => ?_)
                                · obtain rfl : i9 = othT m p0 j := by unfold othT at hi9 ⊢; by_cases e : nI j - 3 = p0; (rw [if_pos e] at hi9 ⊢; omega); (rw [if_neg e] at hi9 ⊢; first | omega | exact absurd b130 e)
                                  refine z_iinc (lv' := [(2, .int _), (0, .ref _), (1, .int _), (3, .int _)]) g (nI (j + 1) - 3) dX3_around_149 2 rfl (rt_inc j) (by decide) rfl ?_
                                  refine z_goto g 109 dX3_around_152 (by decide) ?_
                                  refine z_locs (lv' := [(0, .ref _), (1, .int _), (2, .int _)]) g [1, 2, 0] rfl ?_
                                  exact ih109 (j + 1) (by omega) (by omega)
                                · refine z_aload_n g dX3_around_133 0 rfl ?_
                                  refine z_get g hX3 0 rfl rfl 12 (by decide) (mi 3 rfl) rfl dX3_around_134 ?_
                                  refine z_iload_n g dX3_around_137 2 rfl ?_
                                  refine z_iload_n g dX3_around_138 1 rfl ?_
                                  refine z_isub g dX3_around_139 ?_
                                  refine z_callSv (w' := [_, _, _, _, _]) (wr := [_, _, _, _]) g (k_X3_times l G k _ _ _) 2 gX3_around_X3_times rfl rfl rfl nd_X3_times ⟨by decide, by decide⟩ [4] [0, 1, 2, 3] [0, 1, 2, 3, 4] rfl rfl rfl rfl (by decide) rfl rfl rfl rfl (Nat.le_of_ble_eq_true rfl) dX3_around_140 ⟨by decide, by decide⟩ ?_
                                  refine z_inc (lv' := [(3, .int _), (0, .ref _), (1, .int _), (2, .int _)]) g dX3_around_143 3 rfl (by decide) rfl ?_
                                  refine z_goto g 116 dX3_around_146 (by decide) ?_
                                  refine z_locs (lv' := [(0, .ref _), (1, .int _), (2, .int _), (3, .int _)]) g [1, 2, 3, 0] rfl ?_
                                  exact ih116 (i9 + 1) (by have : othT m p0 j = m j := (by unfold othT; rw [if_neg b130]); omega) (by have : othT m p0 j = m j := (by unfold othT; rw [if_neg b130]); omega)
                          refine z_locs (lv' := [(0, .ref _), (1, .int _), (2, .int _), (3, .int _)]) g [1, 2, 3, 0] rfl ?_
                          exact cut_116 _ 0 (Nat.lt_succ_self _) (Nat.zero_le _)
                    refine z_locs (lv' := [(0, .ref _), (1, .int _), (2, .int _)]) g [1, 2, 0] rfl ?_
                    exact cut_109 _ 0 (Nat.lt_succ_self _) (by decide)
                  · refine z_aload_n g dX3_around_85 0 rfl ?_
                    refine z_get g hX3 0 rfl rfl 12 (by decide) (mi 3 rfl) rfl dX3_around_86 ?_
                    refine z_iload_n g dX3_around_89 2 rfl ?_
                    refine z_iload_n g dX3_around_90 2 rfl ?_
                    refine z_if_ne g (tgt := 98) dX3_around_91 (by decide) (fun b91 => ?_) (fun b91 => ?_)
                    · refine z_lc0 g dX3_around_98 ?_
                      refine z_last (w' := [_, _, _, _, _]) g 4 rfl j rfl (by omega) (by decide) dX3_around_99 rfl ?_
                      refine z_inc (lv' := [(2, .int _), (0, .ref _), (1, .int _)]) g dX3_around_100 2 rfl (by decide) rfl ?_
                      refine z_goto g 79 dX3_around_103 (by decide) ?_
                      refine z_locs (lv' := [(0, .ref _), (1, .int _), (2, .int _)]) g [1, 2, 0] rfl ?_
                      exact ih79 _ _ (by omega) (by omega) (fun q h => by unfold vp_updL; split; (next e => subst e; unfold oneP; first | rw [if_pos (n0_eq (by omega) b91)] | rw [if_neg (n0_ne b91)]); (next e => exact hL q (by omega)))
                    · refine z_lc1 g dX3_around_94 ?_
                      refine z_goto g 99 dX3_around_95 (by decide) ?_
                      refine z_last (w' := [_, _, _, _, _]) g 4 rfl j rfl (by omega) (by decide) dX3_around_99 rfl ?_
                      refine z_inc (lv' := [(2, .int _), (0, .ref _), (1, .int _)]) g dX3_around_100 2 rfl (by decide) rfl ?_
                      refine z_goto g 79 dX3_around_103 (by decide) ?_
                      refine z_locs (lv' := [(0, .ref _), (1, .int _), (2, .int _)]) g [1, 2, 0] rfl ?_
                      exact ih79 _ _ (by omega) (by omega) (fun q h => by unfold vp_updL; split; (next e => subst e; unfold oneP; first | rw [if_pos (n0_eq (by omega) b91)] | rw [if_neg (n0_ne b91)]); (next e => exact hL q (by omega)))
              refine z_locs (lv' := [(0, .ref _), (1, .int _), (2, .int _)]) g [1, 2, 0] rfl ?_
              exact cut_79 _ 0 _ (Nat.lt_succ_self _) (by decide) (fun q h => absurd h (Nat.not_lt_zero _))
            · refine z_ic5 g dX3_around_34 ?_
              refine z_istore_n (lv' := [(3, .int _), (0, .ref _), (1, .int _), (2, .int _)]) g dX3_around_35 (by decide) rfl ?_
              have cut_36 : ∀ (N36 : Nat) (c : Nat) (x : Int32) (N' : Nat → Int64), c < N36 → (x = nI (k9 + c) - 1) → (k9 + c ≤ 6) → (arI p0.toInt64 k9 c N' = arO p0.toInt64 F (k9 + 1)) → Z 0 0 [(h0, .inr (3, [.int ft, .ref e1, .int (nI n), .ref e3, .ref e4, .ref e5, .int (nI dg), .ref e7, .ref e8, .long ov, .long un, .ref e11, .ref e12, .ref e13, .ref e14, .int (nI i)])), (e3, .inl (k 2, 7, .inr (.inl F))), (e7, .inl (k 1, 7, .inl (fun j => nI (m j)))), (e11, .inl (k 2, 7, .inr (.inl N'))), (e12, .inl (k 2, 6, .inr (.inl Re)))] [(0, .ref h0), (1, .int p0), (2, .int (nI k9)), (3, .int x)] 36 [] := by
                intro N36
                induction N36 with
                | zero => intro c x N' hms; exact absurd hms (Nat.not_lt_zero _)
                | succ N36 ih36 =>
                  intro c x N' hms36 hx hc hI
                  refine z_iload_n g dX3_around_36 3 rfl ?_
                  refine z_iload_n g dX3_around_37 2 rfl ?_
                  refine z_ic_lt g (tgt := 71) dX3_around_38 (by decide) (fun b38 => ?_) (fun b38 => ?_)
                  · rw [hx] at b38
                    obtain rfl := dv_lt (by omega) b38
                    obtain rfl : N' = arO p0.toInt64 F (k9 + 1) := hI
                    refine z_inc (lv' := [(2, .int _), (0, .ref _), (1, .int _), (3, .int _)]) g dX3_around_71 2 rfl (by decide) rfl ?_
                    refine z_goto g 28 dX3_around_74 (by decide) ?_
                    refine z_locs (lv' := [(0, .ref _), (1, .int _), (2, .int _)]) g [1, 2, 0] rfl ?_
                    exact ih28 (k9 + 1) (by omega) (by omega)
                  · rw [hx] at b38
                    obtain ⟨c, rfl⟩ := dv_ge (by omega) b38
                    have hx2 : x = nI (k9 + c) := by rw [hx, ← Nat.add_assoc, nI_pred]
                    refine z_aload_n g dX3_around_41 0 rfl ?_
                    refine z_get g hX3 0 rfl rfl 11 (by decide) (mi 1 rfl) rfl dX3_around_42 ?_
                    refine z_iload_n g dX3_around_45 3 rfl ?_
                    refine z_aload_n g dX3_around_46 0 rfl ?_
                    refine z_get g hX3 0 rfl rfl 11 (by decide) (mi 1 rfl) rfl dX3_around_47 ?_
                    refine z_iload_n g dX3_around_50 3 rfl ?_
                    refine z_lald g 3 rfl (k9 + c) hx2 (by omega) (by decide) dX3_around_51 ?_
                    refine z_iload_n g dX3_around_52 1 rfl ?_
                    refine z_i2l g dX3_around_53 ?_
                    refine z_aload_n g dX3_around_54 0 rfl ?_
                    refine z_get g hX3 0 rfl rfl 11 (by decide) (mi 1 rfl) rfl dX3_around_55 ?_
                    refine z_iload_n g dX3_around_58 3 rfl ?_
                    refine z_ic1 g dX3_around_59 ?_
                    refine z_iadd g dX3_around_60 ?_
                    refine z_lald g 3 rfl (k9 + c + 1) (by rw [hx2]; exact nI_1 _) (by omega) (by decide) dX3_around_61 ?_
                    refine z_lmul g dX3_around_62 ?_
                    refine z_ladd g dX3_around_63 ?_
                    refine z_last (w' := [_, _, _, _, _]) g 3 rfl (k9 + c) hx2 (by omega) (by decide) dX3_around_64 rfl ?_
                    refine z_iinc (lv' := [(3, .int _), (0, .ref _), (1, .int _), (2, .int _)]) g (nI (k9 + c) - 1) dX3_around_65 3 rfl (by rw [hx2, Int32.sub_eq_add_neg]; rfl) (by decide) rfl ?_
                    refine z_goto g 36 dX3_around_68 (by decide) ?_
                    refine z_locs (lv' := [(0, .ref _), (1, .int _), (2, .int _), (3, .int _)]) g [1, 2, 3, 0] rfl ?_
                    exact ih36 c _ _ (by omega) rfl (by omega) hI
              refine z_locs (lv' := [(0, .ref _), (1, .int _), (2, .int _), (3, .int _)]) g [1, 2, 3, 0] rfl ?_
              exact cut_36 _ (6 - k9) _ _ (Nat.lt_succ_self _) (by rw [show k9 + (6 - k9) = 6 by omega]; rfl) (by omega) rfl
        refine z_locs (lv' := [(0, .ref _), (1, .int _), (2, .int _)]) g [1, 2, 0] rfl ?_
        exact cut_28 _ 0 (Nat.lt_succ_self _) (by decide)
      · refine z_aload_n g dX3_around_8 0 rfl ?_
        refine z_get g hX3 0 rfl rfl 11 (by decide) (mi 1 rfl) rfl dX3_around_9 ?_
        refine z_iload_n g dX3_around_12 2 rfl ?_
        refine z_aload_n g dX3_around_13 0 rfl ?_
        refine z_get g hX3 0 rfl rfl 3 (by decide) (mi 2 rfl) rfl dX3_around_14 ?_
        refine z_iload_n g dX3_around_17 2 rfl ?_
        refine z_lald g 1 rfl j rfl (by omega) (by decide) dX3_around_18 ?_
        refine z_last (w' := [_, _, _, _, _]) g 3 rfl j rfl (by omega) (by decide) dX3_around_19 rfl ?_
        refine z_inc (lv' := [(2, .int _), (0, .ref _), (1, .int _)]) g dX3_around_20 2 rfl (by decide) rfl ?_
        refine z_goto g 2 dX3_around_23 (by decide) ?_
        refine z_locs (lv' := [(0, .ref _), (1, .int _), (2, .int _)]) g [1, 2, 0] rfl ?_
        exact ih2 _ _ (by omega) (by omega) (fun q h => by unfold vp_updL; split; (next e => rw [e]); (next e => exact hN q (by omega)))
  refine z_locs (lv' := [(0, .ref _), (1, .int _), (2, .int _)]) g [1, 2, 0] rfl ?_
  exact cut_2 _ 0 _ (Nat.lt_succ_self _) (by decide) (fun q h => absurd h (Nat.not_lt_zero _))
theorem nd_X3_around : yX3_around.cls = RX3 ∧ yX3_around.cls ≠ "java/lang/invoke/MethodHandle" ∧ yX3_around.cls ≠ "java/lang/invoke/VarHandle" ∧ (parseMethodDescriptor yX3_around.desc).map (fun d => d.parameters.length) = some 1 := by decide +kernel
set_option maxHeartbeats 4000000 in
set_option maxRecDepth 100000 in
/-- tell(a, b) -/
theorem k_X3_tell (l : Launch) (G : va_G) (k : Nat → ClassId) (h0 e1 e3 e4 e5 e7 e8 e11 e12 e13 e14 : Nat) (ft : Int32) (n dg i : Nat) (ov un : Int64) (p0 p1 : Int64) (hg : ¬ cgP p0 p1 = 0) : ∀ sz, Met l yX3_tell wsX3_tell ({ frames := 0, cells := 0, slots := 0, locals := 0 }) (va_Pc [.ref h0, .long p0, .long p1] (KP G k [(h0, .inr (3, [.int ft, .ref e1, .int (nI n), .ref e3, .ref e4, .ref e5, .int (nI dg), .ref e7, .ref e8, .long ov, .long un, .ref e11, .ref e12, .ref e13, .ref e14, .int (nI i)]))] sz)) (va_Qv (fun (_ : Unit) => True) (KQ G [(h0, .inr (3, [.int ft, .ref e1, .int (nI n), .ref e3, .ref e4, .ref e5, .int (nI dg), .ref e7, .ref e8, .long (tlO p0 p1), .long (tlU p0 p1), .ref e11, .ref e12, .ref e13, .ref e14, .int (nI i)]))] (va_A [(h0, .inr (3, [.int ft, .ref e1, .int (nI n), .ref e3, .ref e4, .ref e5, .int (nI dg), .ref e7, .ref e8, .long ov, .long un, .ref e11, .ref e12, .ref e13, .ref e14, .int (nI i)]))] sz)) (va_A [(h0, .inr (3, [.int ft, .ref e1, .int (nI n), .ref e3, .ref e4, .ref e5, .int (nI dg), .ref e7, .ref e8, .long ov, .long un, .ref e11, .ref e12, .ref e13, .ref e14, .int (nI i)]))] sz)) 0 0 (va_A [(h0, .inr (3, [.int ft, .ref e1, .int (nI n), .ref e3, .ref e4, .ref e5, .int (nI dg), .ref e7, .ref e8, .long ov, .long un, .ref e11, .ref e12, .ref e13, .ref e14, .int (nI i)]))] sz) := by
  refine met_v 0 0 (lv0 := [(0, .ref h0), (1, .long p0), (3, .long p1)]) (own := RX3) (by decide) rfl rfl (Nat.le_of_ble_eq_true rfl) rfl (fun Z g hret => ?_)
  have hX3 : ∀ w ∈ u_ws RX3 TX3 16, w ∈ wsX3_tell := fun w h => List.mem_cons_of_mem _ (List.mem_append_right _ (h))
  have cut_12 : ∀ (x : Int64), (x = absL p0) → Z 0 0 [(h0, .inr (3, [.int ft, .ref e1, .int (nI n), .ref e3, .ref e4, .ref e5, .int (nI dg), .ref e7, .ref e8, .long ov, .long un, .ref e11, .ref e12, .ref e13, .ref e14, .int (nI i)]))] [(0, .ref h0), (1, .long p0), (3, .long p1)] 12 [.long x] := by
    intro x hx
    subst hx
    refine z_lstore (lv' := [(5, .long _), (0, .ref _), (1, .long _), (3, .long _)]) g dX3_tell_12 (by decide) rfl ?_
    have cut_26 : ∀ (y : Int64), (y = absL p1) → Z 0 0 [(h0, .inr (3, [.int ft, .ref e1, .int (nI n), .ref e3, .ref e4, .ref e5, .int (nI dg), .ref e7, .ref e8, .long ov, .long un, .ref e11, .ref e12, .ref e13, .ref e14, .int (nI i)]))] [(0, .ref h0), (1, .long p0), (3, .long p1), (5, .long (absL p0))] 26 [.long y] := by
      intro y hy
      subst hy
      refine z_lstore (lv' := [(7, .long _), (0, .ref _), (1, .long _), (3, .long _), (5, .long _)]) g dX3_tell_26 (by decide) rfl ?_
      have cut_28 : ∀ (N28 : Nat) (c : Nat) (x y : Int64), c < N28 → (cgT c x y) → (cgL c x y = cgP p0 p1) → Z 0 0 [(h0, .inr (3, [.int ft, .ref e1, .int (nI n), .ref e3, .ref e4, .ref e5, .int (nI dg), .ref e7, .ref e8, .long ov, .long un, .ref e11, .ref e12, .ref e13, .ref e14, .int (nI i)]))] [(0, .ref h0), (1, .long p0), (3, .long p1), (5, .long x), (7, .long y)] 28 [] := by
        intro N28
        induction N28 with
        | zero => intro c x y hms; exact absurd hms (Nat.not_lt_zero _)
        | succ N28 ih28 =>
          intro c x y hms28 ht hI
          refine z_lload g dX3_tell_28 4 rfl ?_
          refine z_lc0 g dX3_tell_30 ?_
          refine z_lc_eq g (tgt := 53) dX3_tell_31 dX3_tell_32 (by decide) (fun b31 => ?_) (fun b31 => ?_)
          · obtain rfl : x = cgP p0 p1 := by rw [← hI, b31, cgL_0]
            refine z_aload_n g dX3_tell_53 0 rfl ?_
            have cut_72 : ∀ (o : Int64), (o = tlO p0 p1) → Z 0 0 [(h0, .inr (3, [.int ft, .ref e1, .int (nI n), .ref e3, .ref e4, .ref e5, .int (nI dg), .ref e7, .ref e8, .long ov, .long un, .ref e11, .ref e12, .ref e13, .ref e14, .int (nI i)]))] [(1, .long p0), (3, .long p1), (5, .long (cgP p0 p1)), (0, .ref h0)] 72 [.long o, .ref h0] := by
              intro o ho
              subst ho
              refine z_put (w' := [(_, .inr (3, [_, _, _, _, _, _, _, _, _, _, _, _, _, _, _, _]))]) g hX3 tyX3 tyX3_ok nmX3 0 rfl rfl 9 (by decide) (mi 1 rfl) rfl rfl rfl (Nat.le_of_ble_eq_true rfl) dX3_tell_72 rfl ?_
              refine z_aload_n g dX3_tell_75 3 rfl ?_
              have cut_88 : ∀ (y : Int64), (y = if 0 ≤ p1 then p1 else -p1) → Z 0 0 [(h0, .inr (3, [.int ft, .ref e1, .int (nI n), .ref e3, .ref e4, .ref e5, .int (nI dg), .ref e7, .ref e8, .long (tlO p0 p1), .long un, .ref e11, .ref e12, .ref e13, .ref e14, .int (nI i)]))] [(5, .long (cgP p0 p1))] 88 [.long y, .ref h0] := by
                intro y hy2
                subst hy2
                refine z_lload g dX3_tell_88 0 rfl ?_
                refine z_ldiv g dX3_tell_90 hg ?_
                refine z_put (w' := [(_, .inr (3, [_, _, _, _, _, _, _, _, _, _, _, _, _, _, _, _]))]) g hX3 tyX3 tyX3_ok nmX3 0 rfl rfl 10 (by decide) (mi 2 rfl) rfl rfl rfl (Nat.le_of_ble_eq_true rfl) dX3_tell_91 rfl ?_
                exact hret _ _ _ dX3_tell_94 (rfl)
              refine z_lload_n g dX3_tell_76 1 rfl ?_
              refine z_lc0 g dX3_tell_77 ?_
              refine z_lc_ge g (tgt := 87) dX3_tell_78 dX3_tell_79 (by decide) (fun b78 => ?_) (fun b78 => ?_)
              · refine z_lload_n g dX3_tell_87 1 rfl ?_
                refine z_locs (lv' := [(5, .long _)]) g [2] rfl ?_
                exact cut_88 _ (by first | rw [if_pos b78] | rw [if_neg b78])
              · refine z_lload_n g dX3_tell_82 1 rfl ?_
                refine z_lneg g dX3_tell_83 ?_
                refine z_goto g 88 dX3_tell_84 (by decide) ?_
                refine z_locs (lv' := [(5, .long _)]) g [2] rfl ?_
                exact cut_88 _ (by first | rw [if_pos b78] | rw [if_neg b78])
            refine z_lload_n g dX3_tell_54 2 rfl ?_
            refine z_lc0 g dX3_tell_55 ?_
            refine z_lc_ge g (tgt := 68) dX3_tell_56 dX3_tell_57 (by decide) (fun b56 => ?_) (fun b56 => ?_)
            · refine z_lload_n g dX3_tell_68 1 rfl ?_
              refine z_lload g dX3_tell_69 3 rfl ?_
              refine z_ldiv g dX3_tell_71 hg ?_
              refine z_locs (lv' := [(1, .long _), (3, .long _), (5, .long _), (0, .ref _)]) g [1, 2, 3, 0] rfl ?_
              exact cut_72 _ (by unfold tlO; first | rw [if_pos b56] | rw [if_neg b56])
            · refine z_lload_n g dX3_tell_60 1 rfl ?_
              refine z_lneg g dX3_tell_61 ?_
              refine z_lload g dX3_tell_62 3 rfl ?_
              refine z_ldiv g dX3_tell_64 hg ?_
              refine z_goto g 72 dX3_tell_65 (by decide) ?_
              refine z_locs (lv' := [(1, .long _), (3, .long _), (5, .long _), (0, .ref _)]) g [1, 2, 3, 0] rfl ?_
              exact cut_72 _ (by unfold tlO; first | rw [if_pos b56] | rw [if_neg b56])
          · obtain ⟨c, rfl⟩ : ∃ q, c = q + 1 := by rcases c with _ | c; exact absurd ht b31; exact ⟨c, rfl⟩
            refine z_lload g dX3_tell_35 3 rfl ?_
            refine z_lload g dX3_tell_37 4 rfl ?_
            refine z_lrem g dX3_tell_39 b31 ?_
            refine z_lstore (lv' := [(9, .long _), (0, .ref _), (1, .long _), (3, .long _), (5, .long _), (7, .long _)]) g dX3_tell_40 (by decide) rfl ?_
            refine z_lload g dX3_tell_42 5 rfl ?_
            refine z_lstore (lv' := [(5, .long _), (9, .long _), (0, .ref _), (1, .long _), (3, .long _), (7, .long _)]) g dX3_tell_44 (by decide) rfl ?_
            refine z_lload g dX3_tell_46 1 rfl ?_
            refine z_lstore (lv' := [(7, .long _), (5, .long _), (9, .long _), (0, .ref _), (1, .long _), (3, .long _)]) g dX3_tell_48 (by decide) rfl ?_
            refine z_goto g 28 dX3_tell_50 (by decide) ?_
            refine z_locs (lv' := [(0, .ref _), (1, .long _), (3, .long _), (5, .long _), (7, .long _)]) g [3, 4, 5, 1, 0] rfl ?_
            exact ih28 c _ _ (by omega) (ht.resolve_left b31) (by rw [← hI]; show _ = if y = 0 then x else _; rw [if_neg b31])
      refine z_locs (lv' := [(0, .ref _), (1, .long _), (3, .long _), (5, .long _), (7, .long _)]) g [1, 2, 3, 4, 0] rfl ?_
      exact cut_28 _ 100 _ _ (Nat.lt_succ_self _) (cgT_100 p0 p1) rfl
    refine z_lload_n g dX3_tell_14 3 rfl ?_
    refine z_lc0 g dX3_tell_15 ?_
    refine z_lc_ge g (tgt := 25) dX3_tell_16 dX3_tell_17 (by decide) (fun b16 => ?_) (fun b16 => ?_)
    · refine z_lload_n g dX3_tell_25 3 rfl ?_
      refine z_locs (lv' := [(0, .ref _), (1, .long _), (3, .long _), (5, .long _)]) g [1, 2, 3, 0] rfl ?_
      exact cut_26 _ (by first | exact absL_ge b16 | exact absL_lt b16)
    · refine z_lload_n g dX3_tell_20 3 rfl ?_
      refine z_lneg g dX3_tell_21 ?_
      refine z_goto g 26 dX3_tell_22 (by decide) ?_
      refine z_locs (lv' := [(0, .ref _), (1, .long _), (3, .long _), (5, .long _)]) g [1, 2, 3, 0] rfl ?_
      exact cut_26 _ (by first | exact absL_ge b16 | exact absL_lt b16)
  refine z_lload_n g dX3_tell_0 1 rfl ?_
  refine z_lc0 g dX3_tell_1 ?_
  refine z_lc_ge g (tgt := 11) dX3_tell_2 dX3_tell_3 (by decide) (fun b2 => ?_) (fun b2 => ?_)
  · refine z_lload_n g dX3_tell_11 1 rfl ?_
    exact cut_12 _ (by first | exact absL_ge b2 | exact absL_lt b2)
  · refine z_lload_n g dX3_tell_6 1 rfl ?_
    refine z_lneg g dX3_tell_7 ?_
    refine z_goto g 12 dX3_tell_8 (by decide) ?_
    exact cut_12 _ (by first | exact absL_ge b2 | exact absL_lt b2)
theorem nd_X3_tell : yX3_tell.cls = RX3 ∧ yX3_tell.cls ≠ "java/lang/invoke/MethodHandle" ∧ yX3_tell.cls ≠ "java/lang/invoke/VarHandle" ∧ (parseMethodDescriptor yX3_tell.desc).map (fun d => d.parameters.length) = some 2 := by decide +kernel
set_option maxHeartbeats 4000000 in
set_option maxRecDepth 100000 in
/-- work(r, k) -/
theorem k_X3_work (l : Launch) (G : va_G) (k : Nat → ClassId) (h0 e1 e3 e4 e5 e7 e8 e11 e12 e13 e14 : Nat) (ft : Int32) (n dg i : Nat) (ov un : Int64) (m : Nat → Nat) (F Ne Re Ro : Nat → Int64) (p0 p1 : Int32) (nn : Nat) (hm : ∀ j, j < 7 → m j ≤ 5) (hp : poss p0 = true) (hnn : nI (m (rix p0)) - p1 = nI nn) (hn4 : nn ≤ 4) (hwg : ¬ cgP (wkA F m p0 nn) (wkB m p0 nn) = 0) : ∀ sz, Met l yX3_work wsX3_work ({ frames := 2, cells := 0, slots := 0, locals := 45 }) (va_Pc [.ref h0, .int p0, .int p1] (KP G k [(h0, .inr (3, [.int ft, .ref e1, .int (nI n), .ref e3, .ref e4, .ref e5, .int (nI dg), .ref e7, .ref e8, .long ov, .long un, .ref e11, .ref e12, .ref e13, .ref e14, .int (nI i)])), (e3, .inl (k 2, 7, .inr (.inl F))), (e7, .inl (k 1, 7, .inl (fun j => nI (m j)))), (e11, .inl (k 2, 7, .inr (.inl Ne))), (e12, .inl (k 2, 6, .inr (.inl Re))), (e13, .inl (k 2, 6, .inr (.inl Ro)))] sz)) (va_Qv (fun (_ : Unit) => True) (KQ G [(h0, .inr (3, [.int ft, .ref e1, .int (nI n), .ref e3, .ref e4, .ref e5, .int (nI dg), .ref e7, .ref e8, .long (tlO (wkA F m p0 nn) (wkB m p0 nn)), .long (tlU (wkA F m p0 nn) (wkB m p0 nn)), .ref e11, .ref e12, .ref e13, .ref e14, .int (nI i)])), (e3, .inl (k 2, 7, .inr (.inl F))), (e7, .inl (k 1, 7, .inl (fun j => nI (m j)))), (e11, .inl (k 2, 7, .inr (.inl (arO p0.toInt64 F 6)))), (e12, .inl (k 2, 6, .inr (.inl (rsF m p0 7)))), (e13, .inl (k 2, 6, .inr (.inl (rwF (arO p0.toInt64 F 6) (rsF m p0 7) Ro (nn + 1)))))] (va_A [(h0, .inr (3, [.int ft, .ref e1, .int (nI n), .ref e3, .ref e4, .ref e5, .int (nI dg), .ref e7, .ref e8, .long ov, .long un, .ref e11, .ref e12, .ref e13, .ref e14, .int (nI i)])), (e3, .inl (k 2, 7, .inr (.inl F))), (e7, .inl (k 1, 7, .inl (fun j => nI (m j)))), (e11, .inl (k 2, 7, .inr (.inl Ne))), (e12, .inl (k 2, 6, .inr (.inl Re))), (e13, .inl (k 2, 6, .inr (.inl Ro)))] sz)) (va_A [(h0, .inr (3, [.int ft, .ref e1, .int (nI n), .ref e3, .ref e4, .ref e5, .int (nI dg), .ref e7, .ref e8, .long ov, .long un, .ref e11, .ref e12, .ref e13, .ref e14, .int (nI i)])), (e3, .inl (k 2, 7, .inr (.inl F))), (e7, .inl (k 1, 7, .inl (fun j => nI (m j)))), (e11, .inl (k 2, 7, .inr (.inl Ne))), (e12, .inl (k 2, 6, .inr (.inl Re))), (e13, .inl (k 2, 6, .inr (.inl Ro)))] sz)) 0 0 (va_A [(h0, .inr (3, [.int ft, .ref e1, .int (nI n), .ref e3, .ref e4, .ref e5, .int (nI dg), .ref e7, .ref e8, .long ov, .long un, .ref e11, .ref e12, .ref e13, .ref e14, .int (nI i)])), (e3, .inl (k 2, 7, .inr (.inl F))), (e7, .inl (k 1, 7, .inl (fun j => nI (m j)))), (e11, .inl (k 2, 7, .inr (.inl Ne))), (e12, .inl (k 2, 6, .inr (.inl Re))), (e13, .inl (k 2, 6, .inr (.inl Ro)))] sz) := by
  refine met_v 0 0 (lv0 := [(0, .ref h0), (1, .int p0), (2, .int p1)]) (own := RX3) (by decide) rfl rfl (Nat.le_of_ble_eq_true rfl) rfl (fun Z g hret => ?_)
  have hX3 : ∀ w ∈ u_ws RX3 TX3 16, w ∈ wsX3_work := fun w h => List.mem_cons_of_mem _ (List.mem_append_right _ (h))
  refine z_aload_n g dX3_work_0 0 rfl ?_
  refine z_iload_n g dX3_work_1 1 rfl ?_
  refine z_callVv (w' := [_, _, _, _, _, _]) (wr := [_]) g (k_X3_around l G k _ _ _ _ _ _ _ _ _ _ _ _ _ _ _ _ _ _ _ _ _ _ hm) 1 gX3_work_X3_around rfl rfl rfl nd_X3_around ⟨by decide, by decide⟩ 0 rfl rfl [0, 1, 2, 3, 4] [5] [1, 2, 3, 4, 5, 0] rfl rfl rfl rfl (by decide) rfl rfl rfl rfl (Nat.le_of_ble_eq_true rfl) dX3_work_2 ⟨by decide, by decide⟩ ?_
  refine z_aload_n g dX3_work_5 0 rfl ?_
  refine z_get g hX3 0 rfl rfl 7 (by decide) (mi 1 rfl) rfl dX3_work_6 ?_
  refine z_iload_n g dX3_work_9 1 rfl ?_
  refine z_ic3 g dX3_work_10 ?_
  refine z_iadd g dX3_work_11 ?_
  refine z_iald g 2 rfl (rix p0) (rix3 hp).1 (rix3 hp).2 (by decide) dX3_work_12 ?_
  refine z_iload_n g dX3_work_13 2 rfl ?_
  refine z_isub g dX3_work_14 ?_
  refine z_ti (y := nI nn) (hnn) ?_
  refine z_istore_n (lv' := [(3, .int _), (0, .ref _), (1, .int _), (2, .int _)]) g dX3_work_15 (by decide) rfl ?_
  refine z_ic0 g dX3_work_16 ?_
  refine z_istore (lv' := [(4, .int _), (3, .int _), (0, .ref _), (1, .int _), (2, .int _)]) g dX3_work_17 (by decide) rfl ?_
  have cut_19 : ∀ (N19 : Nat) (j : Nat), nn + 1 - j < N19 → (j ≤ nn + 1) → Z 0 0 [(h0, .inr (3, [.int ft, .ref e1, .int (nI n), .ref e3, .ref e4, .ref e5, .int (nI dg), .ref e7, .ref e8, .long ov, .long un, .ref e11, .ref e12, .ref e13, .ref e14, .int (nI i)])), (e3, .inl (k 2, 7, .inr (.inl F))), (e7, .inl (k 1, 7, .inl (fun j => nI (m j)))), (e11, .inl (k 2, 7, .inr (.inl (arO p0.toInt64 F 6)))), (e12, .inl (k 2, 6, .inr (.inl (rsF m p0 7)))), (e13, .inl (k 2, 6, .inr (.inl (rwF (arO p0.toInt64 F 6) (rsF m p0 7) Ro j))))] [(0, .ref h0), (3, .int (nI nn)), (4, .int (nI j))] 19 [] := by
    intro N19
    induction N19 with
    | zero => intro j hms; exact absurd hms (Nat.not_lt_zero _)
    | succ N19 ih19 =>
      intro j hms19 hj
      refine z_iload g dX3_work_19 2 rfl ?_
      refine z_iload_n g dX3_work_21 1 rfl ?_
      refine z_n_gt g (a := j) (b := nn) (tgt := 146) (by omega) (by omega) dX3_work_22 (by decide) (fun b22 => ?_) (fun b22 => ?_)
      · obtain rfl : j = nn + 1 := by omega
        refine z_lc1 g dX3_work_146 ?_
        refine z_lstore (lv' := [(4, .long _), (0, .ref _), (3, .int _)]) g dX3_work_147 (by decide) rfl ?_
        refine z_ic0 g dX3_work_149 ?_
        refine z_istore (lv' := [(6, .int _), (4, .long _), (0, .ref _), (3, .int _)]) g dX3_work_150 (by decide) rfl ?_
        have cut_152 : ∀ (N152 : Nat) (i9 : Nat), nn + 1 - i9 < N152 → (i9 ≤ nn + 1) → Z 0 0 [(h0, .inr (3, [.int ft, .ref e1, .int (nI n), .ref e3, .ref e4, .ref e5, .int (nI dg), .ref e7, .ref e8, .long ov, .long un, .ref e11, .ref e12, .ref e13, .ref e14, .int (nI i)])), (e3, .inl (k 2, 7, .inr (.inl F))), (e7, .inl (k 1, 7, .inl (fun j => nI (m j)))), (e11, .inl (k 2, 7, .inr (.inl (arO p0.toInt64 F 6)))), (e12, .inl (k 2, 6, .inr (.inl (rsF m p0 7)))), (e13, .inl (k 2, 6, .inr (.inl (rwF (arO p0.toInt64 F 6) (rsF m p0 7) Ro (nn + 1)))))] [(0, .ref h0), (3, .int (nI nn)), (4, .long (pwM 1 ((rsF m p0 7) 0) i9)), (6, .int (nI i9))] 152 [] := by
          intro N152
          induction N152 with
          | zero => intro i9 hms; exact absurd hms (Nat.not_lt_zero _)
          | succ N152 ih152 =>
            intro i9 hms152 hi9
            refine z_iload g dX3_work_152 3 rfl ?_
            refine z_iload_n g dX3_work_154 1 rfl ?_
            refine z_n_gt g (a := i9) (b := nn) (tgt := 175) (by omega) (by omega) dX3_work_155 (by decide) (fun b155 => ?_) (fun b155 => ?_)
            · obtain rfl : i9 = nn + 1 := by omega
              refine z_aload_n g dX3_work_175 0 rfl ?_
              refine z_aload_n g dX3_work_176 0 rfl ?_
              refine z_get g hX3 0 rfl rfl 13 (by decide) (mi 4 rfl) rfl dX3_work_177 ?_
              refine z_iload_n g dX3_work_180 1 rfl ?_
              refine z_lald g 5 rfl nn rfl (by omega) (by decide) dX3_work_181 ?_
              refine z_tl (y := wkA F m p0 nn) (by unfold wkA; exact rwF_X _ _ _ _) ?_
              refine z_lload g dX3_work_182 2 rfl ?_
              refine z_callVv (w' := [_, _, _, _, _, _]) (wr := [_, _, _, _, _]) g (k_X3_tell l G k _ _ _ _ _ _ _ _ _ _ _ _ _ _ _ _ _ _ _ hwg) 2 gX3_work_X3_tell rfl rfl rfl nd_X3_tell ⟨by decide, by decide⟩ 0 rfl rfl [0] [1, 2, 3, 4, 5] [5, 0, 1, 2, 3, 4] rfl rfl rfl rfl (by decide) rfl rfl rfl rfl (Nat.le_of_ble_eq_true rfl) dX3_work_184 ⟨by decide, by decide⟩ ?_
              exact hret _ _ _ dX3_work_187 (rfl)
            · refine z_lload g dX3_work_158 2 rfl ?_
              refine z_aload_n g dX3_work_160 0 rfl ?_
              refine z_get g hX3 0 rfl rfl 12 (by decide) (mi 3 rfl) rfl dX3_work_161 ?_
              refine z_ic0 g dX3_work_164 ?_
              refine z_lald g 4 rfl 0 rfl (by decide) (by decide) dX3_work_165 ?_
              refine z_lmul g dX3_work_166 ?_
              refine z_lstore (lv' := [(4, .long _), (0, .ref _), (3, .int _), (6, .int _)]) g dX3_work_167 (by decide) rfl ?_
              refine z_inc (lv' := [(6, .int _), (4, .long _), (0, .ref _), (3, .int _)]) g dX3_work_169 3 rfl (by decide) rfl ?_
              refine z_goto g 152 dX3_work_172 (by decide) ?_
              refine z_locs (lv' := [(0, .ref _), (3, .int _), (4, .long _), (6, .int _)]) g [2, 3, 1, 0] rfl ?_
              exact ih152 (i9 + 1) (by omega) (by omega)
        refine z_locs (lv' := [(0, .ref _), (3, .int _), (4, .long _), (6, .int _)]) g [2, 3, 1, 0] rfl ?_
        exact cut_152 _ 0 (Nat.lt_succ_self _) (Nat.zero_le _)
      · refine z_aload_n g dX3_work_25 0 rfl ?_
        refine z_get g hX3 0 rfl rfl 11 (by decide) (mi 2 rfl) rfl dX3_work_26 ?_
        refine z_iload g dX3_work_29 2 rfl ?_
        refine z_lald g 3 rfl j rfl (by omega) (by decide) dX3_work_31 ?_
        refine z_lstore (lv' := [(5, .long _), (0, .ref _), (3, .int _), (4, .int _)]) g dX3_work_32 (by decide) rfl ?_
        refine z_ic0 g dX3_work_34 ?_
        refine z_istore (lv' := [(7, .int _), (5, .long _), (0, .ref _), (3, .int _), (4, .int _)]) g dX3_work_35 (by decide) rfl ?_
        have cut_37 : ∀ (N37 : Nat) (i9 : Nat), j - i9 < N37 → (i9 ≤ j) → Z 0 0 [(h0, .inr (3, [.int ft, .ref e1, .int (nI n), .ref e3, .ref e4, .ref e5, .int (nI dg), .ref e7, .ref e8, .long ov, .long un, .ref e11, .ref e12, .ref e13, .ref e14, .int (nI i)])), (e3, .inl (k 2, 7, .inr (.inl F))), (e7, .inl (k 1, 7, .inl (fun j => nI (m j)))), (e11, .inl (k 2, 7, .inr (.inl (arO p0.toInt64 F 6)))), (e12, .inl (k 2, 6, .inr (.inl (rsF m p0 7)))), (e13, .inl (k 2, 6, .inr (.inl (rwF (arO p0.toInt64 F 6) (rsF m p0 7) Ro j))))] [(0, .ref h0), (3, .int (nI nn)), (4, .int (nI j)), (5, .long (pwM ((arO p0.toInt64 F 6) j) ((rsF m p0 7) 0) i9)), (7, .int (nI i9))] 37 [] := by
          intro N37
          induction N37 with
          | zero => intro i9 hms; exact absurd hms (Nat.not_lt_zero _)
          | succ N37 ih37 =>
            intro i9 hms37 hi9
            refine z_iload g dX3_work_37 4 rfl ?_
            refine z_iload g dX3_work_39 2 rfl ?_
            refine z_n_ge g (a := i9) (b := j) (tgt := 61) (by omega) (by omega) dX3_work_41 (by decide) (fun b41 => ?_) (fun b41 => ?_)
            · obtain rfl : j = i9 := by omega
              refine z_ic1 g dX3_work_61 ?_
              refine z_istore (lv' := [(7, .int _), (0, .ref _), (3, .int _), (4, .int _), (5, .long _)]) g dX3_work_62 (by decide) rfl ?_
              have cut_64 : ∀ (N64 : Nat) (i9 : Nat), j - i9 < N64 → (i9 ≤ j) → Z 0 0 [(h0, .inr (3, [.int ft, .ref e1, .int (nI n), .ref e3, .ref e4, .ref e5, .int (nI dg), .ref e7, .ref e8, .long ov, .long un, .ref e11, .ref e12, .ref e13, .ref e14, .int (nI i)])), (e3, .inl (k 2, 7, .inr (.inl F))), (e7, .inl (k 1, 7, .inl (fun j => nI (m j)))), (e11, .inl (k 2, 7, .inr (.inl (arO p0.toInt64 F 6)))), (e12, .inl (k 2, 6, .inr (.inl (rsF m p0 7)))), (e13, .inl (k 2, 6, .inr (.inl (rwF (arO p0.toInt64 F 6) (rsF m p0 7) Ro j))))] [(0, .ref h0), (3, .int (nI nn)), (4, .int (nI j)), (5, .long (wkV (rsF m p0 7) (rwF (arO p0.toInt64 F 6) (rsF m p0 7) Ro j) j (pwM ((arO p0.toInt64 F 6) j) ((rsF m p0 7) 0) j) i9)), (7, .int (nI (i9 + 1)))] 64 [] := by
                intro N64
                induction N64 with
                | zero => intro i9 hms; exact absurd hms (Nat.not_lt_zero _)
                | succ N64 ih64 =>
                  intro i9 hms64 hi9
                  refine z_iload g dX3_work_64 4 rfl ?_
                  refine z_iload g dX3_work_66 2 rfl ?_
                  refine z_n_gt g (a := (i9 + 1)) (b := j) (tgt := 131) (by omega) (by omega) dX3_work_68 (by decide) (fun b68 => ?_) (fun b68 => ?_)
                  · obtain rfl : j = i9 := by omega
                    refine z_aload_n g dX3_work_131 0 rfl ?_
                    refine z_get g hX3 0 rfl rfl 13 (by decide) (mi 4 rfl) rfl dX3_work_132 ?_
                    refine z_iload g dX3_work_135 2 rfl ?_
                    refine z_lload g dX3_work_137 3 rfl ?_
                    refine z_last (w' := [_, _, _, _, _, _]) g 5 rfl j rfl (by omega) (by decide) dX3_work_139 rfl ?_
                    refine z_inc (lv' := [(4, .int _), (0, .ref _), (3, .int _), (5, .long _), (7, .int _)]) g dX3_work_140 2 rfl (by decide) rfl ?_
                    refine z_goto g 19 dX3_work_143 (by decide) ?_
                    refine z_locs (lv' := [(0, .ref _), (3, .int _), (4, .int _)]) g [1, 2, 0] rfl ?_
                    exact ih19 (j + 1) (by omega) (by omega)
                  · refine z_aload_n g dX3_work_71 0 rfl ?_
                    refine z_get g hX3 0 rfl rfl 12 (by decide) (mi 3 rfl) rfl dX3_work_72 ?_
                    refine z_iload g dX3_work_75 4 rfl ?_
                    refine z_lald g 4 rfl (i9 + 1) rfl (by omega) (by decide) dX3_work_77 ?_
                    refine z_aload_n g dX3_work_78 0 rfl ?_
                    refine z_get g hX3 0 rfl rfl 13 (by decide) (mi 4 rfl) rfl dX3_work_79 ?_
                    refine z_iload g dX3_work_82 2 rfl ?_
                    refine z_iload g dX3_work_84 4 rfl ?_
                    refine z_isub g dX3_work_86 ?_
                    refine z_lald g 5 rfl (j - (i9 + 1)) (pk_sub (by omega)) (by omega) (by decide) dX3_work_87 ?_
                    refine z_lmul g dX3_work_88 ?_
                    refine z_lstore (lv' := [(8, .long _), (0, .ref _), (3, .int _), (4, .int _), (5, .long _), (7, .int _)]) g dX3_work_89 (by decide) rfl ?_
                    refine z_ic1 g dX3_work_91 ?_
                    refine z_istore (lv' := [(10, .int _), (8, .long _), (0, .ref _), (3, .int _), (4, .int _), (5, .long _), (7, .int _)]) g dX3_work_92 (by decide) rfl ?_
                    have cut_94 : ∀ (N94 : Nat) (q9 : Nat), i9 - q9 < N94 → (q9 ≤ i9) → Z 0 0 [(h0, .inr (3, [.int ft, .ref e1, .int (nI n), .ref e3, .ref e4, .ref e5, .int (nI dg), .ref e7, .ref e8, .long ov, .long un, .ref e11, .ref e12, .ref e13, .ref e14, .int (nI i)])), (e3, .inl (k 2, 7, .inr (.inl F))), (e7, .inl (k 1, 7, .inl (fun j => nI (m j)))), (e11, .inl (k 2, 7, .inr (.inl (arO p0.toInt64 F 6)))), (e12, .inl (k 2, 6, .inr (.inl (rsF m p0 7)))), (e13, .inl (k 2, 6, .inr (.inl (rwF (arO p0.toInt64 F 6) (rsF m p0 7) Ro j))))] [(0, .ref h0), (3, .int (nI nn)), (4, .int (nI j)), (5, .long (wkV (rsF m p0 7) (rwF (arO p0.toInt64 F 6) (rsF m p0 7) Ro j) j (pwM ((arO p0.toInt64 F 6) j) ((rsF m p0 7) 0) j) i9)), (7, .int (nI (i9 + 1))), (8, .long (pwM ((rsF m p0 7) (i9 + 1) * rwF (arO p0.toInt64 F 6) (rsF m p0 7) Ro j (j - (i9 + 1))) ((rsF m p0 7) 0) q9)), (10, .int (nI (q9 + 1)))] 94 [] := by
                      intro N94
                      induction N94 with
                      | zero => intro q9 hms; exact absurd hms (Nat.not_lt_zero _)
                      | succ N94 ih94 =>
                        intro q9 hms94 hq9
                        refine z_iload g dX3_work_94 6 rfl ?_
                        refine z_iload g dX3_work_96 4 rfl ?_
                        refine z_n_ge g (a := (q9 + 1)) (b := (i9 + 1)) (tgt := 118) (by omega) (by omega) dX3_work_98 (by decide) (fun b98 => ?_) (fun b98 => ?_)
                        · obtain rfl : i9 = q9 := by omega
                          refine z_lload g dX3_work_118 3 rfl ?_
                          refine z_lload g dX3_work_120 5 rfl ?_
                          refine z_lsub g dX3_work_122 ?_
                          refine z_lstore (lv' := [(5, .long _), (0, .ref _), (3, .int _), (4, .int _), (7, .int _), (8, .long _), (10, .int _)]) g dX3_work_123 (by decide) rfl ?_
                          refine z_inc (lv' := [(7, .int _), (5, .long _), (0, .ref _), (3, .int _), (4, .int _), (8, .long _), (10, .int _)]) g dX3_work_125 4 rfl (by decide) rfl ?_
                          refine z_goto g 64 dX3_work_128 (by decide) ?_
                          refine z_locs (lv' := [(0, .ref _), (3, .int _), (4, .int _), (5, .long _), (7, .int _)]) g [2, 3, 4, 1, 0] rfl ?_
                          exact ih64 (i9 + 1) (by omega) (by omega)
                        · refine z_lload g dX3_work_101 5 rfl ?_
                          refine z_aload_n g dX3_work_103 0 rfl ?_
                          refine z_get g hX3 0 rfl rfl 12 (by decide) (mi 3 rfl) rfl dX3_work_104 ?_
                          refine z_ic0 g dX3_work_107 ?_
                          refine z_lald g 4 rfl 0 rfl (by decide) (by decide) dX3_work_108 ?_
                          refine z_lmul g dX3_work_109 ?_
                          refine z_lstore (lv' := [(8, .long _), (0, .ref _), (3, .int _), (4, .int _), (5, .long _), (7, .int _), (10, .int _)]) g dX3_work_110 (by decide) rfl ?_
                          refine z_inc (lv' := [(10, .int _), (8, .long _), (0, .ref _), (3, .int _), (4, .int _), (5, .long _), (7, .int _)]) g dX3_work_112 6 rfl (by decide) rfl ?_
                          refine z_goto g 94 dX3_work_115 (by decide) ?_
                          refine z_locs (lv' := [(0, .ref _), (3, .int _), (4, .int _), (5, .long _), (7, .int _), (8, .long _), (10, .int _)]) g [2, 3, 4, 5, 6, 1, 0] rfl ?_
                          exact ih94 (q9 + 1) (by omega) (by omega)
                    refine z_locs (lv' := [(0, .ref _), (3, .int _), (4, .int _), (5, .long _), (7, .int _), (8, .long _), (10, .int _)]) g [2, 3, 4, 5, 6, 1, 0] rfl ?_
                    exact cut_94 _ 0 (Nat.lt_succ_self _) (Nat.zero_le _)
              refine z_locs (lv' := [(0, .ref _), (3, .int _), (4, .int _), (5, .long _), (7, .int _)]) g [1, 2, 3, 4, 0] rfl ?_
              exact cut_64 _ 0 (Nat.lt_succ_self _) (Nat.zero_le _)
            · refine z_lload g dX3_work_44 3 rfl ?_
              refine z_aload_n g dX3_work_46 0 rfl ?_
              refine z_get g hX3 0 rfl rfl 12 (by decide) (mi 3 rfl) rfl dX3_work_47 ?_
              refine z_ic0 g dX3_work_50 ?_
              refine z_lald g 4 rfl 0 rfl (by decide) (by decide) dX3_work_51 ?_
              refine z_lmul g dX3_work_52 ?_
              refine z_lstore (lv' := [(5, .long _), (0, .ref _), (3, .int _), (4, .int _), (7, .int _)]) g dX3_work_53 (by decide) rfl ?_
              refine z_inc (lv' := [(7, .int _), (5, .long _), (0, .ref _), (3, .int _), (4, .int _)]) g dX3_work_55 4 rfl (by decide) rfl ?_
              refine z_goto g 37 dX3_work_58 (by decide) ?_
              refine z_locs (lv' := [(0, .ref _), (3, .int _), (4, .int _), (5, .long _), (7, .int _)]) g [2, 3, 4, 1, 0] rfl ?_
              exact ih37 (i9 + 1) (by omega) (by omega)
        refine z_locs (lv' := [(0, .ref _), (3, .int _), (4, .int _), (5, .long _), (7, .int _)]) g [2, 3, 4, 1, 0] rfl ?_
        exact cut_37 _ 0 (Nat.lt_succ_self _) (Nat.zero_le _)
  refine z_locs (lv' := [(0, .ref _), (3, .int _), (4, .int _)]) g [2, 1, 0] rfl ?_
  exact cut_19 _ 0 (Nat.lt_succ_self _) (Nat.zero_le _)
theorem nd_X3_work : yX3_work.cls = RX3 ∧ yX3_work.cls ≠ "java/lang/invoke/MethodHandle" ∧ yX3_work.cls ≠ "java/lang/invoke/VarHandle" ∧ (parseMethodDescriptor yX3_work.desc).map (fun d => d.parameters.length) = some 2 := by decide +kernel
set_option maxHeartbeats 4000000 in
set_option maxRecDepth 100000 in
/-- isPart(root, k) -/
theorem k_X3_isPart (l : Launch) (G : va_G) (k : Nat → ClassId) (h0 e1 e3 e4 e5 e7 e8 e11 e12 e13 e14 : Nat) (ft : Int32) (n dg i : Nat) (ov un : Int64) (m : Nat → Nat) (p0 p1 : Int32) : ∀ sz, Met l yX3_isPart wsX3_isPart ({ frames := 1, cells := 0, slots := 0, locals := 21 }) (va_Pc [.ref h0, .int p0, .int p1] (KP G k [(h0, .inr (3, [.int ft, .ref e1, .int (nI n), .ref e3, .ref e4, .ref e5, .int (nI dg), .ref e7, .ref e8, .long ov, .long un, .ref e11, .ref e12, .ref e13, .ref e14, .int (nI i)])), (e7, .inl (k 1, 7, .inl (fun j => nI (m j))))] sz)) (va_Qi (fun r (_ : Unit) => r = bI (ipP m p0 p1)) (KQ G [(h0, .inr (3, [.int 0, .ref e1, .int (nI n), .ref e3, .ref e4, .ref e5, .int (nI dg), .ref e7, .ref e8, .long ov, .long un, .ref e11, .ref e12, .ref e13, .ref e14, .int (nI i)])), (e7, .inl (k 1, 7, .inl (fun j => nI (m j))))] (va_A [(h0, .inr (3, [.int ft, .ref e1, .int (nI n), .ref e3, .ref e4, .ref e5, .int (nI dg), .ref e7, .ref e8, .long ov, .long un, .ref e11, .ref e12, .ref e13, .ref e14, .int (nI i)])), (e7, .inl (k 1, 7, .inl (fun j => nI (m j))))] sz)) (va_A [(h0, .inr (3, [.int ft, .ref e1, .int (nI n), .ref e3, .ref e4, .ref e5, .int (nI dg), .ref e7, .ref e8, .long ov, .long un, .ref e11, .ref e12, .ref e13, .ref e14, .int (nI i)])), (e7, .inl (k 1, 7, .inl (fun j => nI (m j))))] sz)) 0 0 (va_A [(h0, .inr (3, [.int ft, .ref e1, .int (nI n), .ref e3, .ref e4, .ref e5, .int (nI dg), .ref e7, .ref e8, .long ov, .long un, .ref e11, .ref e12, .ref e13, .ref e14, .int (nI i)])), (e7, .inl (k 1, 7, .inl (fun j => nI (m j))))] sz) := by
  refine met_z 0 0 (lv0 := [(0, .ref h0), (1, .int p0), (2, .int p1)]) (own := RX3) (by decide) rfl rfl (Nat.le_of_ble_eq_true rfl) rfl bI_n (fun Z g hret => ?_)
  refine z_aload_n g dX3_isPart_0 0 rfl ?_
  refine z_iload_n g dX3_isPart_1 1 rfl ?_
  refine z_callVi (w' := [_, _]) (wr := []) g (k_X3_many l G k _ _ _ _ _ _ _ _ _ _ _ _ _ _ _ _ _ _ _) 1 gX3_isPart_X3_many rfl rfl rfl nd_X3_many ⟨by decide, by decide⟩ 0 rfl rfl [0, 1] [] [0, 1] rfl rfl rfl rfl (by decide) rfl rfl rfl rfl (Nat.le_of_ble_eq_true rfl) dX3_isPart_2 ⟨by decide, by decide⟩ ?_
  refine z_if_le g (tgt := 26) dX3_isPart_5 (by decide) (fun b5 => ?_) (fun b5 => ?_)
  · refine z_ic0 g dX3_isPart_26 ?_
    exact hret _ _ _ _ dX3_isPart_27 ((by simp only [ipP, if_pos b5, reduceIte, Bool.false_eq_true] <;> rfl)) (rfl)
  · refine z_iload_n g dX3_isPart_8 2 rfl ?_
    refine z_ic1 g dX3_isPart_9 ?_
    refine z_ic_lt g (tgt := 26) dX3_isPart_10 (by decide) (fun b10 => ?_) (fun b10 => ?_)
    · refine z_ic0 g dX3_isPart_26 ?_
      exact hret _ _ _ _ dX3_isPart_27 ((by simp only [ipP, if_neg b5, if_pos b10, reduceIte, Bool.false_eq_true] <;> rfl)) (rfl)
    · refine z_iload_n g dX3_isPart_13 2 rfl ?_
      refine z_aload_n g dX3_isPart_14 0 rfl ?_
      refine z_iload_n g dX3_isPart_15 1 rfl ?_
      refine z_callVi (w' := [_, _]) (wr := []) g (k_X3_many l G k _ _ _ _ _ _ _ _ _ _ _ _ _ _ _ _ _ _ _) 1 gX3_isPart_X3_many rfl rfl rfl nd_X3_many ⟨by decide, by decide⟩ 0 rfl rfl [0, 1] [] [0, 1] rfl rfl rfl rfl (by decide) rfl rfl rfl rfl (Nat.le_of_ble_eq_true rfl) dX3_isPart_16 ⟨by decide, by decide⟩ ?_
      refine z_ic_gt g (tgt := 26) dX3_isPart_19 (by decide) (fun b19 => ?_) (fun b19 => ?_)
      · refine z_ic0 g dX3_isPart_26 ?_
        exact hret _ _ _ _ dX3_isPart_27 ((by simp only [ipP, if_neg b5, if_neg b10, if_pos b19, reduceIte, Bool.false_eq_true] <;> rfl)) (rfl)
      · refine z_ic1 g dX3_isPart_22 ?_
        refine z_goto g 27 dX3_isPart_23 (by decide) ?_
        exact hret _ _ _ _ dX3_isPart_27 ((by simp only [ipP, if_neg b5, if_neg b10, if_neg b19, reduceIte, Bool.false_eq_true] <;> rfl)) (rfl)
theorem nd_X3_isPart : yX3_isPart.cls = RX3 ∧ yX3_isPart.cls ≠ "java/lang/invoke/MethodHandle" ∧ yX3_isPart.cls ≠ "java/lang/invoke/VarHandle" ∧ (parseMethodDescriptor yX3_isPart.desc).map (fun d => d.parameters.length) = some 2 := by decide +kernel
