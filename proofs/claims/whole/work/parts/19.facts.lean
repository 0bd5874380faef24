/-! the law's invariant, and what class and reference owe each other -/
def Inv (f : Nat → Int32) (n : Nat) (F : Nat → Int64) (m : Nat → Nat) : Prop := n ≤ 30 ∧ (∀ j, j < n → 32 ≤ f j ∧ f j ≤ 126) ∧ (∀ j, -4000 ≤ (F j).toInt ∧ (F j).toInt ≤ 4000) ∧ sumN m 7 ≤ 5
def pA (m : Nat → Nat) (F : Nat → Int64) : Nat → Int64 := (tkS m F (fun _ => 0) (fun _ => 0) 7).1
def pB (m : Nat → Nat) (F : Nat → Int64) : Nat → Int64 := (tkS m F (fun _ => 0) (fun _ => 0) 7).2.1
def pD (m : Nat → Nat) (F : Nat → Int64) : (Nat → Int64) × (Nat → Int64) := dvD (belF m 7) (sumN m 7) F
theorem tkS_AB (m : Nat → Nat) (F R O R' O' : Nat → Int64) : ∀ j, (tkS m F R O j).1 = (tkS m F R' O' j).1 ∧ (tkS m F R O j).2.1 = (tkS m F R' O' j).2.1
  | 0 => ⟨rfl, rfl⟩
  | j + 1 => by
    obtain ⟨h1, h2⟩ := tkS_AB m F R O R' O' j
    show (mkP m F (nI j - 3) (tkS m F R O j).1 (tkS m F R O j).2.1).2.1 = (mkP m F (nI j - 3) (tkS m F R' O' j).1 (tkS m F R' O' j).2.1).2.1 ∧ (mkP m F (nI j - 3) (tkS m F R O j).1 (tkS m F R O j).2.1).2.2 = (mkP m F (nI j - 3) (tkS m F R' O' j).1 (tkS m F R' O' j).2.1).2.2
    rw [h1, h2]
    exact ⟨rfl, rfl⟩
theorem tk_A (m : Nat → Nat) (F R O : Nat → Int64) : (tkS m F R O 7).1 = pA m F := (tkS_AB m F R O _ _ 7).1
theorem tk_B (m : Nat → Nat) (F R O : Nat → Int64) : (tkS m F R O 7).2.1 = pB m F := (tkS_AB m F R O _ _ 7).2
theorem Inv.m5 {f : Nat → Int32} {n : Nat} {F : Nat → Int64} {m : Nat → Nat} (h : Inv f n F m) : ∀ j, j < 7 → m j ≤ 5 := fun j hj => Nat.le_trans (sumN_le 7 j hj) h.2.2.2
theorem Inv.nA {f : Nat → Int32} {n : Nat} {F : Nat → Int64} {m : Nat → Nat} (h : Inv f n F m) : ∀ j, nA (F j) ≤ 4000 := fun j => nA_toInt (h.2.2.1 j)
theorem Inv.ch {f : Nat → Int32} {n : Nat} {F : Nat → Int64} {m : Nat → Nat} (h : Inv f n F m) : chOK f n := by
  intro j hj
  obtain ⟨h1, h2⟩ := h.2.1 j hj
  obtain ⟨d, hd, e⟩ := nI_of2 (M := 126) (n := 126) (by decide) (fun h9 => absurd (Int32.le_trans h1 (Int32.le_of_lt h9)) (by decide)) h2
  rw [e]
  exact (pk_charN (by omega)).1
theorem apM_eq (n : Nat) (c : Int32) : apM n c = appP n c := by
  unfold apM appP
  by_cases h2 : c < 32
  · rw [if_pos h2]
    by_cases h1 : 30 ≤ n
    · rw [if_pos h1]
    · rw [if_neg h1, if_pos h2]
  · rw [if_neg h2]
    by_cases h3 : 126 < c
    · rw [if_pos h3]
      by_cases h1 : 30 ≤ n
      · rw [if_pos h1]
      · rw [if_neg h1, if_neg h2, if_neg (Int32.not_le.mpr h3)]
    · rw [if_neg h3]
      by_cases h1 : 30 ≤ n
      · rw [if_pos h1, if_neg (by omega)]
      · rw [if_neg h1, if_neg h2, if_pos (Int32.not_lt.mp h3), if_pos (by omega)]
theorem apMN_eq (n : Nat) (c : Int32) : apMN n c = appN n c := by unfold apMN appN; rw [apM_eq]
theorem apMF_eq (f : Nat → Int32) (n : Nat) (c : Int32) : apMF f n c = appF f n c := by unfold apMF appF; rw [apM_eq]
theorem Inv.write {f : Nat → Int32} {n : Nat} {F : Nat → Int64} {m : Nat → Nat} (h : Inv f n F m) (c : Int32) : Inv (appF f n c) (appN n c) F m := by
  obtain ⟨h1, h2, h3, h4⟩ := h
  unfold appF appN
  by_cases hb : appP n c = true
  · rw [if_pos hb, if_pos hb]
    unfold appP at hb
    by_cases g1 : 30 ≤ n
    · rw [if_pos g1] at hb; cases hb
    · by_cases g2 : c < 32
      · rw [if_neg g1, if_pos g2] at hb; cases hb
      · by_cases g3 : c ≤ 126
        · refine ⟨by omega, fun j hj => ?_, h3, h4⟩
          unfold upd
          by_cases e : j = n
          · rw [if_pos e]
            have e0 : ¬ c < 0 := fun h9 => g2 (Int32.lt_trans h9 (by decide))
            obtain ⟨d, hd, e9⟩ := nI_of2 (M := 126) (n := 126) (by decide) e0 g3
            have e8 : vp_nar .char c = c := by
              unfold vp_nar
              rw [e9, (pk_charN (by omega)).1]
            rw [e8]
            exact ⟨Int32.not_lt.mp g2, g3⟩
          · rw [if_neg e]
            exact h2 j (by omega)
        · rw [if_neg g1, if_neg g2, if_neg g3] at hb; cases hb
  · rw [if_neg hb, if_neg hb]
    exact ⟨h1, h2, h3, h4⟩
abbrev xOf (v : Int32) : UInt64 := FP.dmul (FP.i2d v) 4593671619917905920
theorem dc_self {x : UInt64} (h : vf_n64 x) : Op.cmpValue (FP.dcmp x x) .l = 0 := dc_self9 h
theorem fact_num {f : Nat → Int32} {n : Nat} {F : Nat → Int64} {m : Nat → Nat} (h : Inv f n F m) : (mpS f n).1 = rpB n (rpS f n 0) ∧ (rpB n (rpS f n 0) = true → (mpS f n).2.2 = (rpS f n 0).2.2 ∧ dgU (rpS f n 0).2.2 7 = degP (rpS f n 0).2.2 6 ∧ Inv f 0 (rpS f n 0).2.2 m) := by
  obtain ⟨h1, h2⟩ := fact_num9 h.1 h.2.1
  exact ⟨h1, fun hb => ⟨(h2 hb).1, (h2 hb).2.1, Nat.zero_le _, fun j hj => absurd hj (Nat.not_lt_zero _), (h2 hb).2.2, h.2.2.2⟩⟩
theorem fact_den {f : Nat → Int32} {n : Nat} {F : Nat → Int64} {m : Nat → Nat} (h : Inv f n F m) : (dnX f n 0 = none ∧ dnF f n = 0 ∧ mOf (mqS f n).2.2 = mOf (fpS f n 0).2.2 ∧ degP (belF (mOf (fpS f n 0).2.2) 7) 6 = sumN (mOf (fpS f n 0).2.2) 7 ∧ Inv f 0 F (mOf (fpS f n 0).2.2)) ∨ (dnX f n 0 = some nIAE ∧ dnF f n = 1) ∨ (dnX f n 0 = some nISE ∧ dnF f n = 2) := by
  rcases fact_den9 h.1 h.2.1 with ⟨a, b, c, d, e⟩ | q | q
  · exact Or.inl ⟨a, b, c, d, Nat.zero_le _, fun j hj => absurd hj (Nat.not_lt_zero _), h.2.2.1, e⟩
  · exact Or.inr (Or.inl q)
  · exact Or.inr (Or.inr q)
theorem Inv.empty {f : Nat → Int32} {n : Nat} {F : Nat → Int64} {m : Nat → Nat} (h : Inv f n F m) : Inv f 0 F m := ⟨Nat.zero_le _, fun j hj => absurd hj (Nat.not_lt_zero _), h.2.2⟩
theorem fact_cof {f : Nat → Int32} {n : Nat} {F : Nat → Int64} {m : Nat → Nat} (h : Inv f n F m) (o i : Int32) : mcV F (belF m 7) (dvD (belF m 7) (sumN m 7) F).2 o i = cfP F (belF m 7) (quoF m F 7) o i := cof_main h.2.2.2 F o i
theorem fact_wkG {f : Nat → Int32} {n : Nat} {F : Nat → Int64} {m : Nat → Nat} (h : Inv f n F m) : wkG F m := wkG_ok h.2.2.2 h.nA
theorem fact_part {f : Nat → Int32} {n : Nat} {F : Nat → Int64} {m : Nat → Nat} (h : Inv f n F m) (r k w : Int32) : mpOK m r k w = ptOK m r k w ∧ (ptOK m r k w = true → mpV F m r k w = ptV (pA m F) (pB m F) r k w) := ⟨pt_eq m r k w, fun q => part_main h.2.2.2 h.nA _ _ r k w q⟩
theorem fact_int {f : Nat → Int32} {n : Nat} {F : Nat → Int64} {m : Nat → Nat} (h : Inv f n F m) (r k w : Int32) : igH F (dvD (belF m 7) (sumN m 7) F) m r k ∧ gdM m r k w = igOK m r k w ∧ (igOK m r k w = true → ∀ Q S, igM F (dvD (belF m 7) (sumN m 7) F) m r k w Q S = igV (pA m F) (pB m F) (quoF m F 7) r k w) := ⟨igH_ok h.2.2.2 h.nA _ r k, ig_eq m r k w, fun q Q S => ig_main h.2.2.2 h.nA _ _ r k w q Q S⟩
theorem fact_val {f : Nat → Int32} {n : Nat} {F : Nat → Int64} {m : Nat → Nat} (h : Inv f n F m) (t w : Int32) : vmOK m t w = vlOK m t w ∧ (vlOK m t w = true → ¬ cgP (hxP F t.toInt64 6 7) (hxP (belF m 7) t.toInt64 5 6) = 0 ∧ (if w = 0 then vmO F (belF m 7) t else vmU F (belF m 7) t) = vlV F (belF m 7) t w) := val_main h.2.2.2 h.nA t w
theorem fact_x (v : Int32) : vf_n64 (xOf v) := n64_of (x_mg v) (by decide)
theorem fact_at {f : Nat → Int32} {n : Nat} {F : Nat → Int64} {m : Nat → Nat} (h : Inv f n F m) (v : Int32) : atH F (belF m 7) (xOf v) ∧ amH F (belF m 7) (xOf v) ∧ (nearP (xOf v) = true → amV F (belF m 7) (xOf v) = atV F (belF m 7) (xOf v) ∧ vf_n64 (atV F (belF m 7) (xOf v))) := at_main (x_mg v) ((Mon.bel m 7).2 6 (by have := h.2.2.2; omega))
theorem fact_by {f : Nat → Int32} {n : Nat} {F : Nat → Int64} {m : Nat → Nat} (h : Inv f n F m) (v : Int32) : bpH m (pA m F) (pB m F) (quoF m F 7) (xOf v) ∧ bmH F m (dvD (belF m 7) (sumN m 7) F).2 (xOf v) ∧ (nearP (xOf v) = true → bmS F m (dvD (belF m 7) (sumN m 7) F).2 (xOf v) 7 = bpS m (pA m F) (pB m F) (quoF m F 7) (xOf v) 7 ∧ vf_n64 (bpS m (pA m F) (pB m F) (quoF m F 7) (xOf v) 7)) := ⟨(by_main h.2.2.2 h.nA (fun _ => 0) (fun _ => 0) v).1, (by_main h.2.2.2 h.nA (fun _ => 0) (fun _ => 0) v).2.1, fun _ => (by_main h.2.2.2 h.nA (fun _ => 0) (fun _ => 0) v).2.2⟩
