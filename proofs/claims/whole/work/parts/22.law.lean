set_option maxHeartbeats 8000000 in
set_option maxRecDepth 100000 in
theorem lw_body (l : Launch) (hlt : l.stackTraces = false) (G : va_G) (k : Nat → ClassId) (b L : Nat) (xs : Nat → Int32) (hL : L ≤ 2048) (Z : ZT) (gl : GL l room_1 cL_law 9 RL wsL_law G k b L xs Z) (hret : ∀ (c0 s0 : Nat) (w : va_W) (lv : List (Nat × Value)) (pc : Nat), decode cL_law pc = .ok (.ireturn, 1) → c0 ≤ 1064 → s0 ≤ 8524 → Z c0 s0 w lv pc [.int 1]) : Z 0 0 [] [(0, .ref b)] 0 [] := by
  obtain ⟨tb, gx⟩ := gl.gx
  have g := gx.gd
  have hX2 : ∀ w ∈ u_ws RX2 TX2 11, w ∈ wsL_law := inlX2
  have hX3 : ∀ w ∈ u_ws RX3 TX3 16, w ∈ wsL_law := inlX3
  have inv0 : Inv (fun _ => 0) 0 (fun _ => 0) (fun j => if j = 3 then 1 else 0) := ⟨by decide, fun j hj => absurd hj (Nat.not_lt_zero _), fun j => ⟨(by decide : (-4000 : Int) ≤ (0 : Int64).toInt), (by decide : (0 : Int64).toInt ≤ 4000)⟩, by decide⟩
  have loop : ∀ (hd a0 a1 a2 a3 a4 a5 a6 a7 a8 a9 a10 c0 b1 b2 b3 b7 b9 b10 hm e1 e3 e4 e5 e7 e8 e11 e12 e13 e14 o1 o2 : Nat) (N : Nat) (i : Nat) (f : Nat → Int32) (n : Nat) (F : Nat → Int64) (m : Nat → Nat) (T : Nat → Int64) (T2 : Nat → Int32) (R O : Nat → Int64) (ft : Int32) (ov un : Int64) (ii : Nat) (Qu : Nat → Int64) (Fr : Nat → Int32) (Ne Re Ro Rd : Nat → Int64) (g1 : Nat → Int64) (g2 : Nat → UInt64), L + 4 - 4 * i < N → 4 * i ≤ L → Inv f n F m → Z (32 + i) (284 + 6 * i) [(hd, .inr (2, [.ref a0, .ref a1, .ref a2, .ref a3, .ref a4, .ref a5, .ref a6, .ref a7, .ref a8, .ref a9, .ref a10])), (a0, .inr (0, [.ref c0, .int (nI n), .int (nI 0)])), (c0, .inl (k 0, 30, .inl f)), (a1, .inr (1, [.ref b1])), (b1, .inl (k 2, 7, .inr (.inl F))), (a2, .inr (1, [.ref b2])), (b2, .inl (k 2, 7, .inr (.inl (belF m 7)))), (a3, .inr (1, [.ref b3])), (b3, .inl (k 2, 7, .inr (.inl (quoF m F 7)))), (a4, .inl (k 1, 7, .inl (fun j => nI (m j)))), (a5, .inl (k 2, 35, .inr (.inl (pA m F)))), (a6, .inl (k 2, 35, .inr (.inl (pB m F)))), (a7, .inr (1, [.ref b7])), (b7, .inl (k 2, 7, .inr (.inl T))), (a8, .inl (k 1, 7, .inl T2)), (a9, .inr (1, [.ref b9])), (b9, .inl (k 2, 7, .inr (.inl R))), (a10, .inr (1, [.ref b10])), (b10, .inl (k 2, 7, .inr (.inl O))), (hm, .inr (3, [.int ft, .ref e1, .int (nI n), .ref e3, .ref e4, .ref e5, .int (nI (sumN m 7)), .ref e7, .ref e8, .long ov, .long un, .ref e11, .ref e12, .ref e13, .ref e14, .int (nI ii)])), (e1, .inl (k 0, 30, .inl f)), (e3, .inl (k 2, 7, .inr (.inl F))), (e4, .inl (k 2, 6, .inr (.inl (belF m 7)))), (e5, .inl (k 2, 7, .inr (.inl Qu))), (e7, .inl (k 1, 7, .inl (fun j => nI (m j)))), (e8, .inl (k 1, 7, .inl Fr)), (e11, .inl (k 2, 7, .inr (.inl Ne))), (e12, .inl (k 2, 6, .inr (.inl Re))), (e13, .inl (k 2, 6, .inr (.inl Ro))), (e14, .inl (k 2, 7, .inr (.inl Rd))), (o1, .inl (k 2, 1, .inr (.inl g1))), (o2, .inl (k 3, 1, .inr (.inr (.inr (.inl g2)))))] [(5, .int (nI (4 * i))), (4, .ref o2), (3, .ref o1), (2, .ref hm), (1, .ref hd), (0, .ref b)] 28 [] := by
    intro hd a0 a1 a2 a3 a4 a5 a6 a7 a8 a9 a10 c0 b1 b2 b3 b7 b9 b10 hm e1 e3 e4 e5 e7 e8 e11 e12 e13 e14 o1 o2 N
    induction N with
    | zero => intro i f n F m T T2 R O ft ov un ii Qu Fr Ne Re Ro Rd g1 g2 hms; exact absurd hms (Nat.not_lt_zero _)
    | succ N ih28 =>
      intro i f n F m T T2 R O ft ov un ii Qu Fr Ne Re Ro Rd g1 g2 hms28 hiL hI
      have hlt31 : L < 2 ^ 31 := by omega
      refine z_iload g dL_law_28 0 rfl ?_
      refine z_aload_n g dL_law_30 5 rfl ?_
      refine z_slen gl dL_law_31 ?_
      refine z_ic4 g dL_law_32 ?_
      refine z_isub g dL_law_33 ?_
      refine z_ic_gt g (tgt := 683) dL_law_34 (by decide) (fun _ => ?_) (fun b34 => ?_)
      · refine z_ic1 g dL_law_683 ?_
        exact hret _ _ _ _ _ dL_law_684 (by omega) (by omega)
      have h34 : 4 * i + 4 ≤ L := Nat.not_lt.mp (fun q => b34 ((lw_gt (by omega) (by omega)).mpr q))
      refine z_aload_n g dL_law_37 5 rfl ?_
      refine z_iload g dL_law_38 0 rfl ?_
      refine z_sld gl (4 * i) rfl (by omega) hlt31 dL_law_40 ?_
      refine z_bi g 15 dL_law_41 (by decide) ?_
      refine z_iand g dL_law_43 ?_
      rcases lw_sw (xs (4 * i)) with b44 | b44 | b44 | b44 | b44 | b44 | b44 | b44 | b44 | b44 | b44
      · refine z_ti (y := 0) b44 ?_
        refine z_tin g 100 dL_law_44 (by decide) (by decide) rfl (by decide) ?_
        refine z_aload_n g dL_law_100 4 rfl ?_
        refine z_aload_n g dL_law_101 5 rfl ?_
        refine z_iload g dL_law_102 0 rfl ?_
        refine z_ic1 g dL_law_104 ?_
        refine z_iadd g dL_law_105 ?_
        refine z_sld gl (4 * i + 1) (nI_add (4 * i) 1) (by omega) hlt31 dL_law_106 ?_
        refine z_i2c g dL_law_107 ?_
        refine z_callVi (w' := [_, _, _, _, _, _, _, _, _, _, _, _, _, _, _, _, _, _, _, _, _, _, _, _, _, _, _, _, _, _, _, _]) (wr := [_, _, _, _, _, _, _, _, _, _, _, _, _, _, _, _, _, _, _, _, _, _, _, _, _, _, _, _, _]) g (k_X2_write l G k _ _ _ _ _ _ _ _ _ _ _ _ _ _ _ _ _ hI.1 (Nat.zero_le _)) 1 gL_law_X2_write rfl rfl rfl nd_X2_write ⟨by decide, by decide⟩ 0 rfl rfl [0, 1, 2] [3, 4, 5, 6, 7, 8, 9, 10, 11, 12, 13, 14, 15, 16, 17, 18, 19, 20, 21, 22, 23, 24, 25, 26, 27, 28, 29, 30, 31] [29, 30, 31, 0, 1, 2, 3, 4, 5, 6, 7, 8, 9, 10, 11, 12, 13, 14, 15, 16, 17, 18, 19, 20, 21, 22, 23, 24, 25, 26, 27, 28] rfl rfl rfl rfl (by decide) rfl rfl rfl rfl (Nat.le_of_ble_eq_true rfl) dL_law_108 ⟨by show _ ≤ 1064; omega, by show _ ≤ 8524; omega⟩ ?_
        refine z_aload_n g dL_law_111 3 rfl ?_
        refine z_aload_n g dL_law_112 5 rfl ?_
        refine z_iload g dL_law_113 0 rfl ?_
        refine z_ic1 g dL_law_115 ?_
        refine z_iadd g dL_law_116 ?_
        refine z_sld gl (4 * i + 1) (nI_add (4 * i) 1) (by omega) hlt31 dL_law_117 ?_
        refine z_i2c g dL_law_118 ?_
        refine z_callVi (w' := [_, _, _, _, _, _, _, _, _, _, _, _, _, _, _, _, _, _, _, _, _, _, _, _, _, _, _, _, _, _, _, _]) (wr := [_, _, _, _, _, _, _, _, _, _, _, _, _, _, _, _, _, _, _, _, _, _, _, _, _, _, _, _, _, _]) g (k_X3_write_v l G k _ _ _ _ _ _ _ _ _ _ _ _ _ _ _ _ _ _ _ hI.1) 1 gL_law_X3_write rfl rfl rfl nd_X3_write ⟨by decide, by decide⟩ 19 rfl rfl [19, 20] [0, 1, 2, 3, 4, 5, 6, 7, 8, 9, 10, 11, 12, 13, 14, 15, 16, 17, 18, 21, 22, 23, 24, 25, 26, 27, 28, 29, 30, 31] [0, 1, 2, 3, 4, 5, 6, 7, 8, 9, 10, 11, 12, 13, 14, 15, 16, 17, 18, 30, 31, 19, 20, 21, 22, 23, 24, 25, 26, 27, 28, 29] rfl rfl rfl rfl (by decide) rfl rfl rfl rfl (Nat.le_of_ble_eq_true rfl) dL_law_119 ⟨by show _ ≤ 1064; omega, by show _ ≤ 8524; omega⟩ ?_
        refine z_ic_eq g (tgt := 677) dL_law_122 (by decide) (fun _ => ?_) (fun h9 => absurd rfl h9)
        refine z_iinc (lv' := [(5, .int _), (4, .ref _), (3, .ref _), (2, .ref _), (1, .ref _), (0, .ref _)]) g (nI (4 * (i + 1))) dL_law_677 0 rfl (lw_i4 i) (by decide) rfl ?_
        refine z_goto g 28 dL_law_680 (by decide) ?_
        refine z_widen g (c1 := 32 + (i + 1)) (s1 := 284 + 6 * (i + 1)) (by omega) (by omega) ?_
        exact ih28 (i + 1) _ _ _ _ _ _ _ _ _ _ _ _ _ _ _ _ _ _ _ _ (by omega) (by omega) (hI.write _)
      · refine z_ti (y := 1) b44 ?_
        refine z_tin g 127 dL_law_44 (by decide) (by decide) rfl (by decide) ?_
        rcases hb : rpB n (rpS f n 0) with _ | _
        · refine z_aload_n g dL_law_127 4 rfl ?_
          refine z_aload_n g dL_law_128 2 rfl ?_
          refine z_callH (w' := [_, _, _, _, _, _, _, _, _, _, _, _, _, _, _, _, _, _, _, _, _, _, _, _, _, _, _, _, _, _, _, _]) (wr := [_, _, _, _, _, _, _, _, _, _, _, _, _]) gx (k_L_numerator_IAE l hlt G k _ _ _ _ _ _ _ _ _ _ _ _ _ _ _ _ _ _ _ _ _ _ _ _ _ _ _ _ _ _ _ _ _ hI.1 (Nat.zero_le _) hI.m5 hb) 2 gL_law_L_numerator rfl rfl rfl nd_L_numerator ⟨by decide, by decide⟩ [0, 1, 2, 3, 4, 5, 6, 7, 8, 9, 10, 11, 12, 13, 15, 16, 17, 18, 30] [14, 19, 20, 21, 22, 23, 24, 25, 26, 27, 28, 29, 31] [13, 14, 15, 16, 17, 18, 19, 20, 21, 22, 23, 24, 25, 26, 0, 27, 28, 29, 30, 1, 2, 3, 4, 5, 6, 7, 8, 9, 10, 11, 31, 12] rfl rfl rfl rfl (by decide) rfl rfl rfl rfl (Nat.le_of_ble_eq_true rfl) dL_law_129 ⟨by show _ ≤ 1064; omega, by show _ ≤ 8524; omega⟩ ?_
          refine z_istore (lv' := [(6, .int _), (5, .int _), (4, .ref _), (3, .ref _), (2, .ref _), (1, .ref _), (0, .ref _)]) g dL_law_132 (by decide) rfl ?_
          refine z_aload_n g dL_law_134 4 rfl ?_
          refine z_callVi (w' := [_, _, _, _, _, _, _, _, _, _, _, _, _, _, _, _, _, _, _, _, _, _, _, _, _, _, _, _, _, _, _, _]) (wr := [_, _, _, _, _, _, _, _, _, _, _, _, _, _, _, _, _, _, _, _, _, _, _, _, _, _, _, _]) g (k_X3_numerator_no l G k _ _ _ _ _ _ _ _ _ _ _ _ _ _ _ _ _ _ _ _ hI.1 hI.ch ((fact_num hI).1.trans hb)) 0 gL_law_X3_numerator rfl rfl rfl nd_X3_numerator ⟨by decide, by decide⟩ 19 rfl rfl [19, 20, 21, 29] [0, 1, 2, 3, 4, 5, 6, 7, 8, 9, 10, 11, 12, 13, 14, 15, 16, 17, 18, 22, 23, 24, 25, 26, 27, 28, 30, 31] [0, 1, 2, 3, 4, 5, 6, 7, 8, 9, 10, 11, 12, 13, 14, 15, 16, 17, 18, 28, 29, 30, 19, 20, 21, 22, 23, 24, 25, 31, 26, 27] rfl rfl rfl rfl (by decide) rfl rfl rfl rfl (Nat.le_of_ble_eq_true rfl) dL_law_135 ⟨by show _ ≤ 1064; omega, by show _ ≤ 8524; omega⟩ ?_
          refine z_istore (lv' := [(7, .int _), (6, .int _), (5, .int _), (4, .ref _), (3, .ref _), (2, .ref _), (1, .ref _), (0, .ref _)]) g dL_law_138 (by decide) rfl ?_
          refine z_aload_n g dL_law_140 5 rfl ?_
          refine z_callVi (w' := [_, _, _, _, _, _, _, _, _, _, _, _, _, _, _, _, _, _, _, _, _, _, _, _, _, _, _, _, _, _, _, _]) (wr := [_, _, _, _, _, _, _, _, _, _, _, _, _, _, _, _, _, _, _, _, _, _, _, _, _, _, _, _, _, _, _]) g (k_X3_thrown l G k _ _ _ _ _ _ _ _ _ _ _ _ _ _ _ _ _ ) 0 gL_law_X3_thrown rfl rfl rfl nd_X3_thrown ⟨by decide, by decide⟩ 19 rfl rfl [19] [0, 1, 2, 3, 4, 5, 6, 7, 8, 9, 10, 11, 12, 13, 14, 15, 16, 17, 18, 20, 21, 22, 23, 24, 25, 26, 27, 28, 29, 30, 31] [0, 1, 2, 3, 4, 5, 6, 7, 8, 9, 10, 11, 12, 13, 14, 15, 16, 17, 18, 31, 19, 20, 21, 22, 23, 24, 25, 26, 27, 28, 29, 30] rfl rfl rfl rfl (by decide) rfl rfl rfl rfl (Nat.le_of_ble_eq_true rfl) dL_law_141 ⟨by show _ ≤ 1064; omega, by show _ ≤ 8524; omega⟩ ?_
          refine z_iload g dL_law_144 1 rfl ?_
          refine z_ic_eq g (tgt := 151) dL_law_146 (by decide) (fun _ => ?_) (fun h9 => absurd rfl h9)
          refine z_iload g dL_law_151 1 rfl ?_
          refine z_if_ne g (tgt := 168) dL_law_153 (by decide) (fun _ => ?_) (fun h9 => absurd h9 (by decide))
          refine z_goto g 677 dL_law_168 (by decide) ?_
          refine z_iinc (lv' := [(5, .int _), (7, .int _), (6, .int _), (4, .ref _), (3, .ref _), (2, .ref _), (1, .ref _), (0, .ref _)]) g (nI (4 * (i + 1))) dL_law_677 2 rfl (lw_i4 i) (by decide) rfl ?_
          refine z_goto g 28 dL_law_680 (by decide) ?_
          refine z_locs (lv' := [(5, .int _), (4, .ref _), (3, .ref _), (2, .ref _), (1, .ref _), (0, .ref _)]) g [0, 3, 4, 5, 6, 7] rfl ?_
          refine z_widen g (c1 := 32 + (i + 1)) (s1 := 284 + 6 * (i + 1)) (by omega) (by omega) ?_
          exact ih28 (i + 1) _ _ _ _ _ _ _ _ _ _ _ _ _ _ _ _ _ _ _ _ (by omega) (by omega) (hI.empty)
        · obtain ⟨e1, e2, e3⟩ := (fact_num hI).2 hb
          refine z_aload_n g dL_law_127 4 rfl ?_
          refine z_aload_n g dL_law_128 2 rfl ?_
          refine z_callH (w' := [_, _, _, _, _, _, _, _, _, _, _, _, _, _, _, _, _, _, _, _, _, _, _, _, _, _, _, _, _, _, _, _]) (wr := [_, _, _, _, _, _, _, _, _, _, _, _, _]) gx (k_L_numerator_okv l hlt G k _ _ _ _ _ _ _ _ _ _ _ _ _ _ _ _ _ _ _ _ _ _ _ _ _ _ _ _ _ _ _ _ _ hI.1 (Nat.zero_le _) hI.m5 hb) 2 gL_law_L_numerator rfl rfl rfl nd_L_numerator ⟨by decide, by decide⟩ [0, 1, 2, 3, 4, 5, 6, 7, 8, 9, 10, 11, 12, 13, 15, 16, 17, 18, 30] [14, 19, 20, 21, 22, 23, 24, 25, 26, 27, 28, 29, 31] [13, 14, 15, 16, 17, 18, 19, 20, 21, 22, 23, 24, 25, 26, 0, 27, 28, 29, 30, 1, 2, 3, 4, 5, 6, 7, 8, 9, 10, 11, 31, 12] rfl rfl rfl rfl (by decide) rfl rfl rfl rfl (Nat.le_of_ble_eq_true rfl) dL_law_129 ⟨by show _ ≤ 1064; omega, by show _ ≤ 8524; omega⟩ ?_
          refine z_istore (lv' := [(6, .int _), (5, .int _), (4, .ref _), (3, .ref _), (2, .ref _), (1, .ref _), (0, .ref _)]) g dL_law_132 (by decide) rfl ?_
          refine z_aload_n g dL_law_134 4 rfl ?_
          refine z_callVi (w' := [_, _, _, _, _, _, _, _, _, _, _, _, _, _, _, _, _, _, _, _, _, _, _, _, _, _, _, _, _, _, _, _]) (wr := [_, _, _, _, _, _, _, _, _, _, _, _, _, _, _, _, _, _, _, _, _, _, _, _, _, _, _, _]) g (k_X3_numerator_ok l G k _ _ _ _ _ _ _ _ _ _ _ _ _ _ _ _ _ _ _ _ _ _ hI.1 hI.ch ((fact_num hI).1.trans hb) e1 e2) 0 gL_law_X3_numerator rfl rfl rfl nd_X3_numerator ⟨by decide, by decide⟩ 19 rfl rfl [19, 20, 21, 29] [0, 1, 2, 3, 4, 5, 6, 7, 8, 9, 10, 11, 12, 13, 14, 15, 16, 17, 18, 22, 23, 24, 25, 26, 27, 28, 30, 31] [0, 1, 2, 3, 4, 5, 6, 7, 8, 9, 10, 11, 12, 13, 14, 15, 16, 17, 18, 28, 29, 30, 19, 20, 21, 22, 23, 24, 25, 31, 26, 27] rfl rfl rfl rfl (by decide) rfl rfl rfl rfl (Nat.le_of_ble_eq_true rfl) dL_law_135 ⟨by show _ ≤ 1064; omega, by show _ ≤ 8524; omega⟩ ?_
          refine z_istore (lv' := [(7, .int _), (6, .int _), (5, .int _), (4, .ref _), (3, .ref _), (2, .ref _), (1, .ref _), (0, .ref _)]) g dL_law_138 (by decide) rfl ?_
          refine z_aload_n g dL_law_140 5 rfl ?_
          refine z_callVi (w' := [_, _, _, _, _, _, _, _, _, _, _, _, _, _, _, _, _, _, _, _, _, _, _, _, _, _, _, _, _, _, _, _]) (wr := [_, _, _, _, _, _, _, _, _, _, _, _, _, _, _, _, _, _, _, _, _, _, _, _, _, _, _, _, _, _, _]) g (k_X3_thrown l G k _ _ _ _ _ _ _ _ _ _ _ _ _ _ _ _ _ ) 0 gL_law_X3_thrown rfl rfl rfl nd_X3_thrown ⟨by decide, by decide⟩ 19 rfl rfl [19] [0, 1, 2, 3, 4, 5, 6, 7, 8, 9, 10, 11, 12, 13, 14, 15, 16, 17, 18, 20, 21, 22, 23, 24, 25, 26, 27, 28, 29, 30, 31] [0, 1, 2, 3, 4, 5, 6, 7, 8, 9, 10, 11, 12, 13, 14, 15, 16, 17, 18, 31, 19, 20, 21, 22, 23, 24, 25, 26, 27, 28, 29, 30] rfl rfl rfl rfl (by decide) rfl rfl rfl rfl (Nat.le_of_ble_eq_true rfl) dL_law_141 ⟨by show _ ≤ 1064; omega, by show _ ≤ 8524; omega⟩ ?_
          refine z_iload g dL_law_144 1 rfl ?_
          refine z_ic_eq g (tgt := 151) dL_law_146 (by decide) (fun _ => ?_) (fun h9 => absurd rfl h9)
          refine z_iload g dL_law_151 1 rfl ?_
          refine z_if_ne g (tgt := 168) dL_law_153 (by decide) (fun h9 => absurd h9 (by decide)) (fun _ => ?_)
          refine z_aload_n g dL_law_156 4 rfl ?_
          refine z_ic0 g dL_law_157 ?_
          refine z_lald g 30 rfl 0 rfl (by decide) (by decide) dL_law_158 ?_
          refine z_tl (upL0 _ _) ?_
          refine z_iload g dL_law_159 0 rfl ?_
          refine z_i2l g dL_law_161 ?_
          refine z_lc_eq g (tgt := 168) dL_law_162 dL_law_163 (by decide) (fun _ => ?_) (fun h9 => absurd rfl h9)
          refine z_goto g 677 dL_law_168 (by decide) ?_
          refine z_iinc (lv' := [(5, .int _), (7, .int _), (6, .int _), (4, .ref _), (3, .ref _), (2, .ref _), (1, .ref _), (0, .ref _)]) g (nI (4 * (i + 1))) dL_law_677 2 rfl (lw_i4 i) (by decide) rfl ?_
          refine z_goto g 28 dL_law_680 (by decide) ?_
          refine z_locs (lv' := [(5, .int _), (4, .ref _), (3, .ref _), (2, .ref _), (1, .ref _), (0, .ref _)]) g [0, 3, 4, 5, 6, 7] rfl ?_
          refine z_widen g (c1 := 32 + (i + 1)) (s1 := 284 + 6 * (i + 1)) (by omega) (by omega) ?_
          exact ih28 (i + 1) _ _ _ _ _ _ _ _ _ _ _ _ _ _ _ _ _ _ _ _ (by omega) (by omega) (e3)
      · refine z_ti (y := 2) b44 ?_
        refine z_tin g 171 dL_law_44 (by decide) (by decide) rfl (by decide) ?_
        rcases fact_den hI with ⟨hb, e1, e2, e3, e4⟩ | ⟨hb, e1⟩ | ⟨hb, e1⟩
        · refine z_aload_n g dL_law_171 4 rfl ?_
          refine z_aload_n g dL_law_172 2 rfl ?_
          refine z_callH (w' := [_, _, _, _, _, _, _, _, _, _, _, _, _, _, _, _, _, _, _, _, _, _, _, _, _, _, _, _, _, _, _, _]) (wr := [_, _, _, _, _, _, _, _, _, _, _, _, _, _]) gx (k_L_denominator_okv l hlt G k _ _ _ _ _ _ _ _ _ _ _ _ _ _ _ _ _ _ _ _ _ _ _ _ _ _ _ _ _ _ _ _ hI.1 (Nat.zero_le _) hb) 2 gL_law_L_denominator rfl rfl rfl nd_L_denominator ⟨by decide, by decide⟩ [0, 1, 2, 3, 4, 5, 6, 7, 8, 9, 10, 11, 14, 15, 16, 17, 18, 30] [12, 13, 19, 20, 21, 22, 23, 24, 25, 26, 27, 28, 29, 31] [14, 15, 16, 17, 18, 19, 20, 21, 22, 23, 24, 25, 0, 1, 26, 27, 28, 29, 30, 2, 3, 4, 5, 6, 7, 8, 9, 10, 11, 12, 31, 13] rfl rfl rfl rfl (by decide) rfl rfl rfl rfl (Nat.le_of_ble_eq_true rfl) dL_law_173 ⟨by show _ ≤ 1064; omega, by show _ ≤ 8524; omega⟩ ?_
          refine z_istore (lv' := [(6, .int _), (5, .int _), (4, .ref _), (3, .ref _), (2, .ref _), (1, .ref _), (0, .ref _)]) g dL_law_176 (by decide) rfl ?_
          refine z_aload_n g dL_law_178 4 rfl ?_
          refine z_callVi (w' := [_, _, _, _, _, _, _, _, _, _, _, _, _, _, _, _, _, _, _, _, _, _, _, _, _, _, _, _, _, _, _, _]) (wr := [_, _, _, _, _, _, _, _, _, _, _, _, _, _, _, _, _, _, _, _, _, _, _, _, _, _, _]) g (k_X3_denominator_0 l G k _ _ _ _ _ _ _ _ _ _ _ _ _ _ _ _ _ _ _ _ _ _ hI.1 hI.ch e1 e2) 0 gL_law_X3_denominator rfl rfl rfl nd_X3_denominator ⟨by decide, by decide⟩ 19 rfl rfl [19, 20, 22, 24, 25] [0, 1, 2, 3, 4, 5, 6, 7, 8, 9, 10, 11, 12, 13, 14, 15, 16, 17, 18, 21, 23, 26, 27, 28, 29, 30, 31] [0, 1, 2, 3, 4, 5, 6, 7, 8, 9, 10, 11, 12, 13, 14, 15, 16, 17, 18, 27, 28, 19, 29, 20, 30, 31, 21, 22, 23, 24, 25, 26] rfl rfl rfl rfl (by decide) rfl rfl rfl rfl (Nat.le_of_ble_eq_true rfl) dL_law_179 ⟨by show _ ≤ 1064; omega, by show _ ≤ 8524; omega⟩ ?_
          refine z_istore (lv' := [(7, .int _), (6, .int _), (5, .int _), (4, .ref _), (3, .ref _), (2, .ref _), (1, .ref _), (0, .ref _)]) g dL_law_182 (by decide) rfl ?_
          refine z_aload_n g dL_law_184 5 rfl ?_
          refine z_callVi (w' := [_, _, _, _, _, _, _, _, _, _, _, _, _, _, _, _, _, _, _, _, _, _, _, _, _, _, _, _, _, _, _, _]) (wr := [_, _, _, _, _, _, _, _, _, _, _, _, _, _, _, _, _, _, _, _, _, _, _, _, _, _, _, _, _, _, _]) g (k_X3_thrown l G k _ _ _ _ _ _ _ _ _ _ _ _ _ _ _ _ _ ) 0 gL_law_X3_thrown rfl rfl rfl nd_X3_thrown ⟨by decide, by decide⟩ 19 rfl rfl [19] [0, 1, 2, 3, 4, 5, 6, 7, 8, 9, 10, 11, 12, 13, 14, 15, 16, 17, 18, 20, 21, 22, 23, 24, 25, 26, 27, 28, 29, 30, 31] [0, 1, 2, 3, 4, 5, 6, 7, 8, 9, 10, 11, 12, 13, 14, 15, 16, 17, 18, 31, 19, 20, 21, 22, 23, 24, 25, 26, 27, 28, 29, 30] rfl rfl rfl rfl (by decide) rfl rfl rfl rfl (Nat.le_of_ble_eq_true rfl) dL_law_185 ⟨by show _ ≤ 1064; omega, by show _ ≤ 8524; omega⟩ ?_
          refine z_iload g dL_law_188 1 rfl ?_
          refine z_ic_eq g (tgt := 195) dL_law_190 (by decide) (fun _ => ?_) (fun h9 => absurd rfl h9)
          refine z_iload g dL_law_195 1 rfl ?_
          refine z_if_ne g (tgt := 212) dL_law_197 (by decide) (fun h9 => absurd h9 (by decide)) (fun _ => ?_)
          refine z_aload_n g dL_law_200 4 rfl ?_
          refine z_ic0 g dL_law_201 ?_
          refine z_lald g 30 rfl 0 rfl (by decide) (by decide) dL_law_202 ?_
          refine z_tl (upL0 _ _) ?_
          refine z_iload g dL_law_203 0 rfl ?_
          refine z_i2l g dL_law_205 ?_
          refine z_lc_eq g (tgt := 212) dL_law_206 dL_law_207 (by decide) (fun _ => ?_) (fun h9 => absurd (congrArg (fun z => (nI z).toInt64) e3) h9)
          refine z_goto g 677 dL_law_212 (by decide) ?_
          refine z_iinc (lv' := [(5, .int _), (7, .int _), (6, .int _), (4, .ref _), (3, .ref _), (2, .ref _), (1, .ref _), (0, .ref _)]) g (nI (4 * (i + 1))) dL_law_677 2 rfl (lw_i4 i) (by decide) rfl ?_
          refine z_goto g 28 dL_law_680 (by decide) ?_
          refine z_locs (lv' := [(5, .int _), (4, .ref _), (3, .ref _), (2, .ref _), (1, .ref _), (0, .ref _)]) g [0, 3, 4, 5, 6, 7] rfl ?_
          refine z_widen g (c1 := 32 + (i + 1)) (s1 := 284 + 6 * (i + 1)) (by omega) (by omega) ?_
          exact ih28 (i + 1) _ _ _ _ _ _ _ _ _ _ _ _ _ _ _ _ _ _ _ _ (by omega) (by omega) (e4)
        · refine z_aload_n g dL_law_171 4 rfl ?_
          refine z_aload_n g dL_law_172 2 rfl ?_
          refine z_callH (w' := [_, _, _, _, _, _, _, _, _, _, _, _, _, _, _, _, _, _, _, _, _, _, _, _, _, _, _, _, _, _, _, _]) (wr := [_, _, _, _, _, _, _, _, _, _, _, _, _, _]) gx (k_L_denominator_IAE l hlt G k _ _ _ _ _ _ _ _ _ _ _ _ _ _ _ _ _ _ _ _ _ _ _ _ _ _ _ _ _ _ _ _ hI.1 (Nat.zero_le _) hb) 2 gL_law_L_denominator rfl rfl rfl nd_L_denominator ⟨by decide, by decide⟩ [0, 1, 2, 3, 4, 5, 6, 7, 8, 9, 10, 11, 14, 15, 16, 17, 18, 30] [12, 13, 19, 20, 21, 22, 23, 24, 25, 26, 27, 28, 29, 31] [14, 15, 16, 17, 18, 19, 20, 21, 22, 23, 24, 25, 0, 1, 26, 27, 28, 29, 30, 2, 3, 4, 5, 6, 7, 8, 9, 10, 11, 12, 31, 13] rfl rfl rfl rfl (by decide) rfl rfl rfl rfl (Nat.le_of_ble_eq_true rfl) dL_law_173 ⟨by show _ ≤ 1064; omega, by show _ ≤ 8524; omega⟩ ?_
          refine z_istore (lv' := [(6, .int _), (5, .int _), (4, .ref _), (3, .ref _), (2, .ref _), (1, .ref _), (0, .ref _)]) g dL_law_176 (by decide) rfl ?_
          refine z_aload_n g dL_law_178 4 rfl ?_
          refine z_callVi (w' := [_, _, _, _, _, _, _, _, _, _, _, _, _, _, _, _, _, _, _, _, _, _, _, _, _, _, _, _, _, _, _, _]) (wr := [_, _, _, _, _, _, _, _, _, _, _, _, _, _, _, _, _, _, _, _, _, _, _, _, _, _, _]) g (k_X3_denominator_1 l G k _ _ _ _ _ _ _ _ _ _ _ _ _ _ _ _ _ _ _ _ _ hI.1 hI.ch e1) 0 gL_law_X3_denominator rfl rfl rfl nd_X3_denominator ⟨by decide, by decide⟩ 19 rfl rfl [19, 20, 22, 24, 25] [0, 1, 2, 3, 4, 5, 6, 7, 8, 9, 10, 11, 12, 13, 14, 15, 16, 17, 18, 21, 23, 26, 27, 28, 29, 30, 31] [0, 1, 2, 3, 4, 5, 6, 7, 8, 9, 10, 11, 12, 13, 14, 15, 16, 17, 18, 27, 28, 19, 29, 20, 30, 31, 21, 22, 23, 24, 25, 26] rfl rfl rfl rfl (by decide) rfl rfl rfl rfl (Nat.le_of_ble_eq_true rfl) dL_law_179 ⟨by show _ ≤ 1064; omega, by show _ ≤ 8524; omega⟩ ?_
          refine z_istore (lv' := [(7, .int _), (6, .int _), (5, .int _), (4, .ref _), (3, .ref _), (2, .ref _), (1, .ref _), (0, .ref _)]) g dL_law_182 (by decide) rfl ?_
          refine z_aload_n g dL_law_184 5 rfl ?_
          refine z_callVi (w' := [_, _, _, _, _, _, _, _, _, _, _, _, _, _, _, _, _, _, _, _, _, _, _, _, _, _, _, _, _, _, _, _]) (wr := [_, _, _, _, _, _, _, _, _, _, _, _, _, _, _, _, _, _, _, _, _, _, _, _, _, _, _, _, _, _, _]) g (k_X3_thrown l G k _ _ _ _ _ _ _ _ _ _ _ _ _ _ _ _ _ ) 0 gL_law_X3_thrown rfl rfl rfl nd_X3_thrown ⟨by decide, by decide⟩ 19 rfl rfl [19] [0, 1, 2, 3, 4, 5, 6, 7, 8, 9, 10, 11, 12, 13, 14, 15, 16, 17, 18, 20, 21, 22, 23, 24, 25, 26, 27, 28, 29, 30, 31] [0, 1, 2, 3, 4, 5, 6, 7, 8, 9, 10, 11, 12, 13, 14, 15, 16, 17, 18, 31, 19, 20, 21, 22, 23, 24, 25, 26, 27, 28, 29, 30] rfl rfl rfl rfl (by decide) rfl rfl rfl rfl (Nat.le_of_ble_eq_true rfl) dL_law_185 ⟨by show _ ≤ 1064; omega, by show _ ≤ 8524; omega⟩ ?_
          refine z_iload g dL_law_188 1 rfl ?_
          refine z_ic_eq g (tgt := 195) dL_law_190 (by decide) (fun _ => ?_) (fun h9 => absurd rfl h9)
          refine z_iload g dL_law_195 1 rfl ?_
          refine z_if_ne g (tgt := 212) dL_law_197 (by decide) (fun _ => ?_) (fun h9 => absurd h9 (by decide))
          refine z_goto g 677 dL_law_212 (by decide) ?_
          refine z_iinc (lv' := [(5, .int _), (7, .int _), (6, .int _), (4, .ref _), (3, .ref _), (2, .ref _), (1, .ref _), (0, .ref _)]) g (nI (4 * (i + 1))) dL_law_677 2 rfl (lw_i4 i) (by decide) rfl ?_
          refine z_goto g 28 dL_law_680 (by decide) ?_
          refine z_locs (lv' := [(5, .int _), (4, .ref _), (3, .ref _), (2, .ref _), (1, .ref _), (0, .ref _)]) g [0, 3, 4, 5, 6, 7] rfl ?_
          refine z_widen g (c1 := 32 + (i + 1)) (s1 := 284 + 6 * (i + 1)) (by omega) (by omega) ?_
          exact ih28 (i + 1) _ _ _ _ _ _ _ _ _ _ _ _ _ _ _ _ _ _ _ _ (by omega) (by omega) (hI.empty)
        · refine z_aload_n g dL_law_171 4 rfl ?_
          refine z_aload_n g dL_law_172 2 rfl ?_
          refine z_callH (w' := [_, _, _, _, _, _, _, _, _, _, _, _, _, _, _, _, _, _, _, _, _, _, _, _, _, _, _, _, _, _, _, _]) (wr := [_, _, _, _, _, _, _, _, _, _, _, _, _, _]) gx (k_L_denominator_ISE l hlt G k _ _ _ _ _ _ _ _ _ _ _ _ _ _ _ _ _ _ _ _ _ _ _ _ _ _ _ _ _ _ _ _ hI.1 (Nat.zero_le _) hb) 2 gL_law_L_denominator rfl rfl rfl nd_L_denominator ⟨by decide, by decide⟩ [0, 1, 2, 3, 4, 5, 6, 7, 8, 9, 10, 11, 14, 15, 16, 17, 18, 30] [12, 13, 19, 20, 21, 22, 23, 24, 25, 26, 27, 28, 29, 31] [14, 15, 16, 17, 18, 19, 20, 21, 22, 23, 24, 25, 0, 1, 26, 27, 28, 29, 30, 2, 3, 4, 5, 6, 7, 8, 9, 10, 11, 12, 31, 13] rfl rfl rfl rfl (by decide) rfl rfl rfl rfl (Nat.le_of_ble_eq_true rfl) dL_law_173 ⟨by show _ ≤ 1064; omega, by show _ ≤ 8524; omega⟩ ?_
          refine z_istore (lv' := [(6, .int _), (5, .int _), (4, .ref _), (3, .ref _), (2, .ref _), (1, .ref _), (0, .ref _)]) g dL_law_176 (by decide) rfl ?_
          refine z_aload_n g dL_law_178 4 rfl ?_
          refine z_callVi (w' := [_, _, _, _, _, _, _, _, _, _, _, _, _, _, _, _, _, _, _, _, _, _, _, _, _, _, _, _, _, _, _, _]) (wr := [_, _, _, _, _, _, _, _, _, _, _, _, _, _, _, _, _, _, _, _, _, _, _, _, _, _, _]) g (k_X3_denominator_2 l G k _ _ _ _ _ _ _ _ _ _ _ _ _ _ _ _ _ _ _ _ _ hI.1 hI.ch e1) 0 gL_law_X3_denominator rfl rfl rfl nd_X3_denominator ⟨by decide, by decide⟩ 19 rfl rfl [19, 20, 22, 24, 25] [0, 1, 2, 3, 4, 5, 6, 7, 8, 9, 10, 11, 12, 13, 14, 15, 16, 17, 18, 21, 23, 26, 27, 28, 29, 30, 31] [0, 1, 2, 3, 4, 5, 6, 7, 8, 9, 10, 11, 12, 13, 14, 15, 16, 17, 18, 27, 28, 19, 29, 20, 30, 31, 21, 22, 23, 24, 25, 26] rfl rfl rfl rfl (by decide) rfl rfl rfl rfl (Nat.le_of_ble_eq_true rfl) dL_law_179 ⟨by show _ ≤ 1064; omega, by show _ ≤ 8524; omega⟩ ?_
          refine z_istore (lv' := [(7, .int _), (6, .int _), (5, .int _), (4, .ref _), (3, .ref _), (2, .ref _), (1, .ref _), (0, .ref _)]) g dL_law_182 (by decide) rfl ?_
          refine z_aload_n g dL_law_184 5 rfl ?_
          refine z_callVi (w' := [_, _, _, _, _, _, _, _, _, _, _, _, _, _, _, _, _, _, _, _, _, _, _, _, _, _, _, _, _, _, _, _]) (wr := [_, _, _, _, _, _, _, _, _, _, _, _, _, _, _, _, _, _, _, _, _, _, _, _, _, _, _, _, _, _, _]) g (k_X3_thrown l G k _ _ _ _ _ _ _ _ _ _ _ _ _ _ _ _ _ ) 0 gL_law_X3_thrown rfl rfl rfl nd_X3_thrown ⟨by decide, by decide⟩ 19 rfl rfl [19] [0, 1, 2, 3, 4, 5, 6, 7, 8, 9, 10, 11, 12, 13, 14, 15, 16, 17, 18, 20, 21, 22, 23, 24, 25, 26, 27, 28, 29, 30, 31] [0, 1, 2, 3, 4, 5, 6, 7, 8, 9, 10, 11, 12, 13, 14, 15, 16, 17, 18, 31, 19, 20, 21, 22, 23, 24, 25, 26, 27, 28, 29, 30] rfl rfl rfl rfl (by decide) rfl rfl rfl rfl (Nat.le_of_ble_eq_true rfl) dL_law_185 ⟨by show _ ≤ 1064; omega, by show _ ≤ 8524; omega⟩ ?_
          refine z_iload g dL_law_188 1 rfl ?_
          refine z_ic_eq g (tgt := 195) dL_law_190 (by decide) (fun _ => ?_) (fun h9 => absurd rfl h9)
          refine z_iload g dL_law_195 1 rfl ?_
          refine z_if_ne g (tgt := 212) dL_law_197 (by decide) (fun _ => ?_) (fun h9 => absurd h9 (by decide))
          refine z_goto g 677 dL_law_212 (by decide) ?_
          refine z_iinc (lv' := [(5, .int _), (7, .int _), (6, .int _), (4, .ref _), (3, .ref _), (2, .ref _), (1, .ref _), (0, .ref _)]) g (nI (4 * (i + 1))) dL_law_677 2 rfl (lw_i4 i) (by decide) rfl ?_
          refine z_goto g 28 dL_law_680 (by decide) ?_
          refine z_locs (lv' := [(5, .int _), (4, .ref _), (3, .ref _), (2, .ref _), (1, .ref _), (0, .ref _)]) g [0, 3, 4, 5, 6, 7] rfl ?_
          refine z_widen g (c1 := 32 + (i + 1)) (s1 := 284 + 6 * (i + 1)) (by omega) (by omega) ?_
          exact ih28 (i + 1) _ _ _ _ _ _ _ _ _ _ _ _ _ _ _ _ _ _ _ _ (by omega) (by omega) (hI.empty)
      · refine z_ti (y := 3) b44 ?_
        refine z_tin g 215 dL_law_44 (by decide) (by decide) rfl (by decide) ?_
        refine z_aload_n g dL_law_215 4 rfl ?_
        refine z_aload_n g dL_law_216 5 rfl ?_
        refine z_iload g dL_law_217 0 rfl ?_
        refine z_ic1 g dL_law_219 ?_
        refine z_iadd g dL_law_220 ?_
        refine z_sld gl (4 * i + 1) (nI_add (4 * i) 1) (by omega) hlt31 dL_law_221 ?_
        refine z_aload_n g dL_law_222 5 rfl ?_
        refine z_iload g dL_law_223 0 rfl ?_
        refine z_ic2 g dL_law_225 ?_
        refine z_iadd g dL_law_226 ?_
        refine z_sld gl (4 * i + 2) (nI_add (4 * i) 2) (by omega) hlt31 dL_law_227 ?_
        refine z_callVl (w' := [_, _, _, _, _, _, _, _, _, _, _, _, _, _, _, _, _, _, _, _, _, _, _, _, _, _, _, _, _, _, _, _]) (wr := [_, _, _, _, _, _, _, _, _, _, _, _, _, _, _, _, _, _, _, _, _, _, _, _, _]) g (k_X2_coefficient l G k _ _ _ _ _ _ _ _ _ _ _ _ _ _ _ _ _ _ _ _ ) 2 gL_law_X2_coefficient rfl rfl rfl nd_X2_coefficient ⟨by decide, by decide⟩ 0 rfl rfl [0, 3, 4, 5, 6, 7, 8] [1, 2, 9, 10, 11, 12, 13, 14, 15, 16, 17, 18, 19, 20, 21, 22, 23, 24, 25, 26, 27, 28, 29, 30, 31] [25, 0, 1, 26, 27, 28, 29, 30, 31, 2, 3, 4, 5, 6, 7, 8, 9, 10, 11, 12, 13, 14, 15, 16, 17, 18, 19, 20, 21, 22, 23, 24] rfl rfl rfl rfl (by decide) rfl rfl rfl rfl (Nat.le_of_ble_eq_true rfl) dL_law_228 ⟨by show _ ≤ 1064; omega, by show _ ≤ 8524; omega⟩ ?_
        refine z_aload_n g dL_law_231 3 rfl ?_
        refine z_aload_n g dL_law_232 5 rfl ?_
        refine z_iload g dL_law_233 0 rfl ?_
        refine z_ic1 g dL_law_235 ?_
        refine z_iadd g dL_law_236 ?_
        refine z_sld gl (4 * i + 1) (nI_add (4 * i) 1) (by omega) hlt31 dL_law_237 ?_
        refine z_aload_n g dL_law_238 5 rfl ?_
        refine z_iload g dL_law_239 0 rfl ?_
        refine z_ic2 g dL_law_241 ?_
        refine z_iadd g dL_law_242 ?_
        refine z_sld gl (4 * i + 2) (nI_add (4 * i) 2) (by omega) hlt31 dL_law_243 ?_
        refine z_callVl (w' := [_, _, _, _, _, _, _, _, _, _, _, _, _, _, _, _, _, _, _, _, _, _, _, _, _, _, _, _, _, _, _, _]) (wr := [_, _, _, _, _, _, _, _, _, _, _, _, _, _, _, _, _, _, _, _, _, _, _, _, _, _, _]) g (k_X3_coefficient_v l G k _ _ _ _ _ _ _ _ _ _ _ _ _ _ _ _ _ _ _ _ _ _ _ _ hI.2.2.2 (fact_cof hI _ _)) 2 gL_law_X3_coefficient rfl rfl rfl nd_X3_coefficient ⟨by decide, by decide⟩ 19 rfl rfl [19, 21, 22, 23, 26] [0, 1, 2, 3, 4, 5, 6, 7, 8, 9, 10, 11, 12, 13, 14, 15, 16, 17, 18, 20, 24, 25, 27, 28, 29, 30, 31] [0, 1, 2, 3, 4, 5, 6, 7, 8, 9, 10, 11, 12, 13, 14, 15, 16, 17, 18, 27, 19, 28, 29, 30, 20, 21, 31, 22, 23, 24, 25, 26] rfl rfl rfl rfl (by decide) rfl rfl rfl rfl (Nat.le_of_ble_eq_true rfl) dL_law_244 ⟨by show _ ≤ 1064; omega, by show _ ≤ 8524; omega⟩ ?_
        refine z_lc_eq g (tgt := 677) dL_law_247 dL_law_248 (by decide) (fun _ => ?_) (fun h9 => absurd rfl h9)
        refine z_iinc (lv' := [(5, .int _), (4, .ref _), (3, .ref _), (2, .ref _), (1, .ref _), (0, .ref _)]) g (nI (4 * (i + 1))) dL_law_677 0 rfl (lw_i4 i) (by decide) rfl ?_
        refine z_goto g 28 dL_law_680 (by decide) ?_
        refine z_widen g (c1 := 32 + (i + 1)) (s1 := 284 + 6 * (i + 1)) (by omega) (by omega) ?_
        exact ih28 (i + 1) _ _ _ _ _ _ _ _ _ _ _ _ _ _ _ _ _ _ _ _ (by omega) (by omega) (hI)
      · refine z_ti (y := 4) b44 ?_
        refine z_tin g 253 dL_law_44 (by decide) (by decide) rfl (by decide) ?_
        refine z_aload_n g dL_law_253 4 rfl ?_
        refine z_aload_n g dL_law_254 5 rfl ?_
        refine z_iload g dL_law_255 0 rfl ?_
        refine z_ic1 g dL_law_257 ?_
        refine z_iadd g dL_law_258 ?_
        refine z_sld gl (4 * i + 1) (nI_add (4 * i) 1) (by omega) hlt31 dL_law_259 ?_
        refine z_callVi (w' := [_, _, _, _, _, _, _, _, _, _, _, _, _, _, _, _, _, _, _, _, _, _, _, _, _, _, _, _, _, _, _, _]) (wr := [_, _, _, _, _, _, _, _, _, _, _, _, _, _, _, _, _, _, _, _, _, _, _, _, _, _, _, _, _, _]) g (k_X2_many l G k _ _ _ _ _ _ _ _ _ _ _ _ _ _ ) 1 gL_law_X2_many rfl rfl rfl nd_X2_many ⟨by decide, by decide⟩ 0 rfl rfl [0, 9] [1, 2, 3, 4, 5, 6, 7, 8, 10, 11, 12, 13, 14, 15, 16, 17, 18, 19, 20, 21, 22, 23, 24, 25, 26, 27, 28, 29, 30, 31] [30, 0, 1, 2, 3, 4, 5, 6, 7, 31, 8, 9, 10, 11, 12, 13, 14, 15, 16, 17, 18, 19, 20, 21, 22, 23, 24, 25, 26, 27, 28, 29] rfl rfl rfl rfl (by decide) rfl rfl rfl rfl (Nat.le_of_ble_eq_true rfl) dL_law_260 ⟨by show _ ≤ 1064; omega, by show _ ≤ 8524; omega⟩ ?_
        refine z_aload_n g dL_law_263 3 rfl ?_
        refine z_aload_n g dL_law_264 5 rfl ?_
        refine z_iload g dL_law_265 0 rfl ?_
        refine z_ic1 g dL_law_267 ?_
        refine z_iadd g dL_law_268 ?_
        refine z_sld gl (4 * i + 1) (nI_add (4 * i) 1) (by omega) hlt31 dL_law_269 ?_
        refine z_callVi (w' := [_, _, _, _, _, _, _, _, _, _, _, _, _, _, _, _, _, _, _, _, _, _, _, _, _, _, _, _, _, _, _, _]) (wr := [_, _, _, _, _, _, _, _, _, _, _, _, _, _, _, _, _, _, _, _, _, _, _, _, _, _, _, _, _, _]) g (k_X3_many l G k _ _ _ _ _ _ _ _ _ _ _ _ _ _ _ _ _ _ _ ) 1 gL_law_X3_many rfl rfl rfl nd_X3_many ⟨by decide, by decide⟩ 19 rfl rfl [19, 24] [0, 1, 2, 3, 4, 5, 6, 7, 8, 9, 10, 11, 12, 13, 14, 15, 16, 17, 18, 20, 21, 22, 23, 25, 26, 27, 28, 29, 30, 31] [0, 1, 2, 3, 4, 5, 6, 7, 8, 9, 10, 11, 12, 13, 14, 15, 16, 17, 18, 30, 19, 20, 21, 22, 31, 23, 24, 25, 26, 27, 28, 29] rfl rfl rfl rfl (by decide) rfl rfl rfl rfl (Nat.le_of_ble_eq_true rfl) dL_law_270 ⟨by show _ ≤ 1064; omega, by show _ ≤ 8524; omega⟩ ?_
        refine z_ic_eq g (tgt := 677) dL_law_273 (by decide) (fun _ => ?_) (fun h9 => absurd rfl h9)
        refine z_iinc (lv' := [(5, .int _), (4, .ref _), (3, .ref _), (2, .ref _), (1, .ref _), (0, .ref _)]) g (nI (4 * (i + 1))) dL_law_677 0 rfl (lw_i4 i) (by decide) rfl ?_
        refine z_goto g 28 dL_law_680 (by decide) ?_
        refine z_widen g (c1 := 32 + (i + 1)) (s1 := 284 + 6 * (i + 1)) (by omega) (by omega) ?_
        exact ih28 (i + 1) _ _ _ _ _ _ _ _ _ _ _ _ _ _ _ _ _ _ _ _ (by omega) (by omega) (hI)
      · refine z_ti (y := 5) b44 ?_
        refine z_tin g 278 dL_law_44 (by decide) (by decide) rfl (by decide) ?_
        rcases hb : ptOK m (xs (4 * i + 1)) (xs (4 * i + 2)) (xs (4 * i + 3)) with _ | _
        · refine z_aload_n g dL_law_278 4 rfl ?_
          refine z_aload_n g dL_law_279 5 rfl ?_
          refine z_iload g dL_law_280 0 rfl ?_
          refine z_ic1 g dL_law_282 ?_
          refine z_iadd g dL_law_283 ?_
          refine z_sld gl (4 * i + 1) (nI_add (4 * i) 1) (by omega) hlt31 dL_law_284 ?_
          refine z_aload_n g dL_law_285 5 rfl ?_
          refine z_iload g dL_law_286 0 rfl ?_
          refine z_ic2 g dL_law_288 ?_
          refine z_iadd g dL_law_289 ?_
          refine z_sld gl (4 * i + 2) (nI_add (4 * i) 2) (by omega) hlt31 dL_law_290 ?_
          refine z_aload_n g dL_law_291 5 rfl ?_
          refine z_iload g dL_law_292 0 rfl ?_
          refine z_ic3 g dL_law_294 ?_
          refine z_iadd g dL_law_295 ?_
          refine z_sld gl (4 * i + 3) (nI_add (4 * i) 3) (by omega) hlt31 dL_law_296 ?_
          refine z_aload_n g dL_law_297 2 rfl ?_
          refine z_callH (w' := [_, _, _, _, _, _, _, _, _, _, _, _, _, _, _, _, _, _, _, _, _, _, _, _, _, _, _, _, _, _, _, _]) (wr := [_, _, _, _, _, _, _, _, _, _, _, _, _, _, _, _, _, _, _, _, _, _, _, _, _, _, _]) gx (k_L_part_IAE l hlt G k _ _ _ _ _ _ _ _ _ _ _ _ _ _ _ _ _ _ _ _ hb) 5 gL_law_L_part rfl rfl rfl nd_L_part ⟨by decide, by decide⟩ [0, 9, 10, 11, 30] [1, 2, 3, 4, 5, 6, 7, 8, 12, 13, 14, 15, 16, 17, 18, 19, 20, 21, 22, 23, 24, 25, 26, 27, 28, 29, 31] [27, 0, 1, 2, 3, 4, 5, 6, 7, 28, 29, 30, 8, 9, 10, 11, 12, 13, 14, 15, 16, 17, 18, 19, 20, 21, 22, 23, 24, 25, 31, 26] rfl rfl rfl rfl (by decide) rfl rfl rfl rfl (Nat.le_of_ble_eq_true rfl) dL_law_298 ⟨by show _ ≤ 1064; omega, by show _ ≤ 8524; omega⟩ ?_
          refine z_istore (lv' := [(6, .int _), (5, .int _), (4, .ref _), (3, .ref _), (2, .ref _), (1, .ref _), (0, .ref _)]) g dL_law_301 (by decide) rfl ?_
          refine z_aload_n g dL_law_303 4 rfl ?_
          refine z_aload_n g dL_law_304 6 rfl ?_
          refine z_iload g dL_law_305 1 rfl ?_
          refine z_ic1 g dL_law_307 ?_
          refine z_iadd g dL_law_308 ?_
          refine z_sld gl (4 * i + 1) (nI_add (4 * i) 1) (by omega) hlt31 dL_law_309 ?_
          refine z_aload_n g dL_law_310 6 rfl ?_
          refine z_iload g dL_law_311 1 rfl ?_
          refine z_ic2 g dL_law_313 ?_
          refine z_iadd g dL_law_314 ?_
          refine z_sld gl (4 * i + 2) (nI_add (4 * i) 2) (by omega) hlt31 dL_law_315 ?_
          refine z_aload_n g dL_law_316 6 rfl ?_
          refine z_iload g dL_law_317 1 rfl ?_
          refine z_ic3 g dL_law_319 ?_
          refine z_iadd g dL_law_320 ?_
          refine z_sld gl (4 * i + 3) (nI_add (4 * i) 3) (by omega) hlt31 dL_law_321 ?_
          refine z_callVl (w' := [_, _, _, _, _, _, _, _, _, _, _, _, _, _, _, _, _, _, _, _, _, _, _, _, _, _, _, _, _, _, _, _]) (wr := [_, _, _, _, _, _, _, _, _, _, _, _, _, _, _, _, _, _, _, _, _, _, _, _, _, _]) g (k_X3_part_no l G k _ _ _ _ _ _ _ _ _ _ _ _ _ _ _ _ _ _ _ _ _ _ _ _ _ _ hI.m5 (fact_wkG hI) ((fact_part hI _ _ _).1.trans hb) rfl) 3 gL_law_X3_part rfl rfl rfl nd_X3_part ⟨by decide, by decide⟩ 19 rfl rfl [19, 21, 24, 26, 27, 28] [0, 1, 2, 3, 4, 5, 6, 7, 8, 9, 10, 11, 12, 13, 14, 15, 16, 17, 18, 20, 22, 23, 25, 29, 30, 31] [0, 1, 2, 3, 4, 5, 6, 7, 8, 9, 10, 11, 12, 13, 14, 15, 16, 17, 18, 26, 19, 27, 20, 21, 28, 22, 29, 30, 31, 23, 24, 25] rfl rfl rfl rfl (by decide) rfl rfl rfl rfl (Nat.le_of_ble_eq_true rfl) dL_law_322 ⟨by show _ ≤ 1064; omega, by show _ ≤ 8524; omega⟩ ?_
          refine z_lstore (lv' := [(7, .long _), (6, .int _), (5, .int _), (4, .ref _), (3, .ref _), (2, .ref _), (1, .ref _), (0, .ref _)]) g dL_law_325 (by decide) rfl ?_
          refine z_aload_n g dL_law_327 5 rfl ?_
          refine z_callVi (w' := [_, _, _, _, _, _, _, _, _, _, _, _, _, _, _, _, _, _, _, _, _, _, _, _, _, _, _, _, _, _, _, _]) (wr := [_, _, _, _, _, _, _, _, _, _, _, _, _, _, _, _, _, _, _, _, _, _, _, _, _, _, _, _, _, _, _]) g (k_X3_thrown l G k _ _ _ _ _ _ _ _ _ _ _ _ _ _ _ _ _ ) 0 gL_law_X3_thrown rfl rfl rfl nd_X3_thrown ⟨by decide, by decide⟩ 19 rfl rfl [19] [0, 1, 2, 3, 4, 5, 6, 7, 8, 9, 10, 11, 12, 13, 14, 15, 16, 17, 18, 20, 21, 22, 23, 24, 25, 26, 27, 28, 29, 30, 31] [0, 1, 2, 3, 4, 5, 6, 7, 8, 9, 10, 11, 12, 13, 14, 15, 16, 17, 18, 31, 19, 20, 21, 22, 23, 24, 25, 26, 27, 28, 29, 30] rfl rfl rfl rfl (by decide) rfl rfl rfl rfl (Nat.le_of_ble_eq_true rfl) dL_law_328 ⟨by show _ ≤ 1064; omega, by show _ ≤ 8524; omega⟩ ?_
          refine z_iload g dL_law_331 1 rfl ?_
          refine z_ic_eq g (tgt := 338) dL_law_333 (by decide) (fun _ => ?_) (fun h9 => absurd rfl h9)
          refine z_iload g dL_law_338 1 rfl ?_
          refine z_if_ne g (tgt := 354) dL_law_340 (by decide) (fun _ => ?_) (fun h9 => absurd h9 (by decide))
          refine z_goto g 677 dL_law_354 (by decide) ?_
          refine z_iinc (lv' := [(5, .int _), (7, .long _), (6, .int _), (4, .ref _), (3, .ref _), (2, .ref _), (1, .ref _), (0, .ref _)]) g (nI (4 * (i + 1))) dL_law_677 2 rfl (lw_i4 i) (by decide) rfl ?_
          refine z_goto g 28 dL_law_680 (by decide) ?_
          refine z_locs (lv' := [(5, .int _), (4, .ref _), (3, .ref _), (2, .ref _), (1, .ref _), (0, .ref _)]) g [0, 3, 4, 5, 6, 7] rfl ?_
          refine z_widen g (c1 := 32 + (i + 1)) (s1 := 284 + 6 * (i + 1)) (by omega) (by omega) ?_
          exact ih28 (i + 1) _ _ _ _ _ _ _ _ _ _ _ _ _ _ _ _ _ _ _ _ (by omega) (by omega) (hI)
        · refine z_aload_n g dL_law_278 4 rfl ?_
          refine z_aload_n g dL_law_279 5 rfl ?_
          refine z_iload g dL_law_280 0 rfl ?_
          refine z_ic1 g dL_law_282 ?_
          refine z_iadd g dL_law_283 ?_
          refine z_sld gl (4 * i + 1) (nI_add (4 * i) 1) (by omega) hlt31 dL_law_284 ?_
          refine z_aload_n g dL_law_285 5 rfl ?_
          refine z_iload g dL_law_286 0 rfl ?_
          refine z_ic2 g dL_law_288 ?_
          refine z_iadd g dL_law_289 ?_
          refine z_sld gl (4 * i + 2) (nI_add (4 * i) 2) (by omega) hlt31 dL_law_290 ?_
          refine z_aload_n g dL_law_291 5 rfl ?_
          refine z_iload g dL_law_292 0 rfl ?_
          refine z_ic3 g dL_law_294 ?_
          refine z_iadd g dL_law_295 ?_
          refine z_sld gl (4 * i + 3) (nI_add (4 * i) 3) (by omega) hlt31 dL_law_296 ?_
          refine z_aload_n g dL_law_297 2 rfl ?_
          refine z_callH (w' := [_, _, _, _, _, _, _, _, _, _, _, _, _, _, _, _, _, _, _, _, _, _, _, _, _, _, _, _, _, _, _, _]) (wr := [_, _, _, _, _, _, _, _, _, _, _, _, _, _, _, _, _, _, _, _, _, _, _, _, _, _, _]) gx (k_L_part_ok l hlt G k _ _ _ _ _ _ _ _ _ _ _ _ _ _ _ _ _ _ _ _ hb) 5 gL_law_L_part rfl rfl rfl nd_L_part ⟨by decide, by decide⟩ [0, 9, 10, 11, 30] [1, 2, 3, 4, 5, 6, 7, 8, 12, 13, 14, 15, 16, 17, 18, 19, 20, 21, 22, 23, 24, 25, 26, 27, 28, 29, 31] [27, 0, 1, 2, 3, 4, 5, 6, 7, 28, 29, 30, 8, 9, 10, 11, 12, 13, 14, 15, 16, 17, 18, 19, 20, 21, 22, 23, 24, 25, 31, 26] rfl rfl rfl rfl (by decide) rfl rfl rfl rfl (Nat.le_of_ble_eq_true rfl) dL_law_298 ⟨by show _ ≤ 1064; omega, by show _ ≤ 8524; omega⟩ ?_
          refine z_istore (lv' := [(6, .int _), (5, .int _), (4, .ref _), (3, .ref _), (2, .ref _), (1, .ref _), (0, .ref _)]) g dL_law_301 (by decide) rfl ?_
          refine z_aload_n g dL_law_303 4 rfl ?_
          refine z_aload_n g dL_law_304 6 rfl ?_
          refine z_iload g dL_law_305 1 rfl ?_
          refine z_ic1 g dL_law_307 ?_
          refine z_iadd g dL_law_308 ?_
          refine z_sld gl (4 * i + 1) (nI_add (4 * i) 1) (by omega) hlt31 dL_law_309 ?_
          refine z_aload_n g dL_law_310 6 rfl ?_
          refine z_iload g dL_law_311 1 rfl ?_
          refine z_ic2 g dL_law_313 ?_
          refine z_iadd g dL_law_314 ?_
          refine z_sld gl (4 * i + 2) (nI_add (4 * i) 2) (by omega) hlt31 dL_law_315 ?_
          refine z_aload_n g dL_law_316 6 rfl ?_
          refine z_iload g dL_law_317 1 rfl ?_
          refine z_ic3 g dL_law_319 ?_
          refine z_iadd g dL_law_320 ?_
          refine z_sld gl (4 * i + 3) (nI_add (4 * i) 3) (by omega) hlt31 dL_law_321 ?_
          refine z_callVl (w' := [_, _, _, _, _, _, _, _, _, _, _, _, _, _, _, _, _, _, _, _, _, _, _, _, _, _, _, _, _, _, _, _]) (wr := [_, _, _, _, _, _, _, _, _, _, _, _, _, _, _, _, _, _, _, _, _, _, _, _, _, _]) g (k_X3_part_ok l G k _ _ _ _ _ _ _ _ _ _ _ _ _ _ _ _ _ _ _ _ _ _ _ _ _ _ hI.m5 (fact_wkG hI) ((fact_part hI _ _ _).1.trans hb) ((fact_part hI _ _ _).2 hb)) 3 gL_law_X3_part rfl rfl rfl nd_X3_part ⟨by decide, by decide⟩ 19 rfl rfl [19, 21, 24, 26, 27, 28] [0, 1, 2, 3, 4, 5, 6, 7, 8, 9, 10, 11, 12, 13, 14, 15, 16, 17, 18, 20, 22, 23, 25, 29, 30, 31] [0, 1, 2, 3, 4, 5, 6, 7, 8, 9, 10, 11, 12, 13, 14, 15, 16, 17, 18, 26, 19, 27, 20, 21, 28, 22, 29, 30, 31, 23, 24, 25] rfl rfl rfl rfl (by decide) rfl rfl rfl rfl (Nat.le_of_ble_eq_true rfl) dL_law_322 ⟨by show _ ≤ 1064; omega, by show _ ≤ 8524; omega⟩ ?_
          refine z_lstore (lv' := [(7, .long _), (6, .int _), (5, .int _), (4, .ref _), (3, .ref _), (2, .ref _), (1, .ref _), (0, .ref _)]) g dL_law_325 (by decide) rfl ?_
          refine z_aload_n g dL_law_327 5 rfl ?_
          refine z_callVi (w' := [_, _, _, _, _, _, _, _, _, _, _, _, _, _, _, _, _, _, _, _, _, _, _, _, _, _, _, _, _, _, _, _]) (wr := [_, _, _, _, _, _, _, _, _, _, _, _, _, _, _, _, _, _, _, _, _, _, _, _, _, _, _, _, _, _, _]) g (k_X3_thrown l G k _ _ _ _ _ _ _ _ _ _ _ _ _ _ _ _ _ ) 0 gL_law_X3_thrown rfl rfl rfl nd_X3_thrown ⟨by decide, by decide⟩ 19 rfl rfl [19] [0, 1, 2, 3, 4, 5, 6, 7, 8, 9, 10, 11, 12, 13, 14, 15, 16, 17, 18, 20, 21, 22, 23, 24, 25, 26, 27, 28, 29, 30, 31] [0, 1, 2, 3, 4, 5, 6, 7, 8, 9, 10, 11, 12, 13, 14, 15, 16, 17, 18, 31, 19, 20, 21, 22, 23, 24, 25, 26, 27, 28, 29, 30] rfl rfl rfl rfl (by decide) rfl rfl rfl rfl (Nat.le_of_ble_eq_true rfl) dL_law_328 ⟨by show _ ≤ 1064; omega, by show _ ≤ 8524; omega⟩ ?_
          refine z_iload g dL_law_331 1 rfl ?_
          refine z_ic_eq g (tgt := 338) dL_law_333 (by decide) (fun _ => ?_) (fun h9 => absurd rfl h9)
          refine z_iload g dL_law_338 1 rfl ?_
          refine z_if_ne g (tgt := 354) dL_law_340 (by decide) (fun h9 => absurd h9 (by decide)) (fun _ => ?_)
          refine z_aload_n g dL_law_343 4 rfl ?_
          refine z_ic0 g dL_law_344 ?_
          refine z_lald g 30 rfl 0 rfl (by decide) (by decide) dL_law_345 ?_
          refine z_tl (upL0 _ _) ?_
          refine z_lload g dL_law_346 0 rfl ?_
          refine z_lc_eq g (tgt := 354) dL_law_348 dL_law_349 (by decide) (fun _ => ?_) (fun h9 => absurd rfl h9)
          refine z_goto g 677 dL_law_354 (by decide) ?_
          refine z_iinc (lv' := [(5, .int _), (7, .long _), (6, .int _), (4, .ref _), (3, .ref _), (2, .ref _), (1, .ref _), (0, .ref _)]) g (nI (4 * (i + 1))) dL_law_677 2 rfl (lw_i4 i) (by decide) rfl ?_
          refine z_goto g 28 dL_law_680 (by decide) ?_
          refine z_locs (lv' := [(5, .int _), (4, .ref _), (3, .ref _), (2, .ref _), (1, .ref _), (0, .ref _)]) g [0, 3, 4, 5, 6, 7] rfl ?_
          refine z_widen g (c1 := 32 + (i + 1)) (s1 := 284 + 6 * (i + 1)) (by omega) (by omega) ?_
          exact ih28 (i + 1) _ _ _ _ _ _ _ _ _ _ _ _ _ _ _ _ _ _ _ _ (by omega) (by omega) (hI)
      · refine z_ti (y := 6) b44 ?_
        refine z_tin g 357 dL_law_44 (by decide) (by decide) rfl (by decide) ?_
        rcases hb : igOK m (xs (4 * i + 1)) (xs (4 * i + 2)) (xs (4 * i + 3)) with _ | _
        · refine z_aload_n g dL_law_357 4 rfl ?_
          refine z_aload_n g dL_law_358 5 rfl ?_
          refine z_iload g dL_law_359 0 rfl ?_
          refine z_ic1 g dL_law_361 ?_
          refine z_iadd g dL_law_362 ?_
          refine z_sld gl (4 * i + 1) (nI_add (4 * i) 1) (by omega) hlt31 dL_law_363 ?_
          refine z_aload_n g dL_law_364 5 rfl ?_
          refine z_iload g dL_law_365 0 rfl ?_
          refine z_ic2 g dL_law_367 ?_
          refine z_iadd g dL_law_368 ?_
          refine z_sld gl (4 * i + 2) (nI_add (4 * i) 2) (by omega) hlt31 dL_law_369 ?_
          refine z_aload_n g dL_law_370 5 rfl ?_
          refine z_iload g dL_law_371 0 rfl ?_
          refine z_ic3 g dL_law_373 ?_
          refine z_iadd g dL_law_374 ?_
          refine z_sld gl (4 * i + 3) (nI_add (4 * i) 3) (by omega) hlt31 dL_law_375 ?_
          refine z_aload_n g dL_law_376 2 rfl ?_
          refine z_callH (w' := [_, _, _, _, _, _, _, _, _, _, _, _, _, _, _, _, _, _, _, _, _, _, _, _, _, _, _, _, _, _, _, _]) (wr := [_, _, _, _, _, _, _, _, _, _, _, _, _, _, _, _, _, _, _, _, _, _, _, _, _]) gx (k_L_integral_IAE l hlt G k _ _ _ _ _ _ _ _ _ _ _ _ _ _ _ _ _ _ _ _ _ _ hb) 5 gL_law_L_integral rfl rfl rfl nd_L_integral ⟨by decide, by decide⟩ [0, 7, 8, 9, 10, 11, 30] [1, 2, 3, 4, 5, 6, 12, 13, 14, 15, 16, 17, 18, 19, 20, 21, 22, 23, 24, 25, 26, 27, 28, 29, 31] [25, 0, 1, 2, 3, 4, 5, 26, 27, 28, 29, 30, 6, 7, 8, 9, 10, 11, 12, 13, 14, 15, 16, 17, 18, 19, 20, 21, 22, 23, 31, 24] rfl rfl rfl rfl (by decide) rfl rfl rfl rfl (Nat.le_of_ble_eq_true rfl) dL_law_377 ⟨by show _ ≤ 1064; omega, by show _ ≤ 8524; omega⟩ ?_
          refine z_istore (lv' := [(6, .int _), (5, .int _), (4, .ref _), (3, .ref _), (2, .ref _), (1, .ref _), (0, .ref _)]) g dL_law_380 (by decide) rfl ?_
          refine z_aload_n g dL_law_382 4 rfl ?_
          refine z_aload_n g dL_law_383 6 rfl ?_
          refine z_iload g dL_law_384 1 rfl ?_
          refine z_ic1 g dL_law_386 ?_
          refine z_iadd g dL_law_387 ?_
          refine z_sld gl (4 * i + 1) (nI_add (4 * i) 1) (by omega) hlt31 dL_law_388 ?_
          refine z_aload_n g dL_law_389 6 rfl ?_
          refine z_iload g dL_law_390 1 rfl ?_
          refine z_ic2 g dL_law_392 ?_
          refine z_iadd g dL_law_393 ?_
          refine z_sld gl (4 * i + 2) (nI_add (4 * i) 2) (by omega) hlt31 dL_law_394 ?_
          refine z_aload_n g dL_law_395 6 rfl ?_
          refine z_iload g dL_law_396 1 rfl ?_
          refine z_ic3 g dL_law_398 ?_
          refine z_iadd g dL_law_399 ?_
          refine z_sld gl (4 * i + 3) (nI_add (4 * i) 3) (by omega) hlt31 dL_law_400 ?_
          refine z_callVl (w' := [_, _, _, _, _, _, _, _, _, _, _, _, _, _, _, _, _, _, _, _, _, _, _, _, _, _, _, _, _, _, _, _]) (wr := [_, _, _, _, _, _, _, _, _, _, _, _, _, _, _, _, _, _, _, _, _, _, _, _]) g (k_X3_integral_no l G k _ _ _ _ _ _ _ _ _ _ _ _ _ _ _ _ _ _ _ _ _ _ _ _ _ _ _ _ hI.2.2.2 hI.m5 (fact_wkG hI) (fact_int hI (xs (4 * i + 1)) (xs (4 * i + 2)) (xs (4 * i + 3))).1 ((fact_int hI _ _ _).2.1.trans hb) rfl) 3 gL_law_X3_integral rfl rfl rfl nd_X3_integral ⟨by decide, by decide⟩ 19 rfl rfl [19, 21, 22, 23, 24, 26, 27, 28] [0, 1, 2, 3, 4, 5, 6, 7, 8, 9, 10, 11, 12, 13, 14, 15, 16, 17, 18, 20, 25, 29, 30, 31] [0, 1, 2, 3, 4, 5, 6, 7, 8, 9, 10, 11, 12, 13, 14, 15, 16, 17, 18, 24, 19, 25, 26, 27, 28, 20, 29, 30, 31, 21, 22, 23] rfl rfl rfl rfl (by decide) rfl rfl rfl rfl (Nat.le_of_ble_eq_true rfl) dL_law_401 ⟨by show _ ≤ 1064; omega, by show _ ≤ 8524; omega⟩ ?_
          refine z_lstore (lv' := [(7, .long _), (6, .int _), (5, .int _), (4, .ref _), (3, .ref _), (2, .ref _), (1, .ref _), (0, .ref _)]) g dL_law_404 (by decide) rfl ?_
          refine z_aload_n g dL_law_406 5 rfl ?_
          refine z_callVi (w' := [_, _, _, _, _, _, _, _, _, _, _, _, _, _, _, _, _, _, _, _, _, _, _, _, _, _, _, _, _, _, _, _]) (wr := [_, _, _, _, _, _, _, _, _, _, _, _, _, _, _, _, _, _, _, _, _, _, _, _, _, _, _, _, _, _, _]) g (k_X3_thrown l G k _ _ _ _ _ _ _ _ _ _ _ _ _ _ _ _ _ ) 0 gL_law_X3_thrown rfl rfl rfl nd_X3_thrown ⟨by decide, by decide⟩ 19 rfl rfl [19] [0, 1, 2, 3, 4, 5, 6, 7, 8, 9, 10, 11, 12, 13, 14, 15, 16, 17, 18, 20, 21, 22, 23, 24, 25, 26, 27, 28, 29, 30, 31] [0, 1, 2, 3, 4, 5, 6, 7, 8, 9, 10, 11, 12, 13, 14, 15, 16, 17, 18, 31, 19, 20, 21, 22, 23, 24, 25, 26, 27, 28, 29, 30] rfl rfl rfl rfl (by decide) rfl rfl rfl rfl (Nat.le_of_ble_eq_true rfl) dL_law_407 ⟨by show _ ≤ 1064; omega, by show _ ≤ 8524; omega⟩ ?_
          refine z_iload g dL_law_410 1 rfl ?_
          refine z_ic_eq g (tgt := 417) dL_law_412 (by decide) (fun _ => ?_) (fun h9 => absurd rfl h9)
          refine z_iload g dL_law_417 1 rfl ?_
          refine z_if_ne g (tgt := 433) dL_law_419 (by decide) (fun _ => ?_) (fun h9 => absurd h9 (by decide))
          refine z_goto g 677 dL_law_433 (by decide) ?_
          refine z_iinc (lv' := [(5, .int _), (7, .long _), (6, .int _), (4, .ref _), (3, .ref _), (2, .ref _), (1, .ref _), (0, .ref _)]) g (nI (4 * (i + 1))) dL_law_677 2 rfl (lw_i4 i) (by decide) rfl ?_
          refine z_goto g 28 dL_law_680 (by decide) ?_
          refine z_locs (lv' := [(5, .int _), (4, .ref _), (3, .ref _), (2, .ref _), (1, .ref _), (0, .ref _)]) g [0, 3, 4, 5, 6, 7] rfl ?_
          refine z_widen g (c1 := 32 + (i + 1)) (s1 := 284 + 6 * (i + 1)) (by omega) (by omega) ?_
          exact ih28 (i + 1) _ _ _ _ _ _ _ _ _ _ _ _ _ _ _ _ _ _ _ _ (by omega) (by omega) (hI)
        · refine z_aload_n g dL_law_357 4 rfl ?_
          refine z_aload_n g dL_law_358 5 rfl ?_
          refine z_iload g dL_law_359 0 rfl ?_
          refine z_ic1 g dL_law_361 ?_
          refine z_iadd g dL_law_362 ?_
          refine z_sld gl (4 * i + 1) (nI_add (4 * i) 1) (by omega) hlt31 dL_law_363 ?_
          refine z_aload_n g dL_law_364 5 rfl ?_
          refine z_iload g dL_law_365 0 rfl ?_
          refine z_ic2 g dL_law_367 ?_
          refine z_iadd g dL_law_368 ?_
          refine z_sld gl (4 * i + 2) (nI_add (4 * i) 2) (by omega) hlt31 dL_law_369 ?_
          refine z_aload_n g dL_law_370 5 rfl ?_
          refine z_iload g dL_law_371 0 rfl ?_
          refine z_ic3 g dL_law_373 ?_
          refine z_iadd g dL_law_374 ?_
          refine z_sld gl (4 * i + 3) (nI_add (4 * i) 3) (by omega) hlt31 dL_law_375 ?_
          refine z_aload_n g dL_law_376 2 rfl ?_
          refine z_callH (w' := [_, _, _, _, _, _, _, _, _, _, _, _, _, _, _, _, _, _, _, _, _, _, _, _, _, _, _, _, _, _, _, _]) (wr := [_, _, _, _, _, _, _, _, _, _, _, _, _, _, _, _, _, _, _, _, _, _, _, _, _]) gx (k_L_integral_ok l hlt G k _ _ _ _ _ _ _ _ _ _ _ _ _ _ _ _ _ _ _ _ _ _ hb) 5 gL_law_L_integral rfl rfl rfl nd_L_integral ⟨by decide, by decide⟩ [0, 7, 8, 9, 10, 11, 30] [1, 2, 3, 4, 5, 6, 12, 13, 14, 15, 16, 17, 18, 19, 20, 21, 22, 23, 24, 25, 26, 27, 28, 29, 31] [25, 0, 1, 2, 3, 4, 5, 26, 27, 28, 29, 30, 6, 7, 8, 9, 10, 11, 12, 13, 14, 15, 16, 17, 18, 19, 20, 21, 22, 23, 31, 24] rfl rfl rfl rfl (by decide) rfl rfl rfl rfl (Nat.le_of_ble_eq_true rfl) dL_law_377 ⟨by show _ ≤ 1064; omega, by show _ ≤ 8524; omega⟩ ?_
          refine z_istore (lv' := [(6, .int _), (5, .int _), (4, .ref _), (3, .ref _), (2, .ref _), (1, .ref _), (0, .ref _)]) g dL_law_380 (by decide) rfl ?_
          refine z_aload_n g dL_law_382 4 rfl ?_
          refine z_aload_n g dL_law_383 6 rfl ?_
          refine z_iload g dL_law_384 1 rfl ?_
          refine z_ic1 g dL_law_386 ?_
          refine z_iadd g dL_law_387 ?_
          refine z_sld gl (4 * i + 1) (nI_add (4 * i) 1) (by omega) hlt31 dL_law_388 ?_
          refine z_aload_n g dL_law_389 6 rfl ?_
          refine z_iload g dL_law_390 1 rfl ?_
          refine z_ic2 g dL_law_392 ?_
          refine z_iadd g dL_law_393 ?_
          refine z_sld gl (4 * i + 2) (nI_add (4 * i) 2) (by omega) hlt31 dL_law_394 ?_
          refine z_aload_n g dL_law_395 6 rfl ?_
          refine z_iload g dL_law_396 1 rfl ?_
          refine z_ic3 g dL_law_398 ?_
          refine z_iadd g dL_law_399 ?_
          refine z_sld gl (4 * i + 3) (nI_add (4 * i) 3) (by omega) hlt31 dL_law_400 ?_
          refine z_callVl (w' := [_, _, _, _, _, _, _, _, _, _, _, _, _, _, _, _, _, _, _, _, _, _, _, _, _, _, _, _, _, _, _, _]) (wr := [_, _, _, _, _, _, _, _, _, _, _, _, _, _, _, _, _, _, _, _, _, _, _, _]) g (k_X3_integral_ok l G k _ _ _ _ _ _ _ _ _ _ _ _ _ _ _ _ _ _ _ _ _ _ _ _ _ _ _ _ hI.2.2.2 hI.m5 (fact_wkG hI) (fact_int hI (xs (4 * i + 1)) (xs (4 * i + 2)) (xs (4 * i + 3))).1 ((fact_int hI _ _ _).2.1.trans hb) ((fact_int hI _ _ _).2.2 hb _ _)) 3 gL_law_X3_integral rfl rfl rfl nd_X3_integral ⟨by decide, by decide⟩ 19 rfl rfl [19, 21, 22, 23, 24, 26, 27, 28] [0, 1, 2, 3, 4, 5, 6, 7, 8, 9, 10, 11, 12, 13, 14, 15, 16, 17, 18, 20, 25, 29, 30, 31] [0, 1, 2, 3, 4, 5, 6, 7, 8, 9, 10, 11, 12, 13, 14, 15, 16, 17, 18, 24, 19, 25, 26, 27, 28, 20, 29, 30, 31, 21, 22, 23] rfl rfl rfl rfl (by decide) rfl rfl rfl rfl (Nat.le_of_ble_eq_true rfl) dL_law_401 ⟨by show _ ≤ 1064; omega, by show _ ≤ 8524; omega⟩ ?_
          refine z_lstore (lv' := [(7, .long _), (6, .int _), (5, .int _), (4, .ref _), (3, .ref _), (2, .ref _), (1, .ref _), (0, .ref _)]) g dL_law_404 (by decide) rfl ?_
          refine z_aload_n g dL_law_406 5 rfl ?_
          refine z_callVi (w' := [_, _, _, _, _, _, _, _, _, _, _, _, _, _, _, _, _, _, _, _, _, _, _, _, _, _, _, _, _, _, _, _]) (wr := [_, _, _, _, _, _, _, _, _, _, _, _, _, _, _, _, _, _, _, _, _, _, _, _, _, _, _, _, _, _, _]) g (k_X3_thrown l G k _ _ _ _ _ _ _ _ _ _ _ _ _ _ _ _ _ ) 0 gL_law_X3_thrown rfl rfl rfl nd_X3_thrown ⟨by decide, by decide⟩ 19 rfl rfl [19] [0, 1, 2, 3, 4, 5, 6, 7, 8, 9, 10, 11, 12, 13, 14, 15, 16, 17, 18, 20, 21, 22, 23, 24, 25, 26, 27, 28, 29, 30, 31] [0, 1, 2, 3, 4, 5, 6, 7, 8, 9, 10, 11, 12, 13, 14, 15, 16, 17, 18, 31, 19, 20, 21, 22, 23, 24, 25, 26, 27, 28, 29, 30] rfl rfl rfl rfl (by decide) rfl rfl rfl rfl (Nat.le_of_ble_eq_true rfl) dL_law_407 ⟨by show _ ≤ 1064; omega, by show _ ≤ 8524; omega⟩ ?_
          refine z_iload g dL_law_410 1 rfl ?_
          refine z_ic_eq g (tgt := 417) dL_law_412 (by decide) (fun _ => ?_) (fun h9 => absurd rfl h9)
          refine z_iload g dL_law_417 1 rfl ?_
          refine z_if_ne g (tgt := 433) dL_law_419 (by decide) (fun h9 => absurd h9 (by decide)) (fun _ => ?_)
          refine z_aload_n g dL_law_422 4 rfl ?_
          refine z_ic0 g dL_law_423 ?_
          refine z_lald g 30 rfl 0 rfl (by decide) (by decide) dL_law_424 ?_
          refine z_tl (upL0 _ _) ?_
          refine z_lload g dL_law_425 0 rfl ?_
          refine z_lc_eq g (tgt := 433) dL_law_427 dL_law_428 (by decide) (fun _ => ?_) (fun h9 => absurd rfl h9)
          refine z_goto g 677 dL_law_433 (by decide) ?_
          refine z_iinc (lv' := [(5, .int _), (7, .long _), (6, .int _), (4, .ref _), (3, .ref _), (2, .ref _), (1, .ref _), (0, .ref _)]) g (nI (4 * (i + 1))) dL_law_677 2 rfl (lw_i4 i) (by decide) rfl ?_
          refine z_goto g 28 dL_law_680 (by decide) ?_
          refine z_locs (lv' := [(5, .int _), (4, .ref _), (3, .ref _), (2, .ref _), (1, .ref _), (0, .ref _)]) g [0, 3, 4, 5, 6, 7] rfl ?_
          refine z_widen g (c1 := 32 + (i + 1)) (s1 := 284 + 6 * (i + 1)) (by omega) (by omega) ?_
          exact ih28 (i + 1) _ _ _ _ _ _ _ _ _ _ _ _ _ _ _ _ _ _ _ _ (by omega) (by omega) (hI)
      · refine z_ti (y := 7) b44 ?_
        refine z_tin g 436 dL_law_44 (by decide) (by decide) rfl (by decide) ?_
        rcases hb : vlOK m (xs (4 * i + 1)) (xs (4 * i + 2)) with _ | _
        · refine z_aload_n g dL_law_436 4 rfl ?_
          refine z_aload_n g dL_law_437 5 rfl ?_
          refine z_iload g dL_law_438 0 rfl ?_
          refine z_ic1 g dL_law_440 ?_
          refine z_iadd g dL_law_441 ?_
          refine z_sld gl (4 * i + 1) (nI_add (4 * i) 1) (by omega) hlt31 dL_law_442 ?_
          refine z_aload_n g dL_law_443 5 rfl ?_
          refine z_iload g dL_law_444 0 rfl ?_
          refine z_ic2 g dL_law_446 ?_
          refine z_iadd g dL_law_447 ?_
          refine z_sld gl (4 * i + 2) (nI_add (4 * i) 2) (by omega) hlt31 dL_law_448 ?_
          refine z_aload_n g dL_law_449 2 rfl ?_
          refine z_callH (w' := [_, _, _, _, _, _, _, _, _, _, _, _, _, _, _, _, _, _, _, _, _, _, _, _, _, _, _, _, _, _, _, _]) (wr := [_, _, _, _, _, _, _, _, _, _, _, _, _, _, _, _, _, _, _, _, _, _, _, _, _]) gx (k_L_value_IAE l hlt G k _ _ _ _ _ _ _ _ _ _ _ _ _ _ _ _ _ _ _ _ _ hb) 4 gL_law_L_value rfl rfl rfl nd_L_value ⟨by decide, by decide⟩ [0, 3, 4, 5, 6, 9, 30] [1, 2, 7, 8, 10, 11, 12, 13, 14, 15, 16, 17, 18, 19, 20, 21, 22, 23, 24, 25, 26, 27, 28, 29, 31] [25, 0, 1, 26, 27, 28, 29, 2, 3, 30, 4, 5, 6, 7, 8, 9, 10, 11, 12, 13, 14, 15, 16, 17, 18, 19, 20, 21, 22, 23, 31, 24] rfl rfl rfl rfl (by decide) rfl rfl rfl rfl (Nat.le_of_ble_eq_true rfl) dL_law_450 ⟨by show _ ≤ 1064; omega, by show _ ≤ 8524; omega⟩ ?_
          refine z_istore (lv' := [(6, .int _), (5, .int _), (4, .ref _), (3, .ref _), (2, .ref _), (1, .ref _), (0, .ref _)]) g dL_law_453 (by decide) rfl ?_
          refine z_aload_n g dL_law_455 4 rfl ?_
          refine z_aload_n g dL_law_456 6 rfl ?_
          refine z_iload g dL_law_457 1 rfl ?_
          refine z_ic1 g dL_law_459 ?_
          refine z_iadd g dL_law_460 ?_
          refine z_sld gl (4 * i + 1) (nI_add (4 * i) 1) (by omega) hlt31 dL_law_461 ?_
          refine z_aload_n g dL_law_462 6 rfl ?_
          refine z_iload g dL_law_463 1 rfl ?_
          refine z_ic2 g dL_law_465 ?_
          refine z_iadd g dL_law_466 ?_
          refine z_sld gl (4 * i + 2) (nI_add (4 * i) 2) (by omega) hlt31 dL_law_467 ?_
          refine z_callVl (w' := [_, _, _, _, _, _, _, _, _, _, _, _, _, _, _, _, _, _, _, _, _, _, _, _, _, _, _, _, _, _, _, _]) (wr := [_, _, _, _, _, _, _, _, _, _, _, _, _, _, _, _, _, _, _, _, _, _, _, _, _, _, _, _]) g (k_X3_value_no l G k _ _ _ _ _ _ _ _ _ _ _ _ _ _ _ _ _ _ _ _ _ _ _ (fun h9 => ((fact_val hI _ _).2 ((fact_val hI _ _).1.symm.trans h9)).1) ((fact_val hI _ _).1.trans hb) rfl) 2 gL_law_X3_value rfl rfl rfl nd_X3_value ⟨by decide, by decide⟩ 19 rfl rfl [19, 21, 22, 24] [0, 1, 2, 3, 4, 5, 6, 7, 8, 9, 10, 11, 12, 13, 14, 15, 16, 17, 18, 20, 23, 25, 26, 27, 28, 29, 30, 31] [0, 1, 2, 3, 4, 5, 6, 7, 8, 9, 10, 11, 12, 13, 14, 15, 16, 17, 18, 28, 19, 29, 30, 20, 31, 21, 22, 23, 24, 25, 26, 27] rfl rfl rfl rfl (by decide) rfl rfl rfl rfl (Nat.le_of_ble_eq_true rfl) dL_law_468 ⟨by show _ ≤ 1064; omega, by show _ ≤ 8524; omega⟩ ?_
          refine z_lstore (lv' := [(7, .long _), (6, .int _), (5, .int _), (4, .ref _), (3, .ref _), (2, .ref _), (1, .ref _), (0, .ref _)]) g dL_law_471 (by decide) rfl ?_
          refine z_aload_n g dL_law_473 5 rfl ?_
          refine z_callVi (w' := [_, _, _, _, _, _, _, _, _, _, _, _, _, _, _, _, _, _, _, _, _, _, _, _, _, _, _, _, _, _, _, _]) (wr := [_, _, _, _, _, _, _, _, _, _, _, _, _, _, _, _, _, _, _, _, _, _, _, _, _, _, _, _, _, _, _]) g (k_X3_thrown l G k _ _ _ _ _ _ _ _ _ _ _ _ _ _ _ _ _ ) 0 gL_law_X3_thrown rfl rfl rfl nd_X3_thrown ⟨by decide, by decide⟩ 19 rfl rfl [19] [0, 1, 2, 3, 4, 5, 6, 7, 8, 9, 10, 11, 12, 13, 14, 15, 16, 17, 18, 20, 21, 22, 23, 24, 25, 26, 27, 28, 29, 30, 31] [0, 1, 2, 3, 4, 5, 6, 7, 8, 9, 10, 11, 12, 13, 14, 15, 16, 17, 18, 31, 19, 20, 21, 22, 23, 24, 25, 26, 27, 28, 29, 30] rfl rfl rfl rfl (by decide) rfl rfl rfl rfl (Nat.le_of_ble_eq_true rfl) dL_law_474 ⟨by show _ ≤ 1064; omega, by show _ ≤ 8524; omega⟩ ?_
          refine z_iload g dL_law_477 1 rfl ?_
          refine z_ic_eq g (tgt := 484) dL_law_479 (by decide) (fun _ => ?_) (fun h9 => absurd rfl h9)
          refine z_iload g dL_law_484 1 rfl ?_
          refine z_if_ne g (tgt := 500) dL_law_486 (by decide) (fun _ => ?_) (fun h9 => absurd h9 (by decide))
          refine z_goto g 677 dL_law_500 (by decide) ?_
          refine z_iinc (lv' := [(5, .int _), (7, .long _), (6, .int _), (4, .ref _), (3, .ref _), (2, .ref _), (1, .ref _), (0, .ref _)]) g (nI (4 * (i + 1))) dL_law_677 2 rfl (lw_i4 i) (by decide) rfl ?_
          refine z_goto g 28 dL_law_680 (by decide) ?_
          refine z_locs (lv' := [(5, .int _), (4, .ref _), (3, .ref _), (2, .ref _), (1, .ref _), (0, .ref _)]) g [0, 3, 4, 5, 6, 7] rfl ?_
          refine z_widen g (c1 := 32 + (i + 1)) (s1 := 284 + 6 * (i + 1)) (by omega) (by omega) ?_
          exact ih28 (i + 1) _ _ _ _ _ _ _ _ _ _ _ _ _ _ _ _ _ _ _ _ (by omega) (by omega) (hI)
        · refine z_aload_n g dL_law_436 4 rfl ?_
          refine z_aload_n g dL_law_437 5 rfl ?_
          refine z_iload g dL_law_438 0 rfl ?_
          refine z_ic1 g dL_law_440 ?_
          refine z_iadd g dL_law_441 ?_
          refine z_sld gl (4 * i + 1) (nI_add (4 * i) 1) (by omega) hlt31 dL_law_442 ?_
          refine z_aload_n g dL_law_443 5 rfl ?_
          refine z_iload g dL_law_444 0 rfl ?_
          refine z_ic2 g dL_law_446 ?_
          refine z_iadd g dL_law_447 ?_
          refine z_sld gl (4 * i + 2) (nI_add (4 * i) 2) (by omega) hlt31 dL_law_448 ?_
          refine z_aload_n g dL_law_449 2 rfl ?_
          refine z_callH (w' := [_, _, _, _, _, _, _, _, _, _, _, _, _, _, _, _, _, _, _, _, _, _, _, _, _, _, _, _, _, _, _, _]) (wr := [_, _, _, _, _, _, _, _, _, _, _, _, _, _, _, _, _, _, _, _, _, _, _, _, _]) gx (k_L_value_ok l hlt G k _ _ _ _ _ _ _ _ _ _ _ _ _ _ _ _ _ _ _ _ _ hb) 4 gL_law_L_value rfl rfl rfl nd_L_value ⟨by decide, by decide⟩ [0, 3, 4, 5, 6, 9, 30] [1, 2, 7, 8, 10, 11, 12, 13, 14, 15, 16, 17, 18, 19, 20, 21, 22, 23, 24, 25, 26, 27, 28, 29, 31] [25, 0, 1, 26, 27, 28, 29, 2, 3, 30, 4, 5, 6, 7, 8, 9, 10, 11, 12, 13, 14, 15, 16, 17, 18, 19, 20, 21, 22, 23, 31, 24] rfl rfl rfl rfl (by decide) rfl rfl rfl rfl (Nat.le_of_ble_eq_true rfl) dL_law_450 ⟨by show _ ≤ 1064; omega, by show _ ≤ 8524; omega⟩ ?_
          refine z_istore (lv' := [(6, .int _), (5, .int _), (4, .ref _), (3, .ref _), (2, .ref _), (1, .ref _), (0, .ref _)]) g dL_law_453 (by decide) rfl ?_
          refine z_aload_n g dL_law_455 4 rfl ?_
          refine z_aload_n g dL_law_456 6 rfl ?_
          refine z_iload g dL_law_457 1 rfl ?_
          refine z_ic1 g dL_law_459 ?_
          refine z_iadd g dL_law_460 ?_
          refine z_sld gl (4 * i + 1) (nI_add (4 * i) 1) (by omega) hlt31 dL_law_461 ?_
          refine z_aload_n g dL_law_462 6 rfl ?_
          refine z_iload g dL_law_463 1 rfl ?_
          refine z_ic2 g dL_law_465 ?_
          refine z_iadd g dL_law_466 ?_
          refine z_sld gl (4 * i + 2) (nI_add (4 * i) 2) (by omega) hlt31 dL_law_467 ?_
          refine z_callVl (w' := [_, _, _, _, _, _, _, _, _, _, _, _, _, _, _, _, _, _, _, _, _, _, _, _, _, _, _, _, _, _, _, _]) (wr := [_, _, _, _, _, _, _, _, _, _, _, _, _, _, _, _, _, _, _, _, _, _, _, _, _, _, _, _]) g (k_X3_value_ok l G k _ _ _ _ _ _ _ _ _ _ _ _ _ _ _ _ _ _ _ _ _ _ _ (fun h9 => ((fact_val hI _ _).2 ((fact_val hI _ _).1.symm.trans h9)).1) ((fact_val hI _ _).1.trans hb) ((if_pos ((fact_val hI _ _).1.trans hb)).trans ((fact_val hI _ _).2 hb).2)) 2 gL_law_X3_value rfl rfl rfl nd_X3_value ⟨by decide, by decide⟩ 19 rfl rfl [19, 21, 22, 24] [0, 1, 2, 3, 4, 5, 6, 7, 8, 9, 10, 11, 12, 13, 14, 15, 16, 17, 18, 20, 23, 25, 26, 27, 28, 29, 30, 31] [0, 1, 2, 3, 4, 5, 6, 7, 8, 9, 10, 11, 12, 13, 14, 15, 16, 17, 18, 28, 19, 29, 30, 20, 31, 21, 22, 23, 24, 25, 26, 27] rfl rfl rfl rfl (by decide) rfl rfl rfl rfl (Nat.le_of_ble_eq_true rfl) dL_law_468 ⟨by show _ ≤ 1064; omega, by show _ ≤ 8524; omega⟩ ?_
          refine z_lstore (lv' := [(7, .long _), (6, .int _), (5, .int _), (4, .ref _), (3, .ref _), (2, .ref _), (1, .ref _), (0, .ref _)]) g dL_law_471 (by decide) rfl ?_
          refine z_aload_n g dL_law_473 5 rfl ?_
          refine z_callVi (w' := [_, _, _, _, _, _, _, _, _, _, _, _, _, _, _, _, _, _, _, _, _, _, _, _, _, _, _, _, _, _, _, _]) (wr := [_, _, _, _, _, _, _, _, _, _, _, _, _, _, _, _, _, _, _, _, _, _, _, _, _, _, _, _, _, _, _]) g (k_X3_thrown l G k _ _ _ _ _ _ _ _ _ _ _ _ _ _ _ _ _ ) 0 gL_law_X3_thrown rfl rfl rfl nd_X3_thrown ⟨by decide, by decide⟩ 19 rfl rfl [19] [0, 1, 2, 3, 4, 5, 6, 7, 8, 9, 10, 11, 12, 13, 14, 15, 16, 17, 18, 20, 21, 22, 23, 24, 25, 26, 27, 28, 29, 30, 31] [0, 1, 2, 3, 4, 5, 6, 7, 8, 9, 10, 11, 12, 13, 14, 15, 16, 17, 18, 31, 19, 20, 21, 22, 23, 24, 25, 26, 27, 28, 29, 30] rfl rfl rfl rfl (by decide) rfl rfl rfl rfl (Nat.le_of_ble_eq_true rfl) dL_law_474 ⟨by show _ ≤ 1064; omega, by show _ ≤ 8524; omega⟩ ?_
          refine z_iload g dL_law_477 1 rfl ?_
          refine z_ic_eq g (tgt := 484) dL_law_479 (by decide) (fun _ => ?_) (fun h9 => absurd rfl h9)
          refine z_iload g dL_law_484 1 rfl ?_
          refine z_if_ne g (tgt := 500) dL_law_486 (by decide) (fun h9 => absurd h9 (by decide)) (fun _ => ?_)
          refine z_aload_n g dL_law_489 4 rfl ?_
          refine z_ic0 g dL_law_490 ?_
          refine z_lald g 30 rfl 0 rfl (by decide) (by decide) dL_law_491 ?_
          refine z_tl (upL0 _ _) ?_
          refine z_lload g dL_law_492 0 rfl ?_
          refine z_lc_eq g (tgt := 500) dL_law_494 dL_law_495 (by decide) (fun _ => ?_) (fun h9 => absurd rfl h9)
          refine z_goto g 677 dL_law_500 (by decide) ?_
          refine z_iinc (lv' := [(5, .int _), (7, .long _), (6, .int _), (4, .ref _), (3, .ref _), (2, .ref _), (1, .ref _), (0, .ref _)]) g (nI (4 * (i + 1))) dL_law_677 2 rfl (lw_i4 i) (by decide) rfl ?_
          refine z_goto g 28 dL_law_680 (by decide) ?_
          refine z_locs (lv' := [(5, .int _), (4, .ref _), (3, .ref _), (2, .ref _), (1, .ref _), (0, .ref _)]) g [0, 3, 4, 5, 6, 7] rfl ?_
          refine z_widen g (c1 := 32 + (i + 1)) (s1 := 284 + 6 * (i + 1)) (by omega) (by omega) ?_
          exact ih28 (i + 1) _ _ _ _ _ _ _ _ _ _ _ _ _ _ _ _ _ _ _ _ (by omega) (by omega) (hI)
      · refine z_ti (y := 8) b44 ?_
        refine z_tin g 503 dL_law_44 (by decide) (by decide) rfl (by decide) ?_
        rcases hb : nearP (xOf (xs (4 * i + 1))) with _ | _
        · refine z_aload_n g dL_law_503 4 rfl ?_
          refine z_aload_n g dL_law_504 5 rfl ?_
          refine z_iload g dL_law_505 0 rfl ?_
          refine z_ic1 g dL_law_507 ?_
          refine z_iadd g dL_law_508 ?_
          refine z_sld gl (4 * i + 1) (nI_add (4 * i) 1) (by omega) hlt31 dL_law_509 ?_
          refine z_i2d g dL_law_510 ?_
          refine z_ldc2d g (v := (4593671619917905920)) dL_law_511 (mi 8 rfl) ?_
          refine z_dmul g dL_law_514 (fact_x _) ?_
          refine z_aload g dL_law_515 1 rfl ?_
          refine z_callH (w' := [_, _, _, _, _, _, _, _, _, _, _, _, _, _, _, _, _, _, _, _, _, _, _, _, _, _, _, _, _, _, _, _]) (wr := [_, _, _, _, _, _, _, _, _, _, _, _, _, _, _, _, _, _, _, _, _, _, _, _, _, _]) gx (k_L_at_IAE l hlt G k _ _ _ _ _ _ _ _ _ _ _ _ _ _ _ _ _ _ _ (fact_at hI _).1 hb) 3 gL_law_L_at rfl rfl rfl nd_L_at ⟨by decide, by decide⟩ [0, 3, 4, 5, 6, 31] [1, 2, 7, 8, 9, 10, 11, 12, 13, 14, 15, 16, 17, 18, 19, 20, 21, 22, 23, 24, 25, 26, 27, 28, 29, 30] [26, 0, 1, 27, 28, 29, 30, 2, 3, 4, 5, 6, 7, 8, 9, 10, 11, 12, 13, 14, 15, 16, 17, 18, 19, 20, 21, 22, 23, 24, 25, 31] rfl rfl rfl rfl (by decide) rfl rfl rfl rfl (Nat.le_of_ble_eq_true rfl) dL_law_517 ⟨by show _ ≤ 1064; omega, by show _ ≤ 8524; omega⟩ ?_
          refine z_istore (lv' := [(6, .int _), (5, .int _), (4, .ref _), (3, .ref _), (2, .ref _), (1, .ref _), (0, .ref _)]) g dL_law_520 (by decide) rfl ?_
          refine z_aload_n g dL_law_522 4 rfl ?_
          refine z_aload_n g dL_law_523 6 rfl ?_
          refine z_iload g dL_law_524 1 rfl ?_
          refine z_ic1 g dL_law_526 ?_
          refine z_iadd g dL_law_527 ?_
          refine z_sld gl (4 * i + 1) (nI_add (4 * i) 1) (by omega) hlt31 dL_law_528 ?_
          refine z_i2d g dL_law_529 ?_
          refine z_ldc2d g (v := (4593671619917905920)) dL_law_530 (mi 8 rfl) ?_
          refine z_dmul g dL_law_533 (fact_x _) ?_
          refine z_callVd (w' := [_, _, _, _, _, _, _, _, _, _, _, _, _, _, _, _, _, _, _, _, _, _, _, _, _, _, _, _, _, _, _, _]) (wr := [_, _, _, _, _, _, _, _, _, _, _, _, _, _, _, _, _, _, _, _, _, _, _, _, _, _, _, _, _]) g (k_X3_at_no l G k _ _ _ _ _ _ _ _ _ _ _ _ _ _ _ _ _ _ _ _ _ (fact_at hI _).2.1 hb rfl) 1 gL_law_X3_at rfl rfl rfl nd_X3_at ⟨by decide, by decide⟩ 19 rfl rfl [19, 21, 22] [0, 1, 2, 3, 4, 5, 6, 7, 8, 9, 10, 11, 12, 13, 14, 15, 16, 17, 18, 20, 23, 24, 25, 26, 27, 28, 29, 30, 31] [0, 1, 2, 3, 4, 5, 6, 7, 8, 9, 10, 11, 12, 13, 14, 15, 16, 17, 18, 29, 19, 30, 31, 20, 21, 22, 23, 24, 25, 26, 27, 28] rfl rfl rfl rfl (by decide) rfl rfl rfl rfl (Nat.le_of_ble_eq_true rfl) dL_law_534 ⟨by show _ ≤ 1064; omega, by show _ ≤ 8524; omega⟩ ?_
          refine z_dstore (lv' := [(7, .double _), (6, .int _), (5, .int _), (4, .ref _), (3, .ref _), (2, .ref _), (1, .ref _), (0, .ref _)]) g dL_law_537 (by decide) rfl ?_
          refine z_aload_n g dL_law_539 5 rfl ?_
          refine z_callVi (w' := [_, _, _, _, _, _, _, _, _, _, _, _, _, _, _, _, _, _, _, _, _, _, _, _, _, _, _, _, _, _, _, _]) (wr := [_, _, _, _, _, _, _, _, _, _, _, _, _, _, _, _, _, _, _, _, _, _, _, _, _, _, _, _, _, _, _]) g (k_X3_thrown l G k _ _ _ _ _ _ _ _ _ _ _ _ _ _ _ _ _ ) 0 gL_law_X3_thrown rfl rfl rfl nd_X3_thrown ⟨by decide, by decide⟩ 19 rfl rfl [19] [0, 1, 2, 3, 4, 5, 6, 7, 8, 9, 10, 11, 12, 13, 14, 15, 16, 17, 18, 20, 21, 22, 23, 24, 25, 26, 27, 28, 29, 30, 31] [0, 1, 2, 3, 4, 5, 6, 7, 8, 9, 10, 11, 12, 13, 14, 15, 16, 17, 18, 31, 19, 20, 21, 22, 23, 24, 25, 26, 27, 28, 29, 30] rfl rfl rfl rfl (by decide) rfl rfl rfl rfl (Nat.le_of_ble_eq_true rfl) dL_law_540 ⟨by show _ ≤ 1064; omega, by show _ ≤ 8524; omega⟩ ?_
          refine z_iload g dL_law_543 1 rfl ?_
          refine z_ic_eq g (tgt := 550) dL_law_545 (by decide) (fun _ => ?_) (fun h9 => absurd rfl h9)
          refine z_iload g dL_law_550 1 rfl ?_
          refine z_if_ne g (tgt := 587) dL_law_552 (by decide) (fun _ => ?_) (fun h9 => absurd h9 (by decide))
          refine z_goto g 677 dL_law_587 (by decide) ?_
          refine z_iinc (lv' := [(5, .int _), (7, .double _), (6, .int _), (4, .ref _), (3, .ref _), (2, .ref _), (1, .ref _), (0, .ref _)]) g (nI (4 * (i + 1))) dL_law_677 2 rfl (lw_i4 i) (by decide) rfl ?_
          refine z_goto g 28 dL_law_680 (by decide) ?_
          refine z_locs (lv' := [(5, .int _), (4, .ref _), (3, .ref _), (2, .ref _), (1, .ref _), (0, .ref _)]) g [0, 3, 4, 5, 6, 7] rfl ?_
          refine z_widen g (c1 := 32 + (i + 1)) (s1 := 284 + 6 * (i + 1)) (by omega) (by omega) ?_
          exact ih28 (i + 1) _ _ _ _ _ _ _ _ _ _ _ _ _ _ _ _ _ _ _ _ (by omega) (by omega) (hI)
        · refine z_aload_n g dL_law_503 4 rfl ?_
          refine z_aload_n g dL_law_504 5 rfl ?_
          refine z_iload g dL_law_505 0 rfl ?_
          refine z_ic1 g dL_law_507 ?_
          refine z_iadd g dL_law_508 ?_
          refine z_sld gl (4 * i + 1) (nI_add (4 * i) 1) (by omega) hlt31 dL_law_509 ?_
          refine z_i2d g dL_law_510 ?_
          refine z_ldc2d g (v := (4593671619917905920)) dL_law_511 (mi 8 rfl) ?_
          refine z_dmul g dL_law_514 (fact_x _) ?_
          refine z_aload g dL_law_515 1 rfl ?_
          refine z_callH (w' := [_, _, _, _, _, _, _, _, _, _, _, _, _, _, _, _, _, _, _, _, _, _, _, _, _, _, _, _, _, _, _, _]) (wr := [_, _, _, _, _, _, _, _, _, _, _, _, _, _, _, _, _, _, _, _, _, _, _, _, _, _]) gx (k_L_at_ok l hlt G k _ _ _ _ _ _ _ _ _ _ _ _ _ _ _ _ _ _ _ (fact_at hI _).1 hb) 3 gL_law_L_at rfl rfl rfl nd_L_at ⟨by decide, by decide⟩ [0, 3, 4, 5, 6, 31] [1, 2, 7, 8, 9, 10, 11, 12, 13, 14, 15, 16, 17, 18, 19, 20, 21, 22, 23, 24, 25, 26, 27, 28, 29, 30] [26, 0, 1, 27, 28, 29, 30, 2, 3, 4, 5, 6, 7, 8, 9, 10, 11, 12, 13, 14, 15, 16, 17, 18, 19, 20, 21, 22, 23, 24, 25, 31] rfl rfl rfl rfl (by decide) rfl rfl rfl rfl (Nat.le_of_ble_eq_true rfl) dL_law_517 ⟨by show _ ≤ 1064; omega, by show _ ≤ 8524; omega⟩ ?_
          refine z_istore (lv' := [(6, .int _), (5, .int _), (4, .ref _), (3, .ref _), (2, .ref _), (1, .ref _), (0, .ref _)]) g dL_law_520 (by decide) rfl ?_
          refine z_aload_n g dL_law_522 4 rfl ?_
          refine z_aload_n g dL_law_523 6 rfl ?_
          refine z_iload g dL_law_524 1 rfl ?_
          refine z_ic1 g dL_law_526 ?_
          refine z_iadd g dL_law_527 ?_
          refine z_sld gl (4 * i + 1) (nI_add (4 * i) 1) (by omega) hlt31 dL_law_528 ?_
          refine z_i2d g dL_law_529 ?_
          refine z_ldc2d g (v := (4593671619917905920)) dL_law_530 (mi 8 rfl) ?_
          refine z_dmul g dL_law_533 (fact_x _) ?_
          refine z_callVd (w' := [_, _, _, _, _, _, _, _, _, _, _, _, _, _, _, _, _, _, _, _, _, _, _, _, _, _, _, _, _, _, _, _]) (wr := [_, _, _, _, _, _, _, _, _, _, _, _, _, _, _, _, _, _, _, _, _, _, _, _, _, _, _, _, _]) g (k_X3_at_ok l G k _ _ _ _ _ _ _ _ _ _ _ _ _ _ _ _ _ _ _ _ _ (fact_at hI _).2.1 hb ((fact_at hI _).2.2 hb).1) 1 gL_law_X3_at rfl rfl rfl nd_X3_at ⟨by decide, by decide⟩ 19 rfl rfl [19, 21, 22] [0, 1, 2, 3, 4, 5, 6, 7, 8, 9, 10, 11, 12, 13, 14, 15, 16, 17, 18, 20, 23, 24, 25, 26, 27, 28, 29, 30, 31] [0, 1, 2, 3, 4, 5, 6, 7, 8, 9, 10, 11, 12, 13, 14, 15, 16, 17, 18, 29, 19, 30, 31, 20, 21, 22, 23, 24, 25, 26, 27, 28] rfl rfl rfl rfl (by decide) rfl rfl rfl rfl (Nat.le_of_ble_eq_true rfl) dL_law_534 ⟨by show _ ≤ 1064; omega, by show _ ≤ 8524; omega⟩ ?_
          refine z_dstore (lv' := [(7, .double _), (6, .int _), (5, .int _), (4, .ref _), (3, .ref _), (2, .ref _), (1, .ref _), (0, .ref _)]) g dL_law_537 (by decide) rfl ?_
          refine z_aload_n g dL_law_539 5 rfl ?_
          refine z_callVi (w' := [_, _, _, _, _, _, _, _, _, _, _, _, _, _, _, _, _, _, _, _, _, _, _, _, _, _, _, _, _, _, _, _]) (wr := [_, _, _, _, _, _, _, _, _, _, _, _, _, _, _, _, _, _, _, _, _, _, _, _, _, _, _, _, _, _, _]) g (k_X3_thrown l G k _ _ _ _ _ _ _ _ _ _ _ _ _ _ _ _ _ ) 0 gL_law_X3_thrown rfl rfl rfl nd_X3_thrown ⟨by decide, by decide⟩ 19 rfl rfl [19] [0, 1, 2, 3, 4, 5, 6, 7, 8, 9, 10, 11, 12, 13, 14, 15, 16, 17, 18, 20, 21, 22, 23, 24, 25, 26, 27, 28, 29, 30, 31] [0, 1, 2, 3, 4, 5, 6, 7, 8, 9, 10, 11, 12, 13, 14, 15, 16, 17, 18, 31, 19, 20, 21, 22, 23, 24, 25, 26, 27, 28, 29, 30] rfl rfl rfl rfl (by decide) rfl rfl rfl rfl (Nat.le_of_ble_eq_true rfl) dL_law_540 ⟨by show _ ≤ 1064; omega, by show _ ≤ 8524; omega⟩ ?_
          refine z_iload g dL_law_543 1 rfl ?_
          refine z_ic_eq g (tgt := 550) dL_law_545 (by decide) (fun _ => ?_) (fun h9 => absurd rfl h9)
          refine z_iload g dL_law_550 1 rfl ?_
          refine z_if_ne g (tgt := 587) dL_law_552 (by decide) (fun h9 => absurd h9 (by decide)) (fun _ => ?_)
          refine z_aload g dL_law_555 3 rfl ?_
          refine z_ic0 g dL_law_557 ?_
          refine z_dald g 31 rfl 0 rfl (by decide) (by decide) dL_law_558 ?_
          refine z_td (upD0 _ _) ?_
          refine z_dload g dL_law_559 0 rfl ?_
          refine z_dcmp g dL_law_561 ?_
          refine z_ti (y := 0) (dc_self ((fact_at hI _).2.2 hb).2) ?_
          refine z_if_eq g (tgt := 587) dL_law_562 (by decide) (fun _ => ?_) (fun h9 => absurd (by decide) h9)
          refine z_goto g 677 dL_law_587 (by decide) ?_
          refine z_iinc (lv' := [(5, .int _), (7, .double _), (6, .int _), (4, .ref _), (3, .ref _), (2, .ref _), (1, .ref _), (0, .ref _)]) g (nI (4 * (i + 1))) dL_law_677 2 rfl (lw_i4 i) (by decide) rfl ?_
          refine z_goto g 28 dL_law_680 (by decide) ?_
          refine z_locs (lv' := [(5, .int _), (4, .ref _), (3, .ref _), (2, .ref _), (1, .ref _), (0, .ref _)]) g [0, 3, 4, 5, 6, 7] rfl ?_
          refine z_widen g (c1 := 32 + (i + 1)) (s1 := 284 + 6 * (i + 1)) (by omega) (by omega) ?_
          exact ih28 (i + 1) _ _ _ _ _ _ _ _ _ _ _ _ _ _ _ _ _ _ _ _ (by omega) (by omega) (hI)
      · refine z_ti (y := 9) b44 ?_
        refine z_tin g 590 dL_law_44 (by decide) (by decide) rfl (by decide) ?_
        rcases hb : nearP (xOf (xs (4 * i + 1))) with _ | _
        · refine z_aload_n g dL_law_590 4 rfl ?_
          refine z_aload_n g dL_law_591 5 rfl ?_
          refine z_iload g dL_law_592 0 rfl ?_
          refine z_ic1 g dL_law_594 ?_
          refine z_iadd g dL_law_595 ?_
          refine z_sld gl (4 * i + 1) (nI_add (4 * i) 1) (by omega) hlt31 dL_law_596 ?_
          refine z_i2d g dL_law_597 ?_
          refine z_ldc2d g (v := (4593671619917905920)) dL_law_598 (mi 8 rfl) ?_
          refine z_dmul g dL_law_601 (fact_x _) ?_
          refine z_aload g dL_law_602 1 rfl ?_
          refine z_callH (w' := [_, _, _, _, _, _, _, _, _, _, _, _, _, _, _, _, _, _, _, _, _, _, _, _, _, _, _, _, _, _, _, _]) (wr := [_, _, _, _, _, _, _, _, _, _, _, _, _, _, _, _, _, _, _, _, _, _, _, _, _]) gx (k_L_byParts_IAE l hlt G k _ _ _ _ _ _ _ _ _ _ _ _ _ _ _ _ _ _ _ _ hI.m5 (fact_by hI _).1 hb) 3 gL_law_L_byParts rfl rfl rfl nd_L_byParts ⟨by decide, by decide⟩ [0, 7, 8, 9, 10, 11, 31] [1, 2, 3, 4, 5, 6, 12, 13, 14, 15, 16, 17, 18, 19, 20, 21, 22, 23, 24, 25, 26, 27, 28, 29, 30] [25, 0, 1, 2, 3, 4, 5, 26, 27, 28, 29, 30, 6, 7, 8, 9, 10, 11, 12, 13, 14, 15, 16, 17, 18, 19, 20, 21, 22, 23, 24, 31] rfl rfl rfl rfl (by decide) rfl rfl rfl rfl (Nat.le_of_ble_eq_true rfl) dL_law_604 ⟨by show _ ≤ 1064; omega, by show _ ≤ 8524; omega⟩ ?_
          refine z_istore (lv' := [(6, .int _), (5, .int _), (4, .ref _), (3, .ref _), (2, .ref _), (1, .ref _), (0, .ref _)]) g dL_law_607 (by decide) rfl ?_
          refine z_aload_n g dL_law_609 4 rfl ?_
          refine z_aload_n g dL_law_610 6 rfl ?_
          refine z_iload g dL_law_611 1 rfl ?_
          refine z_ic1 g dL_law_613 ?_
          refine z_iadd g dL_law_614 ?_
          refine z_sld gl (4 * i + 1) (nI_add (4 * i) 1) (by omega) hlt31 dL_law_615 ?_
          refine z_i2d g dL_law_616 ?_
          refine z_ldc2d g (v := (4593671619917905920)) dL_law_617 (mi 8 rfl) ?_
          refine z_dmul g dL_law_620 (fact_x _) ?_
          refine z_callVd (w' := [_, _, _, _, _, _, _, _, _, _, _, _, _, _, _, _, _, _, _, _, _, _, _, _, _, _, _, _, _, _, _, _]) (wr := [_, _, _, _, _, _, _, _, _, _, _, _, _, _, _, _, _, _, _, _, _, _, _, _]) g (k_X3_byParts_no l G k _ _ _ _ _ _ _ _ _ _ _ _ _ _ _ _ _ _ _ _ _ _ _ _ _ _ hI.2.2.2 hI.m5 (fact_wkG hI) (fact_by hI _).2.1 hb rfl) 1 gL_law_X3_byParts rfl rfl rfl nd_X3_byParts ⟨by decide, by decide⟩ 19 rfl rfl [19, 21, 22, 23, 24, 26, 27, 28] [0, 1, 2, 3, 4, 5, 6, 7, 8, 9, 10, 11, 12, 13, 14, 15, 16, 17, 18, 20, 25, 29, 30, 31] [0, 1, 2, 3, 4, 5, 6, 7, 8, 9, 10, 11, 12, 13, 14, 15, 16, 17, 18, 24, 19, 25, 26, 27, 28, 20, 29, 30, 31, 21, 22, 23] rfl rfl rfl rfl (by decide) rfl rfl rfl rfl (Nat.le_of_ble_eq_true rfl) dL_law_621 ⟨by show _ ≤ 1064; omega, by show _ ≤ 8524; omega⟩ ?_
          refine z_dstore (lv' := [(7, .double _), (6, .int _), (5, .int _), (4, .ref _), (3, .ref _), (2, .ref _), (1, .ref _), (0, .ref _)]) g dL_law_624 (by decide) rfl ?_
          refine z_aload_n g dL_law_626 5 rfl ?_
          refine z_callVi (w' := [_, _, _, _, _, _, _, _, _, _, _, _, _, _, _, _, _, _, _, _, _, _, _, _, _, _, _, _, _, _, _, _]) (wr := [_, _, _, _, _, _, _, _, _, _, _, _, _, _, _, _, _, _, _, _, _, _, _, _, _, _, _, _, _, _, _]) g (k_X3_thrown l G k _ _ _ _ _ _ _ _ _ _ _ _ _ _ _ _ _ ) 0 gL_law_X3_thrown rfl rfl rfl nd_X3_thrown ⟨by decide, by decide⟩ 19 rfl rfl [19] [0, 1, 2, 3, 4, 5, 6, 7, 8, 9, 10, 11, 12, 13, 14, 15, 16, 17, 18, 20, 21, 22, 23, 24, 25, 26, 27, 28, 29, 30, 31] [0, 1, 2, 3, 4, 5, 6, 7, 8, 9, 10, 11, 12, 13, 14, 15, 16, 17, 18, 31, 19, 20, 21, 22, 23, 24, 25, 26, 27, 28, 29, 30] rfl rfl rfl rfl (by decide) rfl rfl rfl rfl (Nat.le_of_ble_eq_true rfl) dL_law_627 ⟨by show _ ≤ 1064; omega, by show _ ≤ 8524; omega⟩ ?_
          refine z_iload g dL_law_630 1 rfl ?_
          refine z_ic_eq g (tgt := 637) dL_law_632 (by decide) (fun _ => ?_) (fun h9 => absurd rfl h9)
          refine z_iload g dL_law_637 1 rfl ?_
          refine z_if_ne g (tgt := 674) dL_law_639 (by decide) (fun _ => ?_) (fun h9 => absurd h9 (by decide))
          refine z_goto g 677 dL_law_674 (by decide) ?_
          refine z_iinc (lv' := [(5, .int _), (7, .double _), (6, .int _), (4, .ref _), (3, .ref _), (2, .ref _), (1, .ref _), (0, .ref _)]) g (nI (4 * (i + 1))) dL_law_677 2 rfl (lw_i4 i) (by decide) rfl ?_
          refine z_goto g 28 dL_law_680 (by decide) ?_
          refine z_locs (lv' := [(5, .int _), (4, .ref _), (3, .ref _), (2, .ref _), (1, .ref _), (0, .ref _)]) g [0, 3, 4, 5, 6, 7] rfl ?_
          refine z_widen g (c1 := 32 + (i + 1)) (s1 := 284 + 6 * (i + 1)) (by omega) (by omega) ?_
          exact ih28 (i + 1) _ _ _ _ _ _ _ _ _ _ _ _ _ _ _ _ _ _ _ _ (by omega) (by omega) (hI)
        · refine z_aload_n g dL_law_590 4 rfl ?_
          refine z_aload_n g dL_law_591 5 rfl ?_
          refine z_iload g dL_law_592 0 rfl ?_
          refine z_ic1 g dL_law_594 ?_
          refine z_iadd g dL_law_595 ?_
          refine z_sld gl (4 * i + 1) (nI_add (4 * i) 1) (by omega) hlt31 dL_law_596 ?_
          refine z_i2d g dL_law_597 ?_
          refine z_ldc2d g (v := (4593671619917905920)) dL_law_598 (mi 8 rfl) ?_
          refine z_dmul g dL_law_601 (fact_x _) ?_
          refine z_aload g dL_law_602 1 rfl ?_
          refine z_callH (w' := [_, _, _, _, _, _, _, _, _, _, _, _, _, _, _, _, _, _, _, _, _, _, _, _, _, _, _, _, _, _, _, _]) (wr := [_, _, _, _, _, _, _, _, _, _, _, _, _, _, _, _, _, _, _, _, _, _, _, _, _]) gx (k_L_byParts_ok l hlt G k _ _ _ _ _ _ _ _ _ _ _ _ _ _ _ _ _ _ _ _ hI.m5 (fact_by hI _).1 hb) 3 gL_law_L_byParts rfl rfl rfl nd_L_byParts ⟨by decide, by decide⟩ [0, 7, 8, 9, 10, 11, 31] [1, 2, 3, 4, 5, 6, 12, 13, 14, 15, 16, 17, 18, 19, 20, 21, 22, 23, 24, 25, 26, 27, 28, 29, 30] [25, 0, 1, 2, 3, 4, 5, 26, 27, 28, 29, 30, 6, 7, 8, 9, 10, 11, 12, 13, 14, 15, 16, 17, 18, 19, 20, 21, 22, 23, 24, 31] rfl rfl rfl rfl (by decide) rfl rfl rfl rfl (Nat.le_of_ble_eq_true rfl) dL_law_604 ⟨by show _ ≤ 1064; omega, by show _ ≤ 8524; omega⟩ ?_
          refine z_istore (lv' := [(6, .int _), (5, .int _), (4, .ref _), (3, .ref _), (2, .ref _), (1, .ref _), (0, .ref _)]) g dL_law_607 (by decide) rfl ?_
          refine z_aload_n g dL_law_609 4 rfl ?_
          refine z_aload_n g dL_law_610 6 rfl ?_
          refine z_iload g dL_law_611 1 rfl ?_
          refine z_ic1 g dL_law_613 ?_
          refine z_iadd g dL_law_614 ?_
          refine z_sld gl (4 * i + 1) (nI_add (4 * i) 1) (by omega) hlt31 dL_law_615 ?_
          refine z_i2d g dL_law_616 ?_
          refine z_ldc2d g (v := (4593671619917905920)) dL_law_617 (mi 8 rfl) ?_
          refine z_dmul g dL_law_620 (fact_x _) ?_
          refine z_callVd (w' := [_, _, _, _, _, _, _, _, _, _, _, _, _, _, _, _, _, _, _, _, _, _, _, _, _, _, _, _, _, _, _, _]) (wr := [_, _, _, _, _, _, _, _, _, _, _, _, _, _, _, _, _, _, _, _, _, _, _, _]) g (k_X3_byParts_ok l G k _ _ _ _ _ _ _ _ _ _ _ _ _ _ _ _ _ _ _ _ _ _ _ _ _ _ hI.2.2.2 hI.m5 (fact_wkG hI) (fact_by hI _).2.1 hb ((if_pos hb).trans ((fact_by hI _).2.2 hb).1)) 1 gL_law_X3_byParts rfl rfl rfl nd_X3_byParts ⟨by decide, by decide⟩ 19 rfl rfl [19, 21, 22, 23, 24, 26, 27, 28] [0, 1, 2, 3, 4, 5, 6, 7, 8, 9, 10, 11, 12, 13, 14, 15, 16, 17, 18, 20, 25, 29, 30, 31] [0, 1, 2, 3, 4, 5, 6, 7, 8, 9, 10, 11, 12, 13, 14, 15, 16, 17, 18, 24, 19, 25, 26, 27, 28, 20, 29, 30, 31, 21, 22, 23] rfl rfl rfl rfl (by decide) rfl rfl rfl rfl (Nat.le_of_ble_eq_true rfl) dL_law_621 ⟨by show _ ≤ 1064; omega, by show _ ≤ 8524; omega⟩ ?_
          refine z_dstore (lv' := [(7, .double _), (6, .int _), (5, .int _), (4, .ref _), (3, .ref _), (2, .ref _), (1, .ref _), (0, .ref _)]) g dL_law_624 (by decide) rfl ?_
          refine z_aload_n g dL_law_626 5 rfl ?_
          refine z_callVi (w' := [_, _, _, _, _, _, _, _, _, _, _, _, _, _, _, _, _, _, _, _, _, _, _, _, _, _, _, _, _, _, _, _]) (wr := [_, _, _, _, _, _, _, _, _, _, _, _, _, _, _, _, _, _, _, _, _, _, _, _, _, _, _, _, _, _, _]) g (k_X3_thrown l G k _ _ _ _ _ _ _ _ _ _ _ _ _ _ _ _ _ ) 0 gL_law_X3_thrown rfl rfl rfl nd_X3_thrown ⟨by decide, by decide⟩ 19 rfl rfl [19] [0, 1, 2, 3, 4, 5, 6, 7, 8, 9, 10, 11, 12, 13, 14, 15, 16, 17, 18, 20, 21, 22, 23, 24, 25, 26, 27, 28, 29, 30, 31] [0, 1, 2, 3, 4, 5, 6, 7, 8, 9, 10, 11, 12, 13, 14, 15, 16, 17, 18, 31, 19, 20, 21, 22, 23, 24, 25, 26, 27, 28, 29, 30] rfl rfl rfl rfl (by decide) rfl rfl rfl rfl (Nat.le_of_ble_eq_true rfl) dL_law_627 ⟨by show _ ≤ 1064; omega, by show _ ≤ 8524; omega⟩ ?_
          refine z_iload g dL_law_630 1 rfl ?_
          refine z_ic_eq g (tgt := 637) dL_law_632 (by decide) (fun _ => ?_) (fun h9 => absurd rfl h9)
          refine z_iload g dL_law_637 1 rfl ?_
          refine z_if_ne g (tgt := 674) dL_law_639 (by decide) (fun h9 => absurd h9 (by decide)) (fun _ => ?_)
          refine z_aload g dL_law_642 3 rfl ?_
          refine z_ic0 g dL_law_644 ?_
          refine z_dald g 31 rfl 0 rfl (by decide) (by decide) dL_law_645 ?_
          refine z_td (upD0 _ _) ?_
          refine z_dload g dL_law_646 0 rfl ?_
          refine z_dcmp g dL_law_648 ?_
          refine z_ti (y := 0) (dc_self ((fact_by hI _).2.2 hb).2) ?_
          refine z_if_eq g (tgt := 674) dL_law_649 (by decide) (fun _ => ?_) (fun h9 => absurd (by decide) h9)
          refine z_goto g 677 dL_law_674 (by decide) ?_
          refine z_iinc (lv' := [(5, .int _), (7, .double _), (6, .int _), (4, .ref _), (3, .ref _), (2, .ref _), (1, .ref _), (0, .ref _)]) g (nI (4 * (i + 1))) dL_law_677 2 rfl (lw_i4 i) (by decide) rfl ?_
          refine z_goto g 28 dL_law_680 (by decide) ?_
          refine z_locs (lv' := [(5, .int _), (4, .ref _), (3, .ref _), (2, .ref _), (1, .ref _), (0, .ref _)]) g [0, 3, 4, 5, 6, 7] rfl ?_
          refine z_widen g (c1 := 32 + (i + 1)) (s1 := 284 + 6 * (i + 1)) (by omega) (by omega) ?_
          exact ih28 (i + 1) _ _ _ _ _ _ _ _ _ _ _ _ _ _ _ _ _ _ _ _ (by omega) (by omega) (hI)
      · refine z_tout g 677 dL_law_44 b44.2 (by decide) ?_
        refine z_iinc (lv' := [(5, .int _), (4, .ref _), (3, .ref _), (2, .ref _), (1, .ref _), (0, .ref _)]) g (nI (4 * (i + 1))) dL_law_677 0 rfl (lw_i4 i) (by decide) rfl ?_
        refine z_goto g 28 dL_law_680 (by decide) ?_
        refine z_widen g (c1 := 32 + (i + 1)) (s1 := 284 + 6 * (i + 1)) (by omega) (by omega) ?_
        exact ih28 (i + 1) _ _ _ _ _ _ _ _ _ _ _ _ _ _ _ _ _ _ _ _ (by omega) (by omega) (hI)
  refine z_new g hX2 tyX2 tyX2_ok (mi 0 rfl) (mi 1 rfl) (mi 2 rfl) (ci := 2) rfl [.null, .null, .null, .null, .null, .null, .null, .null, .null, .null, .null] (fun j hj => by rcases (show j = 0 ∨ j = 1 ∨ j = 2 ∨ j = 3 ∨ j = 4 ∨ j = 5 ∨ j = 6 ∨ j = 7 ∨ j = 8 ∨ j = 9 ∨ j = 10 by omega) with rfl | rfl | rfl | rfl | rfl | rfl | rfl | rfl | rfl | rfl | rfl <;> rfl) (by decide) (by decide) dL_law_0 (fun hd => ?_)
  refine z_dup g dL_law_3 rfl ?_
  refine z_callLs (wr := []) gl (k_X2_init l G k _) gL_law_X2_init rfl rfl rfl nd_X2_init ⟨by decide, by decide⟩ (mi 2 rfl) (mi 9 rfl) (mi 10 rfl) rfl [0] [] rfl rfl rfl rfl (by decide) (Nat.le_of_ble_eq_true rfl) dL_law_4 ⟨by decide, by decide⟩ (fun w1 hw1 => ?_)
  obtain ⟨a0, a1, a2, a3, a4, a5, a6, a7, a8, a9, a10, c0, b1, b2, b3, b7, b9, b10, rfl⟩ := hw1
  refine z_astore_n (lv' := [(1, .ref _), (0, .ref _)]) g dL_law_7 (by decide) rfl ?_
  refine z_new g hX3 tyX3 tyX3_ok (mi 3 rfl) (mi 4 rfl) (mi 5 rfl) (ci := 3) rfl [.int 0, .null, .int 0, .null, .null, .null, .int 0, .null, .null, .long 0, .long 0, .null, .null, .null, .null, .int 0] (fun j hj => by rcases (show j = 0 ∨ j = 1 ∨ j = 2 ∨ j = 3 ∨ j = 4 ∨ j = 5 ∨ j = 6 ∨ j = 7 ∨ j = 8 ∨ j = 9 ∨ j = 10 ∨ j = 11 ∨ j = 12 ∨ j = 13 ∨ j = 14 ∨ j = 15 by omega) with rfl | rfl | rfl | rfl | rfl | rfl | rfl | rfl | rfl | rfl | rfl | rfl | rfl | rfl | rfl | rfl <;> rfl) (by decide) (by decide) dL_law_8 (fun hm => ?_)
  refine z_dup g dL_law_11 rfl ?_
  refine z_callLs (wr := [_, _, _, _, _, _, _, _, _, _, _, _, _, _, _, _, _, _, _]) gl (k_X3_init l G k _) gL_law_X3_init rfl rfl rfl nd_X3_init ⟨by decide, by decide⟩ (mi 5 rfl) (mi 111 rfl) (mi 112 rfl) rfl [19] [0, 1, 2, 3, 4, 5, 6, 7, 8, 9, 10, 11, 12, 13, 14, 15, 16, 17, 18] rfl rfl rfl rfl (by decide) (Nat.le_of_ble_eq_true rfl) dL_law_12 ⟨by decide, by decide⟩ (fun w1 hw1 => ?_)
  obtain ⟨e1, e3, e4, e5, e7, e8, e11, e12, e13, e14, rfl⟩ := hw1
  refine z_astore_n (lv' := [(2, .ref _), (1, .ref _), (0, .ref _)]) g dL_law_15 (by decide) rfl ?_
  refine z_ic1 g dL_law_16 ?_
  refine z_newal g (mi 6 rfl) 1 rfl (by decide) (by decide) (by decide) dL_law_17 (fun o1 => ?_)
  refine z_astore_n (lv' := [(3, .ref _), (2, .ref _), (1, .ref _), (0, .ref _)]) g dL_law_19 (by decide) rfl ?_
  refine z_ic1 g dL_law_20 ?_
  refine z_newad g (mi 7 rfl) 1 rfl (by decide) (by decide) (by decide) dL_law_21 (fun o2 => ?_)
  refine z_astore (lv' := [(4, .ref _), (3, .ref _), (2, .ref _), (1, .ref _), (0, .ref _)]) g dL_law_23 (by decide) rfl ?_
  refine z_ic0 g dL_law_25 ?_
  refine z_istore (lv' := [(5, .int _), (4, .ref _), (3, .ref _), (2, .ref _), (1, .ref _), (0, .ref _)]) g dL_law_26 (by decide) rfl ?_
  exact loop _ _ _ _ _ _ _ _ _ _ _ _ _ _ _ _ _ _ _ _ _ _ _ _ _ _ _ _ _ _ _ _ _ 0 (fun _ => 0) 0 (fun _ => 0) (fun j => if j = 3 then 1 else 0) (fun _ => 0) (fun _ => 0) (tkS (fun j => if j = 3 then 1 else 0) (fun _ => 0) (fun _ => 0) (fun _ => 0) 7).2.2.1 (tkS (fun j => if j = 3 then 1 else 0) (fun _ => 0) (fun _ => 0) (fun _ => 0) 7).2.2.2 0 0 0 0 (fun _ => 0) (fun _ => 0) (fun _ => 0) (fun _ => 0) (fun _ => 0) (fun _ => 0) (fun _ => 0) (fun _ => 0) (Nat.lt_succ_self _) (Nat.zero_le _) inv0
