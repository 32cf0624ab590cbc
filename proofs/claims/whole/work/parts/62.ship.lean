/-! THE MATHEMATICS: what is seen from a ship -/
theorem rg1 (x c s : Int32) : 2 * ((x + c) - s) + 1 = 2 * (x + c) + 1 - 2 * s := by grind
theorem rg2 (y x : Int32) : 2 * y * x = 2 * x * y := by grind
theorem rg3 (y x w : Int32) : 2 * y * x + 2 * y * w = 2 * (x + w) * y := by grind
section M62
variable {D : zD} {P : Nat → Nat}
abbrev Xr (D : zD) : Nat → Int32 := fun o => gI D (170 + o) 1
abbrev Yr (D : zD) : Nat → Int32 := fun o => gI D (170 + o) 2
theorem c_far {n k : Nat} (h : gI D 57 2 = nI n) (hn : n ≤ 8) (hk : k < n) : fn_X9_farOf 57 (nI k) D = some (gI D 62 k) ∧ fn_X9_leftOf 57 (nI k) D = some (gI D 61 k) ∧ fn_X9_signOf 57 (nI k) D = some (gI D 60 k) := by
  unfold fn_X9_farOf fn_X9_leftOf fn_X9_signOf
  rw [h]
  refine ⟨?_, ?_, ?_⟩
  · simp (disch := omega) only [Option.bind_some, Option.map_some, zlet_eq, ↓reduceIte, L_2, L_3, L_4, L_5, L_6, L_7, L_8, L_9, L_10, L_12, L_13, L_20, L_24, L_25, L_26, L_27, L_30, L_32, L_33, L_34, L_40, L_48, L_57, L_58, L_60, L_64, L_90, L_93, L_97, L_99, L_100, L_122, L_144, L_255, L_364, L_480, L_500, L_800, L_1000, L_100000, L_4096, L_1023, L_1024, nLe, nLt, nEq, nI_1, nI_add, pk_mul, nSn, nDn, nCl, zck_nI, zdv_nI, nNeg, nLe0, n0Lt, nEq0, nM1, m1N, m1Lt, nLm1, zcb_0, zcb_1, i10, i01, nEq1, n1Eq, nLt1, gI_eq, gI_nb, gI_na, x_badF, x_badT1, x_badT2, bt_0, bt_1, bit1_u, Bool.true_eq_false, Bool.false_eq_true, eq_self, Int32.or_zero, L_11, L_14, L_15, L_16, L_17, L_18, L_19, L_21, L_22, L_23, L_28, L_29, if_pos, if_neg]
  · simp (disch := omega) only [Option.bind_some, Option.map_some, zlet_eq, ↓reduceIte, L_2, L_3, L_4, L_5, L_6, L_7, L_8, L_9, L_10, L_12, L_13, L_20, L_24, L_25, L_26, L_27, L_30, L_32, L_33, L_34, L_40, L_48, L_57, L_58, L_60, L_64, L_90, L_93, L_97, L_99, L_100, L_122, L_144, L_255, L_364, L_480, L_500, L_800, L_1000, L_100000, L_4096, L_1023, L_1024, nLe, nLt, nEq, nI_1, nI_add, pk_mul, nSn, nDn, nCl, zck_nI, zdv_nI, nNeg, nLe0, n0Lt, nEq0, nM1, m1N, m1Lt, nLm1, zcb_0, zcb_1, i10, i01, nEq1, n1Eq, nLt1, gI_eq, gI_nb, gI_na, x_badF, x_badT1, x_badT2, bt_0, bt_1, bit1_u, Bool.true_eq_false, Bool.false_eq_true, eq_self, Int32.or_zero, L_11, L_14, L_15, L_16, L_17, L_18, L_19, L_21, L_22, L_23, L_28, L_29, if_pos, if_neg]
  · simp (disch := omega) only [Option.bind_some, Option.map_some, zlet_eq, ↓reduceIte, L_2, L_3, L_4, L_5, L_6, L_7, L_8, L_9, L_10, L_12, L_13, L_20, L_24, L_25, L_26, L_27, L_30, L_32, L_33, L_34, L_40, L_48, L_57, L_58, L_60, L_64, L_90, L_93, L_97, L_99, L_100, L_122, L_144, L_255, L_364, L_480, L_500, L_800, L_1000, L_100000, L_4096, L_1023, L_1024, nLe, nLt, nEq, nI_1, nI_add, pk_mul, nSn, nDn, nCl, zck_nI, zdv_nI, nNeg, nLe0, n0Lt, nEq0, nM1, m1N, m1Lt, nLm1, zcb_0, zcb_1, i10, i01, nEq1, n1Eq, nLt1, gI_eq, gI_nb, gI_na, x_badF, x_badT1, x_badT2, bt_0, bt_1, bit1_u, Bool.true_eq_false, Bool.false_eq_true, eq_self, Int32.or_zero, L_11, L_14, L_15, L_16, L_17, L_18, L_19, L_21, L_22, L_23, L_28, L_29, if_pos, if_neg]
theorem iv_st (h : iv P D) {k : Nat} (hk : k < P 7) : ∃ s, s < P 2 ∧ gI D 60 k = nI s ∧ gI D 61 k = Xr D k ∧ gI D 62 k = Yr D k ∧ gI D (170 + k) 0 = nI s := by
  obtain ⟨⟨⟨hb, ⟨a0, a1, a2, a3⟩, ⟨b0, b1, b2, b3⟩, hs, hw⟩, ⟨hc, c1, c2, hcv⟩, ⟨hd, ⟨z0, z1, z2⟩, ⟨y0, y1, y2⟩, hp, ht⟩, ⟨hi, i0, i1, him⟩, ⟨hta, ta0, ta1, hpl, htb⟩⟩, hK, hO⟩ := h
  replace y0 : gI _ 102 34 = nI (P 5) := y0
  replace y1 : gI _ 102 35 = nI (P 6) := y1
  replace y2 : gI _ 102 36 = nI (P 7) := y2
  obtain ⟨s, x, y, q1, q2, q3, q4, q5, q6, q7, q8, q9, q10⟩ := ht k hk
  rw [(rS_t _ (show k < 8 by omega)).1] at q8
  rw [(rS_t _ (show k < 8 by omega)).2.1] at q9
  rw [(rS_t _ (show k < 8 by omega)).2.2] at q10
  exact ⟨s, q1, q5, by rw [q6]; exact q9.symm, by rw [q7]; exact q10.symm, q8⟩
theorem c_isHidden (h : iv P D) {b : Nat} (hb7 : b < P 7) (col : Nat) (s : Int32) : fn_X5_isHidden 57 (nI (P 0)) (nI b) (nI col) s D = some (if sHid (P 0) (P 7) (Xr D) (Yr D) b col s then 1 else 0) := by
  have h' := h
  obtain ⟨⟨⟨hb, ⟨a0, a1, a2, a3⟩, ⟨b0, b1, b2, b3⟩, hs, hw⟩, ⟨hc, c1, c2, hcv⟩, ⟨hd, ⟨z0, z1, z2⟩, ⟨y0, y1, y2⟩, hp, ht⟩, ⟨hi, i0, i1, him⟩, ⟨hta, ta0, ta1, hpl, htb⟩⟩, hK, hO⟩ := h
  replace y0 : gI _ 102 34 = nI (P 5) := y0
  replace y1 : gI _ 102 35 = nI (P 6) := y1
  replace y2 : gI _ 102 36 = nI (P 7) := y2
  obtain ⟨sb, _, _, e61, e62, _⟩ := iv_st h' hb7
  unfold fn_X5_isHidden
  rw [(c_far z2 hd.2.2 hb7).1, (c_far z2 hd.2.2 hb7).2.1, Option.bind_some, Option.bind_some, zlet_eq, e61, e62, rg1]
  refine Eq.trans (z_find (P 7) (fun n o => fn_X5_isHidden_27 57 (nI (P 0)) (nI b) (nI col) s D n (Yr D b) (2 * (Xr D b + nI col) + 1 - 2 * s) (nI o)) (fun o => decide (Yr D o < Yr D b) && decide (2 * Xr D o * Yr D b ≤ 2 * s * Yr D b + (2 * (Xr D b + nI col) + 1 - 2 * s) * Yr D o) && decide (2 * s * Yr D b + (2 * (Xr D b + nI col) + 1 - 2 * s) * Yr D o ≤ 2 * (Xr D o + nI (P 0)) * Yr D b)) (fun _ => some 1) (some 0) ?_ ?_ 0 zFU (Nat.zero_le _) (zfu_gt (by omega))) ?_
  · intro n o ho
    show fn_X5_isHidden_27 57 (nI (P 0)) (nI b) (nI col) s D (n + 1) (Yr D b) (2 * (Xr D b + nI col) + 1 - 2 * s) (nI o) = if _ then _ else fn_X5_isHidden_27 57 (nI (P 0)) (nI b) (nI col) s D n (Yr D b) (2 * (Xr D b + nI col) + 1 - 2 * s) (nI (o + 1))
    obtain ⟨so, _, _, f61, f62, _⟩ := iv_st h' ho
    rw [fn_X5_isHidden_27, z2, if_neg (nI_ge ho (by omega)), (c_far z2 hd.2.2 ho).1, (c_far z2 hd.2.2 ho).2.1, Option.bind_some, zlet_eq, Option.bind_some, zlet_eq, f61, f62, rg2 (Yr D b) (Xr D o), ← rg2 (Yr D b) (Xr D o), rg3, rg2 (Yr D b) (Xr D o), nI_1]
    generalize hW : 2 * s * Yr D b + (2 * (Xr D b + nI col) + 1 - 2 * s) * Yr D o = W
    generalize hL : 2 * Xr D o * Yr D b = L
    generalize hR : 2 * (Xr D o + nI (P 0)) * Yr D b = R
    by_cases q1 : Yr D o < Yr D b
    · rw [if_neg (Int32.not_le.mpr q1)]
      by_cases q2 : L ≤ W
      · rw [if_neg (Int32.not_lt.mpr q2)]
        by_cases q3 : W ≤ R
        · rw [if_neg (Int32.not_lt.mpr q3), if_pos (by simp [q1, q2, q3])]
        · rw [if_pos (Int32.not_le.mp q3), if_neg (by simp [q3])]
      · rw [if_pos (Int32.not_le.mp q2), if_neg (by simp [q2])]
    · rw [if_pos (Int32.not_lt.mp q1), if_neg (by simp [q1])]
  · intro n
    show fn_X5_isHidden_27 57 (nI (P 0)) (nI b) (nI col) s D (n + 1) (Yr D b) (2 * (Xr D b + nI col) + 1 - 2 * s) (nI (P 7)) = _
    rw [fn_X5_isHidden_27, z2]
    simp (disch := omega) only [Option.bind_some, Option.map_some, zlet_eq, ↓reduceIte, L_2, L_3, L_4, L_5, L_6, L_7, L_8, L_9, L_10, L_12, L_13, L_20, L_24, L_25, L_26, L_27, L_30, L_32, L_33, L_34, L_40, L_48, L_57, L_58, L_60, L_64, L_90, L_93, L_97, L_99, L_100, L_122, L_144, L_255, L_364, L_480, L_500, L_800, L_1000, L_100000, L_4096, L_1023, L_1024, nLe, nLt, nEq, nI_1, nI_add, pk_mul, nSn, nDn, nCl, zck_nI, zdv_nI, nNeg, nLe0, n0Lt, nEq0, nM1, m1N, m1Lt, nLm1, zcb_0, zcb_1, i10, i01, nEq1, n1Eq, nLt1, gI_eq, gI_nb, gI_na, x_badF, x_badT1, x_badT2, bt_0, bt_1, bit1_u, Bool.true_eq_false, Bool.false_eq_true, eq_self, Int32.or_zero, L_11, L_14, L_15, L_16, L_17, L_18, L_19, L_21, L_22, L_23, L_28, L_29, if_pos, if_neg]
  · unfold sHid
    rw [Nat.sub_zero]
    by_cases q : zff (fun o => decide (Yr D o < Yr D b) && decide (2 * Xr D o * Yr D b ≤ 2 * s * Yr D b + (2 * (Xr D b + nI col) + 1 - 2 * s) * Yr D o) && decide (2 * s * Yr D b + (2 * (Xr D b + nI col) + 1 - 2 * s) * Yr D o ≤ 2 * (Xr D o + nI (P 0)) * Yr D b)) (P 7) 0 < P 7
    · rw [if_pos q, if_pos (decide_eq_true q)]
    · rw [if_neg q, if_neg (by rw [decide_eq_false q]; decide)]
theorem r_isSeen (h : iv P D) {b : Nat} (hb7 : b < P 7) (col : Nat) (s : Int32) : fn_X12_isSeen (nI b) (nI col) s D = some (if sHid (P 0) (P 7) (Xr D) (Yr D) b col s then 0 else 1) := by
  have h' := h
  obtain ⟨⟨⟨hb, ⟨a0, a1, a2, a3⟩, ⟨b0, b1, b2, b3⟩, hs, hw⟩, ⟨hc, c1, c2, hcv⟩, ⟨hd, ⟨z0, z1, z2⟩, ⟨y0, y1, y2⟩, hp, ht⟩, ⟨hi, i0, i1, him⟩, ⟨hta, ta0, ta1, hpl, htb⟩⟩, hK, hO⟩ := h
  replace y0 : gI _ 102 34 = nI (P 5) := y0
  replace y1 : gI _ 102 35 = nI (P 6) := y1
  replace y2 : gI _ 102 36 = nI (P 7) := y2
  unfold fn_X12_isSeen
  rw [zck_nI (by omega) (by omega), nI_clamp (by omega), zlet_eq, zck_nI (by omega) (by omega), zlet_eq]
  refine Eq.trans (z_find (P 7) (fun n o => fn_X12_isSeen_29 (nI b) (nI col) s D n (2 * (Xr D b + nI col) + 1) (Yr D b) (nI o)) (fun o => decide (Yr D o < Yr D b) && decide (2 * Xr D o * Yr D b ≤ 2 * s * Yr D b + (2 * (Xr D b + nI col) + 1 - 2 * s) * Yr D o) && decide (2 * s * Yr D b + (2 * (Xr D b + nI col) + 1 - 2 * s) * Yr D o ≤ 2 * (Xr D o + nI (P 0)) * Yr D b)) (fun _ => some 0) (some 1) ?_ ?_ 0 zFU (Nat.zero_le _) (zfu_gt (by omega))) ?_
  · intro n o ho
    show fn_X12_isSeen_29 (nI b) (nI col) s D (n + 1) (2 * (Xr D b + nI col) + 1) (Yr D b) (nI o) = if _ then _ else fn_X12_isSeen_29 (nI b) (nI col) s D n (2 * (Xr D b + nI col) + 1) (Yr D b) (nI (o + 1))
    rw [fn_X12_isSeen_29, y2, b0, if_neg (nI_ge ho (by omega)), zck_nI (by omega) (by omega), zlet_eq, nI_clamp (by omega), nI_1]
    show (if Yr D o < Yr D b then _ else _) = _
    by_cases q1 : Yr D o < Yr D b
    · rw [if_pos q1, zlet_eq, zck_nI (by omega) (by omega), zck_nI (by omega) (by omega)]
      show (if (2 * s * Yr D b + (2 * (Xr D b + nI col) + 1 - 2 * s) * Yr D o) < 2 * Xr D o * Yr D b then _ else if 2 * (Xr D o + nI (P 0)) * Yr D b < (2 * s * Yr D b + (2 * (Xr D b + nI col) + 1 - 2 * s) * Yr D o) then _ else _) = _
      generalize hW : 2 * s * Yr D b + (2 * (Xr D b + nI col) + 1 - 2 * s) * Yr D o = W
      generalize hL : 2 * Xr D o * Yr D b = L
      generalize hR : 2 * (Xr D o + nI (P 0)) * Yr D b = R
      by_cases q2 : L ≤ W
      · rw [if_neg (Int32.not_lt.mpr q2)]
        by_cases q3 : W ≤ R
        · rw [if_neg (Int32.not_lt.mpr q3), if_pos (by simp [q1, q2, q3])]
        · rw [if_pos (Int32.not_le.mp q3), if_neg (by simp [q3])]
      · rw [if_pos (Int32.not_le.mp q2), if_neg (by simp [q2])]
    · rw [if_neg q1, if_neg (by simp [q1])]
  · intro n
    show fn_X12_isSeen_29 (nI b) (nI col) s D (n + 1) (2 * (Xr D b + nI col) + 1) (Yr D b) (nI (P 7)) = _
    rw [fn_X12_isSeen_29, y2]
    simp (disch := omega) only [Option.bind_some, Option.map_some, zlet_eq, ↓reduceIte, L_2, L_3, L_4, L_5, L_6, L_7, L_8, L_9, L_10, L_12, L_13, L_20, L_24, L_25, L_26, L_27, L_30, L_32, L_33, L_34, L_40, L_48, L_57, L_58, L_60, L_64, L_90, L_93, L_97, L_99, L_100, L_122, L_144, L_255, L_364, L_480, L_500, L_800, L_1000, L_100000, L_4096, L_1023, L_1024, nLe, nLt, nEq, nI_1, nI_add, pk_mul, nSn, nDn, nCl, zck_nI, zdv_nI, nNeg, nLe0, n0Lt, nEq0, nM1, m1N, m1Lt, nLm1, zcb_0, zcb_1, i10, i01, nEq1, n1Eq, nLt1, gI_eq, gI_nb, gI_na, x_badF, x_badT1, x_badT2, bt_0, bt_1, bit1_u, Bool.true_eq_false, Bool.false_eq_true, eq_self, Int32.or_zero, L_11, L_14, L_15, L_16, L_17, L_18, L_19, L_21, L_22, L_23, L_28, L_29, if_pos, if_neg]
  · unfold sHid
    rw [Nat.sub_zero]
    by_cases q : zff (fun o => decide (Yr D o < Yr D b) && decide (2 * Xr D o * Yr D b ≤ 2 * s * Yr D b + (2 * (Xr D b + nI col) + 1 - 2 * s) * Yr D o) && decide (2 * s * Yr D b + (2 * (Xr D b + nI col) + 1 - 2 * s) * Yr D o ≤ 2 * (Xr D o + nI (P 0)) * Yr D b)) (P 7) 0 < P 7
    · rw [if_pos q, if_pos (decide_eq_true q)]
    · rw [if_neg q, if_neg (by rw [decide_eq_false q]; decide)]
theorem c_open (h : iv P D) {b : Nat} (hb7 : b < P 7) (s : Int32) : fn_X5_openColumns 57 (nI (P 0)) (nI b) s D = some (sSee (P 0) (P 7) (Xr D) (Yr D) b s) := by
  have h' := h
  obtain ⟨⟨⟨hb, ⟨a0, a1, a2, a3⟩, ⟨b0, b1, b2, b3⟩, hs, hw⟩, ⟨hc, c1, c2, hcv⟩, ⟨hd, ⟨z0, z1, z2⟩, ⟨y0, y1, y2⟩, hp, ht⟩, ⟨hi, i0, i1, him⟩, ⟨hta, ta0, ta1, hpl, htb⟩⟩, hK, hO⟩ := h
  replace y0 : gI _ 102 34 = nI (P 5) := y0
  replace y1 : gI _ 102 35 = nI (P 6) := y1
  replace y2 : gI _ 102 36 = nI (P 7) := y2
  refine z_for (P 0) (fun n i acc => fn_X5_openColumns_6 57 (nI (P 0)) (nI b) s D n acc (nI i)) _ some ?_ ?_ 0 zFU 0 (Nat.zero_le _) (zfu_gt (by omega))
  · intro n i acc hi'
    show fn_X5_openColumns_6 57 (nI (P 0)) (nI b) s D (n + 1) acc (nI i) = fn_X5_openColumns_6 57 (nI (P 0)) (nI b) s D n _ (nI (i + 1))
    rw [fn_X5_openColumns_6, c_isHidden h' hb7]
    cases sHid (P 0) (P 7) (Xr D) (Yr D) b i s
    · simp (disch := omega) only [Option.bind_some, Option.map_some, zlet_eq, ↓reduceIte, L_2, L_3, L_4, L_5, L_6, L_7, L_8, L_9, L_10, L_12, L_13, L_20, L_24, L_25, L_26, L_27, L_30, L_32, L_33, L_34, L_40, L_48, L_57, L_58, L_60, L_64, L_90, L_93, L_97, L_99, L_100, L_122, L_144, L_255, L_364, L_480, L_500, L_800, L_1000, L_100000, L_4096, L_1023, L_1024, nLe, nLt, nEq, nI_1, nI_add, pk_mul, nSn, nDn, nCl, zck_nI, zdv_nI, nNeg, nLe0, n0Lt, nEq0, nM1, m1N, m1Lt, nLm1, zcb_0, zcb_1, i10, i01, nEq1, n1Eq, nLt1, gI_eq, gI_nb, gI_na, x_badF, x_badT1, x_badT2, bt_0, bt_1, bit1_u, Bool.true_eq_false, Bool.false_eq_true, eq_self, Int32.or_zero, L_11, L_14, L_15, L_16, L_17, L_18, L_19, L_21, L_22, L_23, L_28, L_29, if_pos, if_neg]
    · simp (disch := omega) only [Option.bind_some, Option.map_some, zlet_eq, ↓reduceIte, L_2, L_3, L_4, L_5, L_6, L_7, L_8, L_9, L_10, L_12, L_13, L_20, L_24, L_25, L_26, L_27, L_30, L_32, L_33, L_34, L_40, L_48, L_57, L_58, L_60, L_64, L_90, L_93, L_97, L_99, L_100, L_122, L_144, L_255, L_364, L_480, L_500, L_800, L_1000, L_100000, L_4096, L_1023, L_1024, nLe, nLt, nEq, nI_1, nI_add, pk_mul, nSn, nDn, nCl, zck_nI, zdv_nI, nNeg, nLe0, n0Lt, nEq0, nM1, m1N, m1Lt, nLm1, zcb_0, zcb_1, i10, i01, nEq1, n1Eq, nLt1, gI_eq, gI_nb, gI_na, x_badF, x_badT1, x_badT2, bt_0, bt_1, bit1_u, Bool.true_eq_false, Bool.false_eq_true, eq_self, Int32.or_zero, L_11, L_14, L_15, L_16, L_17, L_18, L_19, L_21, L_22, L_23, L_28, L_29, if_pos, if_neg]
  · intro n acc
    show fn_X5_openColumns_6 57 (nI (P 0)) (nI b) s D (n + 1) acc (nI (P 0)) = _
    rw [fn_X5_openColumns_6]
    simp (disch := omega) only [Option.bind_some, Option.map_some, zlet_eq, ↓reduceIte, L_2, L_3, L_4, L_5, L_6, L_7, L_8, L_9, L_10, L_12, L_13, L_20, L_24, L_25, L_26, L_27, L_30, L_32, L_33, L_34, L_40, L_48, L_57, L_58, L_60, L_64, L_90, L_93, L_97, L_99, L_100, L_122, L_144, L_255, L_364, L_480, L_500, L_800, L_1000, L_100000, L_4096, L_1023, L_1024, nLe, nLt, nEq, nI_1, nI_add, pk_mul, nSn, nDn, nCl, zck_nI, zdv_nI, nNeg, nLe0, n0Lt, nEq0, nM1, m1N, m1Lt, nLm1, zcb_0, zcb_1, i10, i01, nEq1, n1Eq, nLt1, gI_eq, gI_nb, gI_na, x_badF, x_badT1, x_badT2, bt_0, bt_1, bit1_u, Bool.true_eq_false, Bool.false_eq_true, eq_self, Int32.or_zero, L_11, L_14, L_15, L_16, L_17, L_18, L_19, L_21, L_22, L_23, L_28, L_29, if_pos, if_neg]
theorem r_seenFrom (h : iv P D) {b : Nat} (hb7 : b < P 7) (s : Int32) : fn_X12_seenFrom (nI b) s D = some (sSee (P 0) (P 7) (Xr D) (Yr D) b s) := by
  have h' := h
  obtain ⟨⟨⟨hb, ⟨a0, a1, a2, a3⟩, ⟨b0, b1, b2, b3⟩, hs, hw⟩, ⟨hc, c1, c2, hcv⟩, ⟨hd, ⟨z0, z1, z2⟩, ⟨y0, y1, y2⟩, hp, ht⟩, ⟨hi, i0, i1, him⟩, ⟨hta, ta0, ta1, hpl, htb⟩⟩, hK, hO⟩ := h
  replace y0 : gI _ 102 34 = nI (P 5) := y0
  replace y1 : gI _ 102 35 = nI (P 6) := y1
  replace y2 : gI _ 102 36 = nI (P 7) := y2
  refine z_for (P 0) (fun n i acc => fn_X12_seenFrom_5 (nI b) s D n acc (nI i)) _ some ?_ ?_ 0 zFU 0 (Nat.zero_le _) (zfu_gt (by omega))
  · intro n i acc hi'
    show fn_X12_seenFrom_5 (nI b) s D (n + 1) acc (nI i) = fn_X12_seenFrom_5 (nI b) s D n _ (nI (i + 1))
    rw [fn_X12_seenFrom_5, r_isSeen h' hb7, b0]
    cases sHid (P 0) (P 7) (Xr D) (Yr D) b i s
    · simp (disch := omega) only [Option.bind_some, Option.map_some, zlet_eq, ↓reduceIte, L_2, L_3, L_4, L_5, L_6, L_7, L_8, L_9, L_10, L_12, L_13, L_20, L_24, L_25, L_26, L_27, L_30, L_32, L_33, L_34, L_40, L_48, L_57, L_58, L_60, L_64, L_90, L_93, L_97, L_99, L_100, L_122, L_144, L_255, L_364, L_480, L_500, L_800, L_1000, L_100000, L_4096, L_1023, L_1024, nLe, nLt, nEq, nI_1, nI_add, pk_mul, nSn, nDn, nCl, zck_nI, zdv_nI, nNeg, nLe0, n0Lt, nEq0, nM1, m1N, m1Lt, nLm1, zcb_0, zcb_1, i10, i01, nEq1, n1Eq, nLt1, gI_eq, gI_nb, gI_na, x_badF, x_badT1, x_badT2, bt_0, bt_1, bit1_u, Bool.true_eq_false, Bool.false_eq_true, eq_self, Int32.or_zero, L_11, L_14, L_15, L_16, L_17, L_18, L_19, L_21, L_22, L_23, L_28, L_29, if_pos, if_neg]
    · simp (disch := omega) only [Option.bind_some, Option.map_some, zlet_eq, ↓reduceIte, L_2, L_3, L_4, L_5, L_6, L_7, L_8, L_9, L_10, L_12, L_13, L_20, L_24, L_25, L_26, L_27, L_30, L_32, L_33, L_34, L_40, L_48, L_57, L_58, L_60, L_64, L_90, L_93, L_97, L_99, L_100, L_122, L_144, L_255, L_364, L_480, L_500, L_800, L_1000, L_100000, L_4096, L_1023, L_1024, nLe, nLt, nEq, nI_1, nI_add, pk_mul, nSn, nDn, nCl, zck_nI, zdv_nI, nNeg, nLe0, n0Lt, nEq0, nM1, m1N, m1Lt, nLm1, zcb_0, zcb_1, i10, i01, nEq1, n1Eq, nLt1, gI_eq, gI_nb, gI_na, x_badF, x_badT1, x_badT2, bt_0, bt_1, bit1_u, Bool.true_eq_false, Bool.false_eq_true, eq_self, Int32.or_zero, L_11, L_14, L_15, L_16, L_17, L_18, L_19, L_21, L_22, L_23, L_28, L_29, if_pos, if_neg]
  · intro n acc
    show fn_X12_seenFrom_5 (nI b) s D (n + 1) acc (nI (P 0)) = _
    rw [fn_X12_seenFrom_5, b0]
    simp (disch := omega) only [Option.bind_some, Option.map_some, zlet_eq, ↓reduceIte, L_2, L_3, L_4, L_5, L_6, L_7, L_8, L_9, L_10, L_12, L_13, L_20, L_24, L_25, L_26, L_27, L_30, L_32, L_33, L_34, L_40, L_48, L_57, L_58, L_60, L_64, L_90, L_93, L_97, L_99, L_100, L_122, L_144, L_255, L_364, L_480, L_500, L_800, L_1000, L_100000, L_4096, L_1023, L_1024, nLe, nLt, nEq, nI_1, nI_add, pk_mul, nSn, nDn, nCl, zck_nI, zdv_nI, nNeg, nLe0, n0Lt, nEq0, nM1, m1N, m1Lt, nLm1, zcb_0, zcb_1, i10, i01, nEq1, n1Eq, nLt1, gI_eq, gI_nb, gI_na, x_badF, x_badT1, x_badT2, bt_0, bt_1, bit1_u, Bool.true_eq_false, Bool.false_eq_true, eq_self, Int32.or_zero, L_11, L_14, L_15, L_16, L_17, L_18, L_19, L_21, L_22, L_23, L_28, L_29, if_pos, if_neg]
/-- seen from s, or by s -/
def sCol (P : Nat → Nat) (D : zD) (so : Int32) (b s : Nat) : Int32 := if so = 0 then sSee (P 0) (P 7) (Xr D) (Yr D) b (nI s) else sBy (P 0) (P 7) (Xr D) (Yr D) b s
theorem r_seenOf (h : iv P D) {b s : Nat} (hb7 : b < P 7) (hs1 : s < 100) (so : Int32) : fn_X12_seenOf (nI b) (nI s) so D = some (sCol P D so b s) := by
  have h' := h
  unfold fn_X12_seenOf
  have key : ∀ i, i ≤ s + 1 → fn_X12_seenOf_14 (nI b) (nI s) so D zFU 0 (nI i) = some (zfo (fun k acc => acc ||| sSee (P 0) (P 7) (Xr D) (Yr D) b (nI k)) (s + 1 - i) i 0) := by
    intro i hi'
    refine z_for (s + 1) (fun n i acc => fn_X12_seenOf_14 (nI b) (nI s) so D n acc (nI i)) (fun k acc => acc ||| sSee (P 0) (P 7) (Xr D) (Yr D) b (nI k)) some ?_ ?_ i zFU 0 hi' (zfu_gt (by omega))
    · intro n i acc hi'
      show fn_X12_seenOf_14 (nI b) (nI s) so D (n + 1) acc (nI i) = fn_X12_seenOf_14 (nI b) (nI s) so D n _ (nI (i + 1))
      rw [fn_X12_seenOf_14, r_seenFrom h' hb7]
      simp (disch := omega) only [Option.bind_some, Option.map_some, zlet_eq, ↓reduceIte, L_2, L_3, L_4, L_5, L_6, L_7, L_8, L_9, L_10, L_12, L_13, L_20, L_24, L_25, L_26, L_27, L_30, L_32, L_33, L_34, L_40, L_48, L_57, L_58, L_60, L_64, L_90, L_93, L_97, L_99, L_100, L_122, L_144, L_255, L_364, L_480, L_500, L_800, L_1000, L_100000, L_4096, L_1023, L_1024, nLe, nLt, nEq, nI_1, nI_add, pk_mul, nSn, nDn, nCl, zck_nI, zdv_nI, nNeg, nLe0, n0Lt, nEq0, nM1, m1N, m1Lt, nLm1, zcb_0, zcb_1, i10, i01, nEq1, n1Eq, nLt1, gI_eq, gI_nb, gI_na, x_badF, x_badT1, x_badT2, bt_0, bt_1, bit1_u, Bool.true_eq_false, Bool.false_eq_true, eq_self, Int32.or_zero, L_11, L_14, L_15, L_16, L_17, L_18, L_19, L_21, L_22, L_23, L_28, L_29, if_pos, if_neg]
    · intro n acc
      show fn_X12_seenOf_14 (nI b) (nI s) so D (n + 1) acc (nI (s + 1)) = _
      rw [fn_X12_seenOf_14]
      simp (disch := omega) only [Option.bind_some, Option.map_some, zlet_eq, ↓reduceIte, L_2, L_3, L_4, L_5, L_6, L_7, L_8, L_9, L_10, L_12, L_13, L_20, L_24, L_25, L_26, L_27, L_30, L_32, L_33, L_34, L_40, L_48, L_57, L_58, L_60, L_64, L_90, L_93, L_97, L_99, L_100, L_122, L_144, L_255, L_364, L_480, L_500, L_800, L_1000, L_100000, L_4096, L_1023, L_1024, nLe, nLt, nEq, nI_1, nI_add, pk_mul, nSn, nDn, nCl, zck_nI, zdv_nI, nNeg, nLe0, n0Lt, nEq0, nM1, m1N, m1Lt, nLm1, zcb_0, zcb_1, i10, i01, nEq1, n1Eq, nLt1, gI_eq, gI_nb, gI_na, x_badF, x_badT1, x_badT2, bt_0, bt_1, bit1_u, Bool.true_eq_false, Bool.false_eq_true, eq_self, Int32.or_zero, L_11, L_14, L_15, L_16, L_17, L_18, L_19, L_21, L_22, L_23, L_28, L_29, if_pos, if_neg]
  unfold sCol
  by_cases e : so = 0
  · rw [if_pos e, if_pos e, key s (by omega), show s + 1 - s = 1 by omega]
    show some (0 ||| sSee (P 0) (P 7) (Xr D) (Yr D) b (nI s)) = _
    rw [Int32.zero_or]
  · rw [if_neg e, if_neg e]
    exact key 0 (by omega)
end M62
