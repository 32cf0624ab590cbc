/-! THE MATHEMATICS: small looks, the plain loops over signs and covers -/
theorem zfu_gt {n : Nat} (h : n ≤ 1000000) : n < zFU := by unfold zFU; omega
section M50
variable {D : zD} {a : Nat} {ns nw nc : Nat}
theorem v_has (h : gI D a 2 = nI ns) {s : Nat} (hs : s < ns) (hn : ns ≤ 12) : fn_X0_has a (nI s) D = some 1 := by
  unfold fn_X0_has
  rw [h]
  simp (disch := omega) only [Option.bind_some, Option.map_some, zlet_eq, ↓reduceIte, L_2, L_3, L_4, L_5, L_6, L_7, L_8, L_9, L_10, L_12, L_13, L_20, L_24, L_25, L_26, L_27, L_30, L_32, L_33, L_34, L_40, L_48, L_57, L_58, L_60, L_64, L_90, L_93, L_97, L_99, L_100, L_122, L_144, L_255, L_364, L_480, L_500, L_800, L_1000, L_100000, L_4096, L_1023, L_1024, nLe, nLt, nEq, nI_1, nI_add, pk_mul, nSn, nDn, nCl, zck_nI, zdv_nI, nNeg, nLe0, n0Lt, nEq0, nM1, m1N, m1Lt, nLm1, zcb_0, zcb_1, i10, i01, nEq1, n1Eq, nLt1, gI_eq, gI_nb, gI_na, x_badF, x_badT1, x_badT2, bt_0, bt_1, bit1_u, Bool.true_eq_false, Bool.false_eq_true, eq_self, Int32.or_zero, if_pos, if_neg]
theorem v_paint (h : gI D a 2 = nI ns) {s : Nat} (hs : s < ns) (hn : ns ≤ 12) : fn_X0_paintOf a (nI s) D = some (gI D (a + 1) s) := by
  unfold fn_X0_paintOf
  rw [v_has h hs hn]
  simp (disch := omega) only [Option.bind_some, Option.map_some, zlet_eq, ↓reduceIte, L_2, L_3, L_4, L_5, L_6, L_7, L_8, L_9, L_10, L_12, L_13, L_20, L_24, L_25, L_26, L_27, L_30, L_32, L_33, L_34, L_40, L_48, L_57, L_58, L_60, L_64, L_90, L_93, L_97, L_99, L_100, L_122, L_144, L_255, L_364, L_480, L_500, L_800, L_1000, L_100000, L_4096, L_1023, L_1024, nLe, nLt, nEq, nI_1, nI_add, pk_mul, nSn, nDn, nCl, zck_nI, zdv_nI, nNeg, nLe0, n0Lt, nEq0, nM1, m1N, m1Lt, nLm1, zcb_0, zcb_1, i10, i01, nEq1, n1Eq, nLt1, gI_eq, gI_nb, gI_na, x_badF, x_badT1, x_badT2, bt_0, bt_1, bit1_u, Bool.true_eq_false, Bool.false_eq_true, eq_self, Int32.or_zero]
theorem v_fam (h : gI D a 2 = nI ns) {s : Nat} (hs : s < ns) (hn : ns ≤ 12) : fn_X0_familyOf a (nI s) D = some (gI D (a + 2) s) := by
  unfold fn_X0_familyOf
  rw [v_has h hs hn]
  simp (disch := omega) only [Option.bind_some, Option.map_some, zlet_eq, ↓reduceIte, L_2, L_3, L_4, L_5, L_6, L_7, L_8, L_9, L_10, L_12, L_13, L_20, L_24, L_25, L_26, L_27, L_30, L_32, L_33, L_34, L_40, L_48, L_57, L_58, L_60, L_64, L_90, L_93, L_97, L_99, L_100, L_122, L_144, L_255, L_364, L_480, L_500, L_800, L_1000, L_100000, L_4096, L_1023, L_1024, nLe, nLt, nEq, nI_1, nI_add, pk_mul, nSn, nDn, nCl, zck_nI, zdv_nI, nNeg, nLe0, n0Lt, nEq0, nM1, m1N, m1Lt, nLm1, zcb_0, zcb_1, i10, i01, nEq1, n1Eq, nLt1, gI_eq, gI_nb, gI_na, x_badF, x_badT1, x_badT2, bt_0, bt_1, bit1_u, Bool.true_eq_false, Bool.false_eq_true, eq_self, Int32.or_zero]
theorem v_len (h : gI D a 3 = nI nw) {k : Nat} (hk : k < nw) (hn : nw ≤ 8) : fn_X0_lengthOf a (nI k) D = some (gI D (a + 4) k) := by
  unfold fn_X0_lengthOf
  rw [h]
  simp (disch := omega) only [Option.bind_some, Option.map_some, zlet_eq, ↓reduceIte, L_2, L_3, L_4, L_5, L_6, L_7, L_8, L_9, L_10, L_12, L_13, L_20, L_24, L_25, L_26, L_27, L_30, L_32, L_33, L_34, L_40, L_48, L_57, L_58, L_60, L_64, L_90, L_93, L_97, L_99, L_100, L_122, L_144, L_255, L_364, L_480, L_500, L_800, L_1000, L_100000, L_4096, L_1023, L_1024, nLe, nLt, nEq, nI_1, nI_add, pk_mul, nSn, nDn, nCl, zck_nI, zdv_nI, nNeg, nLe0, n0Lt, nEq0, nM1, m1N, m1Lt, nLm1, zcb_0, zcb_1, i10, i01, nEq1, n1Eq, nLt1, gI_eq, gI_nb, gI_na, x_badF, x_badT1, x_badT2, bt_0, bt_1, bit1_u, Bool.true_eq_false, Bool.false_eq_true, eq_self, Int32.or_zero, if_pos, if_neg]
theorem v_let (h : gI D a 3 = nI nw) {k i l : Nat} (hk : k < nw) (hn : nw ≤ 8) (hl : gI D (a + 4) k = nI l) (hi : i < l) (hl6 : l ≤ 6) : fn_X0_letterOf a (nI k) (nI i) D = some (gI D (a + 3) (k * 6 + i)) := by
  unfold fn_X0_letterOf
  rw [v_len h hk hn, hl]
  simp (disch := omega) only [Option.bind_some, Option.map_some, zlet_eq, ↓reduceIte, L_2, L_3, L_4, L_5, L_6, L_7, L_8, L_9, L_10, L_12, L_13, L_20, L_24, L_25, L_26, L_27, L_30, L_32, L_33, L_34, L_40, L_48, L_57, L_58, L_60, L_64, L_90, L_93, L_97, L_99, L_100, L_122, L_144, L_255, L_364, L_480, L_500, L_800, L_1000, L_100000, L_4096, L_1023, L_1024, nLe, nLt, nEq, nI_1, nI_add, pk_mul, nSn, nDn, nCl, zck_nI, zdv_nI, nNeg, nLe0, n0Lt, nEq0, nM1, m1N, m1Lt, nLm1, zcb_0, zcb_1, i10, i01, nEq1, n1Eq, nLt1, gI_eq, gI_nb, gI_na, x_badF, x_badT1, x_badT2, bt_0, bt_1, bit1_u, Bool.true_eq_false, Bool.false_eq_true, eq_self, Int32.or_zero, if_pos, if_neg]
theorem v_let2 (h : gI D a 3 = nI nw) {k i l : Nat} (hk : k < nw) (hn : nw ≤ 8) (hl : gI D (a + 4) k = nI l) (hi : l ≤ i) (hl6 : l ≤ 6) (hi6 : i < 100) : fn_X0_letterOf a (nI k) (nI i) D = some (-1) := by
  unfold fn_X0_letterOf
  rw [v_len h hk hn, hl]
  simp (disch := omega) only [Option.bind_some, Option.map_some, zlet_eq, ↓reduceIte, L_2, L_3, L_4, L_5, L_6, L_7, L_8, L_9, L_10, L_12, L_13, L_20, L_24, L_25, L_26, L_27, L_30, L_32, L_33, L_34, L_40, L_48, L_57, L_58, L_60, L_64, L_90, L_93, L_97, L_99, L_100, L_122, L_144, L_255, L_364, L_480, L_500, L_800, L_1000, L_100000, L_4096, L_1023, L_1024, nLe, nLt, nEq, nI_1, nI_add, pk_mul, nSn, nDn, nCl, zck_nI, zdv_nI, nNeg, nLe0, n0Lt, nEq0, nM1, m1N, m1Lt, nLm1, zcb_0, zcb_1, i10, i01, nEq1, n1Eq, nLt1, gI_eq, gI_nb, gI_na, x_badF, x_badT1, x_badT2, bt_0, bt_1, bit1_u, Bool.true_eq_false, Bool.false_eq_true, eq_self, Int32.or_zero, if_pos, if_neg]
theorem v_at (h : gI D a 1 = nI nc) {k : Nat} (hk : k < nc) (hn : nc ≤ 500) : fn_X3_at a (nI k) D = some (gI D (a + 1) k) := by
  unfold fn_X3_at
  rw [h]
  simp (disch := omega) only [Option.bind_some, Option.map_some, zlet_eq, ↓reduceIte, L_2, L_3, L_4, L_5, L_6, L_7, L_8, L_9, L_10, L_12, L_13, L_20, L_24, L_25, L_26, L_27, L_30, L_32, L_33, L_34, L_40, L_48, L_57, L_58, L_60, L_64, L_90, L_93, L_97, L_99, L_100, L_122, L_144, L_255, L_364, L_480, L_500, L_800, L_1000, L_100000, L_4096, L_1023, L_1024, nLe, nLt, nEq, nI_1, nI_add, pk_mul, nSn, nDn, nCl, zck_nI, zdv_nI, nNeg, nLe0, n0Lt, nEq0, nM1, m1N, m1Lt, nLm1, zcb_0, zcb_1, i10, i01, nEq1, n1Eq, nLt1, gI_eq, gI_nb, gI_na, x_badF, x_badT1, x_badT2, bt_0, bt_1, bit1_u, Bool.true_eq_false, Bool.false_eq_true, eq_self, Int32.or_zero, if_pos, if_neg]
theorem x_in (v lo hi : Int32) : fn_X12_in v lo hi = some (if v < lo then 0 else if hi < v then 0 else 1) := by
  unfold fn_X12_in
  split
  · rfl
  · split <;> rfl
/-- the signs that a part may be -/
def sMay (ns : Nat) (pt : Nat → Int32) (hid p : Int32) (d : Nat) : Int32 := zfo (fun k b => if d < pc ((p ^^^ pt k) &&& (hid ^^^ -1)) then b else b ||| bit1 k) ns 0 0
theorem sMay_cong {pt qt : Nat → Int32} {hid p : Int32} {d : Nat} (h : ∀ s, s < ns → pt s = qt s) : sMay ns pt hid p d = sMay ns qt hid p d := zfo_cong fun k s _ h2 => by simp only [h k (by omega)]
theorem c_within (h : gI D a 2 = nI ns) (hn : ns ≤ 12) (hid p : Int32) {d : Nat} (hd : d < 100) : fn_X0_within a hid p (nI d) D = some (sMay ns (gI D (a + 1)) hid p d) := by
  refine z_for ns (fun n i b => fn_X0_within_6 a hid p (nI d) D n b (nI i)) (fun k b => if d < pc ((p ^^^ gI D (a + 1) k) &&& (hid ^^^ -1)) then b else b ||| bit1 k) some ?_ ?_ 0 zFU 0 (Nat.zero_le _) (zfu_gt (by omega))
  · intro n i b hi
    have hb := pc_le ((p ^^^ gI D (a + 1) i) &&& (hid ^^^ -1))
    show fn_X0_within_6 a hid p (nI d) D (n + 1) b (nI i) = fn_X0_within_6 a hid p (nI d) D n _ (nI (i + 1))
    rw [fn_X0_within_6, h, v_paint h hi hn]
    simp (disch := omega) only [Option.bind_some, Option.map_some, zlet_eq, ↓reduceIte, L_2, L_3, L_4, L_5, L_6, L_7, L_8, L_9, L_10, L_12, L_13, L_20, L_24, L_25, L_26, L_27, L_30, L_32, L_33, L_34, L_40, L_48, L_57, L_58, L_60, L_64, L_90, L_93, L_97, L_99, L_100, L_122, L_144, L_255, L_364, L_480, L_500, L_800, L_1000, L_100000, L_4096, L_1023, L_1024, nLe, nLt, nEq, nI_1, nI_add, pk_mul, nSn, nDn, nCl, zck_nI, zdv_nI, nNeg, nLe0, n0Lt, nEq0, nM1, m1N, m1Lt, nLm1, zcb_0, zcb_1, i10, i01, nEq1, n1Eq, nLt1, gI_eq, gI_nb, gI_na, x_badF, x_badT1, x_badT2, bt_0, bt_1, bit1_u, Bool.true_eq_false, Bool.false_eq_true, eq_self, Int32.or_zero, if_pos, if_neg, pc_bit]
    split <;> rfl
  · intro n b
    show fn_X0_within_6 a hid p (nI d) D (n + 1) b (nI ns) = _
    rw [fn_X0_within_6, h]
    simp (disch := omega) only [Option.bind_some, Option.map_some, zlet_eq, ↓reduceIte, L_2, L_3, L_4, L_5, L_6, L_7, L_8, L_9, L_10, L_12, L_13, L_20, L_24, L_25, L_26, L_27, L_30, L_32, L_33, L_34, L_40, L_48, L_57, L_58, L_60, L_64, L_90, L_93, L_97, L_99, L_100, L_122, L_144, L_255, L_364, L_480, L_500, L_800, L_1000, L_100000, L_4096, L_1023, L_1024, nLe, nLt, nEq, nI_1, nI_add, pk_mul, nSn, nDn, nCl, zck_nI, zdv_nI, nNeg, nLe0, n0Lt, nEq0, nM1, m1N, m1Lt, nLm1, zcb_0, zcb_1, i10, i01, nEq1, n1Eq, nLt1, gI_eq, gI_nb, gI_na, x_badF, x_badT1, x_badT2, bt_0, bt_1, bit1_u, Bool.true_eq_false, Bool.false_eq_true, eq_self, Int32.or_zero, if_pos, if_neg]
theorem r_mayBe (h : gI D 102 16 = nI ns) (hn : ns ≤ 12) {d : Nat} (hd : d < 100) (h34 : gI D 102 34 = nI d) (hid p : Int32) : fn_X12_mayBe hid p D = some (sMay ns (gI D 105) hid p d) := by
  refine z_for ns (fun n i b => fn_X12_mayBe_5 hid p D n b (nI i)) (fun k b => if d < pc ((p ^^^ gI D 105 k) &&& (hid ^^^ -1)) then b else b ||| bit1 k) some ?_ ?_ 0 zFU 0 (Nat.zero_le _) (zfu_gt (by omega))
  · intro n i b hi
    have hb := pc_le ((p ^^^ gI D 105 i) &&& (hid ^^^ -1))
    show fn_X12_mayBe_5 hid p D (n + 1) b (nI i) = fn_X12_mayBe_5 hid p D n _ (nI (i + 1))
    rw [fn_X12_mayBe_5, h, h34]
    simp (disch := omega) only [Option.bind_some, Option.map_some, zlet_eq, ↓reduceIte, L_2, L_3, L_4, L_5, L_6, L_7, L_8, L_9, L_10, L_12, L_13, L_20, L_24, L_25, L_26, L_27, L_30, L_32, L_33, L_34, L_40, L_48, L_57, L_58, L_60, L_64, L_90, L_93, L_97, L_99, L_100, L_122, L_144, L_255, L_364, L_480, L_500, L_800, L_1000, L_100000, L_4096, L_1023, L_1024, nLe, nLt, nEq, nI_1, nI_add, pk_mul, nSn, nDn, nCl, zck_nI, zdv_nI, nNeg, nLe0, n0Lt, nEq0, nM1, m1N, m1Lt, nLm1, zcb_0, zcb_1, i10, i01, nEq1, n1Eq, nLt1, gI_eq, gI_nb, gI_na, x_badF, x_badT1, x_badT2, bt_0, bt_1, bit1_u, Bool.true_eq_false, Bool.false_eq_true, eq_self, Int32.or_zero, if_pos, if_neg, z_ones, Int32.xor_comm (gI D 105 i) p, Int32.or_zero]
    split <;> rfl
  · intro n b
    show fn_X12_mayBe_5 hid p D (n + 1) b (nI ns) = _
    rw [fn_X12_mayBe_5, h]
    simp (disch := omega) only [Option.bind_some, Option.map_some, zlet_eq, ↓reduceIte, L_2, L_3, L_4, L_5, L_6, L_7, L_8, L_9, L_10, L_12, L_13, L_20, L_24, L_25, L_26, L_27, L_30, L_32, L_33, L_34, L_40, L_48, L_57, L_58, L_60, L_64, L_90, L_93, L_97, L_99, L_100, L_122, L_144, L_255, L_364, L_480, L_500, L_800, L_1000, L_100000, L_4096, L_1023, L_1024, nLe, nLt, nEq, nI_1, nI_add, pk_mul, nSn, nDn, nCl, zck_nI, zdv_nI, nNeg, nLe0, n0Lt, nEq0, nM1, m1N, m1Lt, nLm1, zcb_0, zcb_1, i10, i01, nEq1, n1Eq, nLt1, gI_eq, gI_nb, gI_na, x_badF, x_badT1, x_badT2, bt_0, bt_1, bit1_u, Bool.true_eq_false, Bool.false_eq_true, eq_self, Int32.or_zero, if_pos, if_neg]
/-- the first cover that mixes; -1 -/
def sFi (nc : Nat) (cv : Nat → Int32) (e : Nat) (x : Int32) : Int32 := if zff (fun k => decide (pc (x &&& (cv k ^^^ -1)) ≤ e)) nc 0 < nc then nI (zff (fun k => decide (pc (x &&& (cv k ^^^ -1)) ≤ e)) nc 0) else -1
theorem sFi_cong {cv cw : Nat → Int32} {e : Nat} {x : Int32} (h : ∀ k, k < nc → cv k = cw k) : sFi nc cv e x = sFi nc cw e x := by
  unfold sFi
  rw [zff_cong fun k _ h2 => by rw [h k (by omega)]]
theorem c_first (h : gI D a 1 = nI nc) (hn : nc ≤ 500) (x : Int32) {e : Nat} (he : e < 100) : fn_X3_firstMixing a x (nI e) D = some (sFi nc (gI D (a + 1)) e x) := by
  have := z_find nc (fun n i => fn_X3_firstMixing_2 a x (nI e) D n (nI i)) (fun k => decide (pc (x &&& (gI D (a + 1) k ^^^ -1)) ≤ e)) (fun k => some (nI k)) (some (-1)) ?_ ?_ 0 zFU (Nat.zero_le _) (zfu_gt (by omega))
  · refine Eq.trans this ?_
    unfold sFi
    rw [Nat.sub_zero]
    split <;> rfl
  · intro n i hi
    have hb := pc_le (x &&& (gI D (a + 1) i ^^^ -1))
    show fn_X3_firstMixing_2 a x (nI e) D (n + 1) (nI i) = if _ then _ else fn_X3_firstMixing_2 a x (nI e) D n (nI (i + 1))
    rw [fn_X3_firstMixing_2, h]
    by_cases c : pc (x &&& (gI D (a + 1) i ^^^ -1)) ≤ e
    · simp (disch := omega) only [Option.bind_some, Option.map_some, zlet_eq, ↓reduceIte, L_2, L_3, L_4, L_5, L_6, L_7, L_8, L_9, L_10, L_12, L_13, L_20, L_24, L_25, L_26, L_27, L_30, L_32, L_33, L_34, L_40, L_48, L_57, L_58, L_60, L_64, L_90, L_93, L_97, L_99, L_100, L_122, L_144, L_255, L_364, L_480, L_500, L_800, L_1000, L_100000, L_4096, L_1023, L_1024, nLe, nLt, nEq, nI_1, nI_add, pk_mul, nSn, nDn, nCl, zck_nI, zdv_nI, nNeg, nLe0, n0Lt, nEq0, nM1, m1N, m1Lt, nLm1, zcb_0, zcb_1, i10, i01, nEq1, n1Eq, nLt1, gI_eq, gI_nb, gI_na, x_badF, x_badT1, x_badT2, bt_0, bt_1, bit1_u, Bool.true_eq_false, Bool.false_eq_true, eq_self, Int32.or_zero, if_pos, if_neg, pc_bit, decide_eq_true_eq]
    · simp (disch := omega) only [Option.bind_some, Option.map_some, zlet_eq, ↓reduceIte, L_2, L_3, L_4, L_5, L_6, L_7, L_8, L_9, L_10, L_12, L_13, L_20, L_24, L_25, L_26, L_27, L_30, L_32, L_33, L_34, L_40, L_48, L_57, L_58, L_60, L_64, L_90, L_93, L_97, L_99, L_100, L_122, L_144, L_255, L_364, L_480, L_500, L_800, L_1000, L_100000, L_4096, L_1023, L_1024, nLe, nLt, nEq, nI_1, nI_add, pk_mul, nSn, nDn, nCl, zck_nI, zdv_nI, nNeg, nLe0, n0Lt, nEq0, nM1, m1N, m1Lt, nLm1, zcb_0, zcb_1, i10, i01, nEq1, n1Eq, nLt1, gI_eq, gI_nb, gI_na, x_badF, x_badT1, x_badT2, bt_0, bt_1, bit1_u, Bool.true_eq_false, Bool.false_eq_true, eq_self, Int32.or_zero, if_pos, if_neg, pc_bit, decide_eq_true_eq]
  · intro n
    show fn_X3_firstMixing_2 a x (nI e) D (n + 1) (nI nc) = _
    rw [fn_X3_firstMixing_2, h]
    simp (disch := omega) only [Option.bind_some, Option.map_some, zlet_eq, ↓reduceIte, L_2, L_3, L_4, L_5, L_6, L_7, L_8, L_9, L_10, L_12, L_13, L_20, L_24, L_25, L_26, L_27, L_30, L_32, L_33, L_34, L_40, L_48, L_57, L_58, L_60, L_64, L_90, L_93, L_97, L_99, L_100, L_122, L_144, L_255, L_364, L_480, L_500, L_800, L_1000, L_100000, L_4096, L_1023, L_1024, nLe, nLt, nEq, nI_1, nI_add, pk_mul, nSn, nDn, nCl, zck_nI, zdv_nI, nNeg, nLe0, n0Lt, nEq0, nM1, m1N, m1Lt, nLm1, zcb_0, zcb_1, i10, i01, nEq1, n1Eq, nLt1, gI_eq, gI_nb, gI_na, x_badF, x_badT1, x_badT2, bt_0, bt_1, bit1_u, Bool.true_eq_false, Bool.false_eq_true, eq_self, Int32.or_zero, if_pos, if_neg]
theorem r_first (h : gI D 102 26 = nI nc) (hn : nc ≤ 500) (x y : Int32) {d : Nat} (hd : d < 50) (h34 : gI D 102 34 = nI d) : fn_X12_firstCover x y D = some (sFi nc (gI D 128) (2 * d) (x ^^^ y)) := by
  have := z_find nc (fun n i => fn_X12_firstCover_2 x y D n (nI i)) (fun k => decide (pc ((x ^^^ y) &&& (gI D 128 k ^^^ -1)) ≤ 2 * d)) (fun k => some (nI k)) (some (-1)) ?_ ?_ 0 zFU (Nat.zero_le _) (zfu_gt (by omega))
  · refine Eq.trans this ?_
    unfold sFi
    rw [Nat.sub_zero]
    split <;> rfl
  · intro n i hi
    have hb := pc_le ((x ^^^ y) &&& (gI D 128 i ^^^ -1))
    show fn_X12_firstCover_2 x y D (n + 1) (nI i) = if _ then _ else fn_X12_firstCover_2 x y D n (nI (i + 1))
    rw [fn_X12_firstCover_2, h, h34]
    by_cases c : pc ((x ^^^ y) &&& (gI D 128 i ^^^ -1)) ≤ 2 * d
    · simp (disch := omega) only [Option.bind_some, Option.map_some, zlet_eq, ↓reduceIte, L_2, L_3, L_4, L_5, L_6, L_7, L_8, L_9, L_10, L_12, L_13, L_20, L_24, L_25, L_26, L_27, L_30, L_32, L_33, L_34, L_40, L_48, L_57, L_58, L_60, L_64, L_90, L_93, L_97, L_99, L_100, L_122, L_144, L_255, L_364, L_480, L_500, L_800, L_1000, L_100000, L_4096, L_1023, L_1024, nLe, nLt, nEq, nI_1, nI_add, pk_mul, nSn, nDn, nCl, zck_nI, zdv_nI, nNeg, nLe0, n0Lt, nEq0, nM1, m1N, m1Lt, nLm1, zcb_0, zcb_1, i10, i01, nEq1, n1Eq, nLt1, gI_eq, gI_nb, gI_na, x_badF, x_badT1, x_badT2, bt_0, bt_1, bit1_u, Bool.true_eq_false, Bool.false_eq_true, eq_self, Int32.or_zero, if_pos, if_neg, z_ones, decide_eq_true_eq]
    · simp (disch := omega) only [Option.bind_some, Option.map_some, zlet_eq, ↓reduceIte, L_2, L_3, L_4, L_5, L_6, L_7, L_8, L_9, L_10, L_12, L_13, L_20, L_24, L_25, L_26, L_27, L_30, L_32, L_33, L_34, L_40, L_48, L_57, L_58, L_60, L_64, L_90, L_93, L_97, L_99, L_100, L_122, L_144, L_255, L_364, L_480, L_500, L_800, L_1000, L_100000, L_4096, L_1023, L_1024, nLe, nLt, nEq, nI_1, nI_add, pk_mul, nSn, nDn, nCl, zck_nI, zdv_nI, nNeg, nLe0, n0Lt, nEq0, nM1, m1N, m1Lt, nLm1, zcb_0, zcb_1, i10, i01, nEq1, n1Eq, nLt1, gI_eq, gI_nb, gI_na, x_badF, x_badT1, x_badT2, bt_0, bt_1, bit1_u, Bool.true_eq_false, Bool.false_eq_true, eq_self, Int32.or_zero, if_pos, if_neg, z_ones, decide_eq_true_eq]
  · intro n
    show fn_X12_firstCover_2 x y D (n + 1) (nI nc) = _
    rw [fn_X12_firstCover_2, h]
    simp (disch := omega) only [Option.bind_some, Option.map_some, zlet_eq, ↓reduceIte, L_2, L_3, L_4, L_5, L_6, L_7, L_8, L_9, L_10, L_12, L_13, L_20, L_24, L_25, L_26, L_27, L_30, L_32, L_33, L_34, L_40, L_48, L_57, L_58, L_60, L_64, L_90, L_93, L_97, L_99, L_100, L_122, L_144, L_255, L_364, L_480, L_500, L_800, L_1000, L_100000, L_4096, L_1023, L_1024, nLe, nLt, nEq, nI_1, nI_add, pk_mul, nSn, nDn, nCl, zck_nI, zdv_nI, nNeg, nLe0, n0Lt, nEq0, nM1, m1N, m1Lt, nLm1, zcb_0, zcb_1, i10, i01, nEq1, n1Eq, nLt1, gI_eq, gI_nb, gI_na, x_badF, x_badT1, x_badT2, bt_0, bt_1, bit1_u, Bool.true_eq_false, Bool.false_eq_true, eq_self, Int32.or_zero, if_pos, if_neg]
/-- the nearest sign -/
def sNear (ns : Nat) (pt : Nat → Int32) (hid p : Int32) : Int32 := (zfo (fun k (b : Int32 × Nat) => if pc ((p ^^^ pt k) &&& (hid ^^^ -1)) < b.2 then (nI k, pc ((p ^^^ pt k) &&& (hid ^^^ -1))) else b) ns 0 (-1, 33)).1
theorem sNear_cong {pt qt : Nat → Int32} {hid p : Int32} (h : ∀ s, s < ns → pt s = qt s) : sNear ns pt hid p = sNear ns qt hid p := congrArg Prod.fst (zfo_cong fun k s _ h2 => by simp only [h k (by omega)])
end M50
