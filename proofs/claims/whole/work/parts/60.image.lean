/-! THE MATHEMATICS: images; the tape fed -/
theorem zcp_n {α : Type} {n N : Nat} {a : Option α} (h : n ≤ N) (hN : N < 2147483648) : zcp 0 0 (nI n) N N a = a := by
  unfold zcp
  rw [if_pos]
  rw [nI_clamp (by omega)]
  exact ⟨⟨by decide, by decide, nI_pos (by omega)⟩, by show 0 + n ≤ N; omega, by show 0 + n ≤ N; omega⟩
theorem cl0 : (0 : Int32).toNatClampNeg = 0 := rfl
theorem sC_eq0 {D : zD} {k0 k1 n b : Nat} (h : b < n) : gI (sC D k0 k1 0 0 n) k1 b = gI D k0 b := by rw [sC_eq, if_pos h]
theorem c_copyScene {D : zD} {o s : Nat} (h : s + 5 < o ∨ o + 5 < s) : zok (fn_X9_copyFrom o s D) fun F => (gI F o 0 = gI D s 0 ∧ gI F o 1 = gI D s 1 ∧ gI F o 2 = gI D s 2) ∧ (∀ k, k < 6 → gI F (o + 1) k = gI D (s + 1) k ∧ gI F (o + 2) k = gI D (s + 2) k) ∧ (∀ k, k < 8 → gI F (o + 3) k = gI D (s + 3) k ∧ gI F (o + 4) k = gI D (s + 4) k ∧ gI F (o + 5) k = gI D (s + 5) k) ∧ ∀ a b, (a < o ∨ o + 5 < a) → gI F a b = gI D a b := by
  unfold fn_X9_copyFrom
  simp (disch := omega) only [Option.bind_some, Option.map_some, zlet_eq, ↓reduceIte, L_2, L_3, L_4, L_5, L_6, L_7, L_8, L_9, L_10, L_12, L_13, L_20, L_24, L_25, L_26, L_27, L_30, L_32, L_33, L_34, L_40, L_48, L_57, L_58, L_60, L_64, L_90, L_93, L_97, L_99, L_100, L_122, L_144, L_255, L_364, L_480, L_500, L_800, L_1000, L_100000, L_4096, L_1023, L_1024, nLe, nLt, nEq, nI_1, nI_add, pk_mul, nSn, nDn, nCl, zck_nI, zdv_nI, nNeg, nLe0, n0Lt, nEq0, nM1, m1N, m1Lt, nLm1, zcb_0, zcb_1, i10, i01, nEq1, n1Eq, nLt1, gI_eq, gI_nb, gI_na, x_badF, x_badT1, x_badT2, bt_0, bt_1, bit1_u, Bool.true_eq_false, Bool.false_eq_true, eq_self, Int32.or_zero, if_pos, if_neg, zcp_n, cl0, zok_some]
  refine ⟨⟨?_, ?_, ?_⟩, fun k hk => ⟨?_, ?_⟩, fun k hk => ⟨?_, ?_, ?_⟩, fun a b hab => ?_⟩
  · simp (disch := omega) only [Option.bind_some, Option.map_some, zlet_eq, ↓reduceIte, L_2, L_3, L_4, L_5, L_6, L_7, L_8, L_9, L_10, L_12, L_13, L_20, L_24, L_25, L_26, L_27, L_30, L_32, L_33, L_34, L_40, L_48, L_57, L_58, L_60, L_64, L_90, L_93, L_97, L_99, L_100, L_122, L_144, L_255, L_364, L_480, L_500, L_800, L_1000, L_100000, L_4096, L_1023, L_1024, nLe, nLt, nEq, nI_1, nI_add, pk_mul, nSn, nDn, nCl, zck_nI, zdv_nI, nNeg, nLe0, n0Lt, nEq0, nM1, m1N, m1Lt, nLm1, zcb_0, zcb_1, i10, i01, nEq1, n1Eq, nLt1, gI_eq, gI_nb, gI_na, x_badF, x_badT1, x_badT2, bt_0, bt_1, bit1_u, Bool.true_eq_false, Bool.false_eq_true, eq_self, Int32.or_zero, if_pos, if_neg, sC_na]
  · simp (disch := omega) only [Option.bind_some, Option.map_some, zlet_eq, ↓reduceIte, L_2, L_3, L_4, L_5, L_6, L_7, L_8, L_9, L_10, L_12, L_13, L_20, L_24, L_25, L_26, L_27, L_30, L_32, L_33, L_34, L_40, L_48, L_57, L_58, L_60, L_64, L_90, L_93, L_97, L_99, L_100, L_122, L_144, L_255, L_364, L_480, L_500, L_800, L_1000, L_100000, L_4096, L_1023, L_1024, nLe, nLt, nEq, nI_1, nI_add, pk_mul, nSn, nDn, nCl, zck_nI, zdv_nI, nNeg, nLe0, n0Lt, nEq0, nM1, m1N, m1Lt, nLm1, zcb_0, zcb_1, i10, i01, nEq1, n1Eq, nLt1, gI_eq, gI_nb, gI_na, x_badF, x_badT1, x_badT2, bt_0, bt_1, bit1_u, Bool.true_eq_false, Bool.false_eq_true, eq_self, Int32.or_zero, if_pos, if_neg, sC_na]
  · simp (disch := omega) only [Option.bind_some, Option.map_some, zlet_eq, ↓reduceIte, L_2, L_3, L_4, L_5, L_6, L_7, L_8, L_9, L_10, L_12, L_13, L_20, L_24, L_25, L_26, L_27, L_30, L_32, L_33, L_34, L_40, L_48, L_57, L_58, L_60, L_64, L_90, L_93, L_97, L_99, L_100, L_122, L_144, L_255, L_364, L_480, L_500, L_800, L_1000, L_100000, L_4096, L_1023, L_1024, nLe, nLt, nEq, nI_1, nI_add, pk_mul, nSn, nDn, nCl, zck_nI, zdv_nI, nNeg, nLe0, n0Lt, nEq0, nM1, m1N, m1Lt, nLm1, zcb_0, zcb_1, i10, i01, nEq1, n1Eq, nLt1, gI_eq, gI_nb, gI_na, x_badF, x_badT1, x_badT2, bt_0, bt_1, bit1_u, Bool.true_eq_false, Bool.false_eq_true, eq_self, Int32.or_zero, if_pos, if_neg, sC_na]
  · simp (disch := omega) only [Option.bind_some, Option.map_some, zlet_eq, ↓reduceIte, L_2, L_3, L_4, L_5, L_6, L_7, L_8, L_9, L_10, L_12, L_13, L_20, L_24, L_25, L_26, L_27, L_30, L_32, L_33, L_34, L_40, L_48, L_57, L_58, L_60, L_64, L_90, L_93, L_97, L_99, L_100, L_122, L_144, L_255, L_364, L_480, L_500, L_800, L_1000, L_100000, L_4096, L_1023, L_1024, nLe, nLt, nEq, nI_1, nI_add, pk_mul, nSn, nDn, nCl, zck_nI, zdv_nI, nNeg, nLe0, n0Lt, nEq0, nM1, m1N, m1Lt, nLm1, zcb_0, zcb_1, i10, i01, nEq1, n1Eq, nLt1, gI_eq, gI_nb, gI_na, x_badF, x_badT1, x_badT2, bt_0, bt_1, bit1_u, Bool.true_eq_false, Bool.false_eq_true, eq_self, Int32.or_zero, if_pos, if_neg, sC_na, sC_eq0]
  · simp (disch := omega) only [Option.bind_some, Option.map_some, zlet_eq, ↓reduceIte, L_2, L_3, L_4, L_5, L_6, L_7, L_8, L_9, L_10, L_12, L_13, L_20, L_24, L_25, L_26, L_27, L_30, L_32, L_33, L_34, L_40, L_48, L_57, L_58, L_60, L_64, L_90, L_93, L_97, L_99, L_100, L_122, L_144, L_255, L_364, L_480, L_500, L_800, L_1000, L_100000, L_4096, L_1023, L_1024, nLe, nLt, nEq, nI_1, nI_add, pk_mul, nSn, nDn, nCl, zck_nI, zdv_nI, nNeg, nLe0, n0Lt, nEq0, nM1, m1N, m1Lt, nLm1, zcb_0, zcb_1, i10, i01, nEq1, n1Eq, nLt1, gI_eq, gI_nb, gI_na, x_badF, x_badT1, x_badT2, bt_0, bt_1, bit1_u, Bool.true_eq_false, Bool.false_eq_true, eq_self, Int32.or_zero, if_pos, if_neg, sC_na, sC_eq0]
  · simp (disch := omega) only [Option.bind_some, Option.map_some, zlet_eq, ↓reduceIte, L_2, L_3, L_4, L_5, L_6, L_7, L_8, L_9, L_10, L_12, L_13, L_20, L_24, L_25, L_26, L_27, L_30, L_32, L_33, L_34, L_40, L_48, L_57, L_58, L_60, L_64, L_90, L_93, L_97, L_99, L_100, L_122, L_144, L_255, L_364, L_480, L_500, L_800, L_1000, L_100000, L_4096, L_1023, L_1024, nLe, nLt, nEq, nI_1, nI_add, pk_mul, nSn, nDn, nCl, zck_nI, zdv_nI, nNeg, nLe0, n0Lt, nEq0, nM1, m1N, m1Lt, nLm1, zcb_0, zcb_1, i10, i01, nEq1, n1Eq, nLt1, gI_eq, gI_nb, gI_na, x_badF, x_badT1, x_badT2, bt_0, bt_1, bit1_u, Bool.true_eq_false, Bool.false_eq_true, eq_self, Int32.or_zero, if_pos, if_neg, sC_na, sC_eq0]
  · simp (disch := omega) only [Option.bind_some, Option.map_some, zlet_eq, ↓reduceIte, L_2, L_3, L_4, L_5, L_6, L_7, L_8, L_9, L_10, L_12, L_13, L_20, L_24, L_25, L_26, L_27, L_30, L_32, L_33, L_34, L_40, L_48, L_57, L_58, L_60, L_64, L_90, L_93, L_97, L_99, L_100, L_122, L_144, L_255, L_364, L_480, L_500, L_800, L_1000, L_100000, L_4096, L_1023, L_1024, nLe, nLt, nEq, nI_1, nI_add, pk_mul, nSn, nDn, nCl, zck_nI, zdv_nI, nNeg, nLe0, n0Lt, nEq0, nM1, m1N, m1Lt, nLm1, zcb_0, zcb_1, i10, i01, nEq1, n1Eq, nLt1, gI_eq, gI_nb, gI_na, x_badF, x_badT1, x_badT2, bt_0, bt_1, bit1_u, Bool.true_eq_false, Bool.false_eq_true, eq_self, Int32.or_zero, if_pos, if_neg, sC_na, sC_eq0]
  · simp (disch := omega) only [Option.bind_some, Option.map_some, zlet_eq, ↓reduceIte, L_2, L_3, L_4, L_5, L_6, L_7, L_8, L_9, L_10, L_12, L_13, L_20, L_24, L_25, L_26, L_27, L_30, L_32, L_33, L_34, L_40, L_48, L_57, L_58, L_60, L_64, L_90, L_93, L_97, L_99, L_100, L_122, L_144, L_255, L_364, L_480, L_500, L_800, L_1000, L_100000, L_4096, L_1023, L_1024, nLe, nLt, nEq, nI_1, nI_add, pk_mul, nSn, nDn, nCl, zck_nI, zdv_nI, nNeg, nLe0, n0Lt, nEq0, nM1, m1N, m1Lt, nLm1, zcb_0, zcb_1, i10, i01, nEq1, n1Eq, nLt1, gI_eq, gI_nb, gI_na, x_badF, x_badT1, x_badT2, bt_0, bt_1, bit1_u, Bool.true_eq_false, Bool.false_eq_true, eq_self, Int32.or_zero, if_pos, if_neg, sC_na, sC_eq0]
  · simp (disch := omega) only [Option.bind_some, Option.map_some, zlet_eq, ↓reduceIte, L_2, L_3, L_4, L_5, L_6, L_7, L_8, L_9, L_10, L_12, L_13, L_20, L_24, L_25, L_26, L_27, L_30, L_32, L_33, L_34, L_40, L_48, L_57, L_58, L_60, L_64, L_90, L_93, L_97, L_99, L_100, L_122, L_144, L_255, L_364, L_480, L_500, L_800, L_1000, L_100000, L_4096, L_1023, L_1024, nLe, nLt, nEq, nI_1, nI_add, pk_mul, nSn, nDn, nCl, zck_nI, zdv_nI, nNeg, nLe0, n0Lt, nEq0, nM1, m1N, m1Lt, nLm1, zcb_0, zcb_1, i10, i01, nEq1, n1Eq, nLt1, gI_eq, gI_nb, gI_na, x_badF, x_badT1, x_badT2, bt_0, bt_1, bit1_u, Bool.true_eq_false, Bool.false_eq_true, eq_self, Int32.or_zero, if_pos, if_neg, sC_na]
/-- the places of a scene's numbers at the reference -/
def mA (j : Nat) : Nat := if j < 3 then 102 else if j < 15 then 163 + (j - 3) / 2 else 170 + (j - 15) / 3
def mB (j : Nat) : Nat := if j < 3 then 34 + j else if j < 15 then (j - 3) % 2 else (j - 15) % 3
theorem rS_m (D : zD) (j : Nat) : rS D j = gI D (mA j) (mB j) := by
  unfold rS mA mB
  by_cases h : j < 3
  · rw [if_pos h, if_pos h, if_pos h]
  · by_cases g : j < 15
    · rw [if_neg h, if_neg h, if_neg h, if_pos g, if_pos g, if_pos g]
    · rw [if_neg h, if_neg h, if_neg h, if_neg g, if_neg g, if_neg g]
theorem m_inj {i j : Nat} (hi : i < 39) (hj : j < 39) (hA : mA i = mA j) (hB : mB i = mB j) : i = j := by
  unfold mA at hA
  unfold mB at hB
  repeat' split at hA
  all_goals
    repeat' split at hB
  all_goals omega
theorem m_ne {j : Nat} (hj : j < 39) : (mA j = 102 ∧ 34 ≤ mB j ∧ mB j ≤ 36) ∨ (163 ≤ mA j ∧ mA j ≤ 168) ∨ (170 ≤ mA j ∧ mA j ≤ 177) := by
  unfold mA mB
  split
  · omega
  · split <;> omega
/-- j numbers are moved: V are those that come, W where row a1 has them then -/
def mvI (a1 : Nat) (D0 : zD) (V : Nat → Int32) (j : Nat) (D : zD) : Prop :=
  gI D 102 38 = nI j ∧ (∀ i, i < j → gI D (mA i) (mB i) = V i ∧ gI D a1 i = V i) ∧ (∀ i, j ≤ i → i < 39 → gI D (mA i) (mB i) = gI D0 (mA i) (mB i) ∧ gI D a1 i = gI D0 a1 i) ∧ ∀ a b, a ≠ a1 → ¬ (a = 102 ∧ b = 38) → (∀ i, i < 39 → ¬ (a = mA i ∧ b = mB i)) → gI D a b = gI D0 a b
section M60
variable {D : zD} {P : Nat → Nat}
/-- one number is moved -/
theorem mv_step {a1 j : Nat} {w : Int32} {D0 : zD} {V : Nat → Int32} (ha : 179 ≤ a1) (ha2 : a1 ≤ 181) (hj : j < 39) (hw : (w = 0 ∧ V j = gI D0 (mA j) (mB j)) ∨ (w = 1 ∧ V j = gI D0 a1 j)) (h : mvI a1 D0 V j D) : zok (fn_X12_moves a1 64 (gI D (mA j) (mB j)) w D) fun q => mvI a1 D0 V (j + 1) (sI q.2 (mA j) (mB j) q.1) := by
  obtain ⟨h1, h2, h3, h4⟩ := h
  have hm := m_ne hj
  have h5 := h3 j (by omega) hj
  have key : ∀ F : zD, (∀ a b, ¬ (a = a1 ∧ b = j) → ¬ (a = 102 ∧ b = 38) → gI F a b = gI D a b) → gI F 102 38 = nI (j + 1) → gI F a1 j = V j → mvI a1 D0 V (j + 1) (sI F (mA j) (mB j) (V j)) := by
    intro F f1 f2 f3
    refine ⟨?_, fun i hi => ?_, fun i hi hi2 => ?_, fun a b q1 q2 q3 => ?_⟩
    · by_cases e : mA j = 102
      · rw [e, gI_nb (by omega), f2]
      · rw [gI_na (by omega), f2]
    · have hmi := m_ne (show i < 39 by omega)
      by_cases e : i = j
      · subst e
        exact ⟨gI_eq, by rw [gI_na (by omega), f3]⟩
      · have hne : ¬ (mA i = mA j ∧ mB i = mB j) := fun q => e (m_inj (by omega) hj q.1 q.2)
        refine ⟨?_, ?_⟩
        · rw [show gI (sI F (mA j) (mB j) (V j)) (mA i) (mB i) = gI F (mA i) (mB i) from if_neg hne, f1 _ _ (by omega) (by omega)]
          exact (h2 i (by omega)).1
        · rw [gI_na (by omega), f1 _ _ (by omega) (by omega)]
          exact (h2 i (by omega)).2
    · have hmi := m_ne hi2
      have hne : ¬ (mA i = mA j ∧ mB i = mB j) := fun q => by have := m_inj hi2 hj q.1 q.2; omega
      refine ⟨?_, ?_⟩
      · rw [show gI (sI F (mA j) (mB j) (V j)) (mA i) (mB i) = gI F (mA i) (mB i) from if_neg hne, f1 _ _ (by omega) (by omega)]
        exact (h3 i (by omega) hi2).1
      · rw [gI_na (by omega), f1 _ _ (by omega) (by omega)]
        exact (h3 i (by omega) hi2).2
    · rw [show gI (sI F (mA j) (mB j) (V j)) a b = gI F a b from if_neg (q3 j hj), f1 _ _ (by omega) q2]
      exact h4 a b q1 q2 q3
  unfold fn_X12_moves fn_X12_moves_11
  rcases hw with ⟨rfl, hv⟩ | ⟨rfl, hv⟩
  · rw [if_pos rfl, h1]
    simp (disch := omega) only [Option.bind_some, Option.map_some, zlet_eq, ↓reduceIte, L_2, L_3, L_4, L_5, L_6, L_7, L_8, L_9, L_10, L_12, L_13, L_20, L_24, L_25, L_26, L_27, L_30, L_32, L_33, L_34, L_40, L_48, L_57, L_58, L_60, L_64, L_90, L_93, L_97, L_99, L_100, L_122, L_144, L_255, L_364, L_480, L_500, L_800, L_1000, L_100000, L_4096, L_1023, L_1024, nLe, nLt, nEq, nI_1, nI_add, pk_mul, nSn, nDn, nCl, zck_nI, zdv_nI, nNeg, nLe0, n0Lt, nEq0, nM1, m1N, m1Lt, nLm1, zcb_0, zcb_1, i10, i01, nEq1, n1Eq, nLt1, gI_eq, gI_nb, gI_na, x_badF, x_badT1, x_badT2, bt_0, bt_1, bit1_u, Bool.true_eq_false, Bool.false_eq_true, eq_self, Int32.or_zero, if_pos, if_neg, h1, show j + 1 - 1 = j from rfl, nS1, zok_some]
    rw [h5.1, ← hv]
    refine key _ (fun a b q1 q2 => ?_) (by simp (disch := omega) only [Option.bind_some, Option.map_some, zlet_eq, ↓reduceIte, L_2, L_3, L_4, L_5, L_6, L_7, L_8, L_9, L_10, L_12, L_13, L_20, L_24, L_25, L_26, L_27, L_30, L_32, L_33, L_34, L_40, L_48, L_57, L_58, L_60, L_64, L_90, L_93, L_97, L_99, L_100, L_122, L_144, L_255, L_364, L_480, L_500, L_800, L_1000, L_100000, L_4096, L_1023, L_1024, nLe, nLt, nEq, nI_1, nI_add, pk_mul, nSn, nDn, nCl, zck_nI, zdv_nI, nNeg, nLe0, n0Lt, nEq0, nM1, m1N, m1Lt, nLm1, zcb_0, zcb_1, i10, i01, nEq1, n1Eq, nLt1, gI_eq, gI_nb, gI_na, x_badF, x_badT1, x_badT2, bt_0, bt_1, bit1_u, Bool.true_eq_false, Bool.false_eq_true, eq_self, Int32.or_zero, if_pos, if_neg]) (by simp (disch := omega) only [Option.bind_some, Option.map_some, zlet_eq, ↓reduceIte, L_2, L_3, L_4, L_5, L_6, L_7, L_8, L_9, L_10, L_12, L_13, L_20, L_24, L_25, L_26, L_27, L_30, L_32, L_33, L_34, L_40, L_48, L_57, L_58, L_60, L_64, L_90, L_93, L_97, L_99, L_100, L_122, L_144, L_255, L_364, L_480, L_500, L_800, L_1000, L_100000, L_4096, L_1023, L_1024, nLe, nLt, nEq, nI_1, nI_add, pk_mul, nSn, nDn, nCl, zck_nI, zdv_nI, nNeg, nLe0, n0Lt, nEq0, nM1, m1N, m1Lt, nLm1, zcb_0, zcb_1, i10, i01, nEq1, n1Eq, nLt1, gI_eq, gI_nb, gI_na, x_badF, x_badT1, x_badT2, bt_0, bt_1, bit1_u, Bool.true_eq_false, Bool.false_eq_true, eq_self, Int32.or_zero, if_pos, if_neg])
    show gI (sI (sI D a1 j (V j)) 102 38 (nI (j + 1))) a b = _
    rw [show gI (sI (sI D a1 j (V j)) 102 38 (nI (j + 1))) a b = gI (sI D a1 j (V j)) a b from if_neg q2]
    exact if_neg q1
  · rw [if_neg (by decide), h1]
    simp (disch := omega) only [Option.bind_some, Option.map_some, zlet_eq, ↓reduceIte, L_2, L_3, L_4, L_5, L_6, L_7, L_8, L_9, L_10, L_12, L_13, L_20, L_24, L_25, L_26, L_27, L_30, L_32, L_33, L_34, L_40, L_48, L_57, L_58, L_60, L_64, L_90, L_93, L_97, L_99, L_100, L_122, L_144, L_255, L_364, L_480, L_500, L_800, L_1000, L_100000, L_4096, L_1023, L_1024, nLe, nLt, nEq, nI_1, nI_add, pk_mul, nSn, nDn, nCl, zck_nI, zdv_nI, nNeg, nLe0, n0Lt, nEq0, nM1, m1N, m1Lt, nLm1, zcb_0, zcb_1, i10, i01, nEq1, n1Eq, nLt1, gI_eq, gI_nb, gI_na, x_badF, x_badT1, x_badT2, bt_0, bt_1, bit1_u, Bool.true_eq_false, Bool.false_eq_true, eq_self, Int32.or_zero, if_pos, if_neg, h1, show j + 1 - 1 = j from rfl, nS1, zok_some]
    rw [h5.2, ← hv]
    refine key _ (fun a b q1 q2 => if_neg q2) (by simp (disch := omega) only [Option.bind_some, Option.map_some, zlet_eq, ↓reduceIte, L_2, L_3, L_4, L_5, L_6, L_7, L_8, L_9, L_10, L_12, L_13, L_20, L_24, L_25, L_26, L_27, L_30, L_32, L_33, L_34, L_40, L_48, L_57, L_58, L_60, L_64, L_90, L_93, L_97, L_99, L_100, L_122, L_144, L_255, L_364, L_480, L_500, L_800, L_1000, L_100000, L_4096, L_1023, L_1024, nLe, nLt, nEq, nI_1, nI_add, pk_mul, nSn, nDn, nCl, zck_nI, zdv_nI, nNeg, nLe0, n0Lt, nEq0, nM1, m1N, m1Lt, nLm1, zcb_0, zcb_1, i10, i01, nEq1, n1Eq, nLt1, gI_eq, gI_nb, gI_na, x_badF, x_badT1, x_badT2, bt_0, bt_1, bit1_u, Bool.true_eq_false, Bool.false_eq_true, eq_self, Int32.or_zero, if_pos, if_neg]) ?_
    simp (disch := omega) only [Option.bind_some, Option.map_some, zlet_eq, ↓reduceIte, L_2, L_3, L_4, L_5, L_6, L_7, L_8, L_9, L_10, L_12, L_13, L_20, L_24, L_25, L_26, L_27, L_30, L_32, L_33, L_34, L_40, L_48, L_57, L_58, L_60, L_64, L_90, L_93, L_97, L_99, L_100, L_122, L_144, L_255, L_364, L_480, L_500, L_800, L_1000, L_100000, L_4096, L_1023, L_1024, nLe, nLt, nEq, nI_1, nI_add, pk_mul, nSn, nDn, nCl, zck_nI, zdv_nI, nNeg, nLe0, n0Lt, nEq0, nM1, m1N, m1Lt, nLm1, zcb_0, zcb_1, i10, i01, nEq1, n1Eq, nLt1, gI_eq, gI_nb, gI_na, x_badF, x_badT1, x_badT2, bt_0, bt_1, bit1_u, Bool.true_eq_false, Bool.false_eq_true, eq_self, Int32.or_zero, if_pos, if_neg, h5.2, hv]
theorem r_movesAll {a1 : Nat} {w : Int32} {V : Nat → Int32} (ha : 179 ≤ a1) (ha2 : a1 ≤ 181) (hw : ∀ j, j < 39 → (w = 0 ∧ V j = gI D (mA j) (mB j)) ∨ (w = 1 ∧ V j = gI D a1 j)) : zok (fn_X12_movesAll a1 64 w D) fun F => (∀ i, i < 39 → gI F (mA i) (mB i) = V i ∧ gI F a1 i = V i) ∧ ∀ a b, a ≠ a1 → ¬ (a = 102 ∧ b = 38) → (∀ i, i < 39 → ¬ (a = mA i ∧ b = mB i)) → gI F a b = gI D a b := by
  have hstep := fun (j : Nat) (E : zD) (hj : j < 39) (hE : mvI a1 D V j E) => mv_step (D := E) ha ha2 hj (hw j hj) hE
  unfold fn_X12_movesAll
  rw [zlet_eq]
  have s0 : mvI a1 D V 0 (sI D 102 38 0) := ⟨gI_eq, fun i hi => by omega, fun i _ hi => by
    have hm := m_ne hi
    refine ⟨?_, gI_na (by omega)⟩
    by_cases e : mA i = 102
    · rw [e]; exact gI_nb (by omega)
    · exact gI_na e, fun a b _ q2 _ => if_neg q2⟩
  refine (hstep 0 _ (by omega) s0).bind fun q h1 => ?_
  refine (hstep 1 _ (by omega) h1).bind fun q h2 => ?_
  refine (hstep 2 _ (by omega) h2).bind fun q h3 => ?_
  rw [zlet_eq]
  replace h3 : mvI a1 D V 3 (sI q.2 102 36 q.1) := h3
  generalize sI q.2 102 36 q.1 = D3 at h3 ⊢
  refine z_inv 6 (fun n k (E : zD) => fn_X12_movesAll_49 a1 64 w n (nI k) E) (fun k E => mvI a1 D V (3 + 2 * k) E) _ ?_ ?_ 0 zFU _ (by omega) (zfu_gt (by omega)) h3
  · intro n k E hk hE ih
    show zok (fn_X12_movesAll_49 a1 64 w (n + 1) (nI k) E) _
    rw [fn_X12_movesAll_49]
    simp (disch := omega) only [Option.bind_some, Option.map_some, zlet_eq, ↓reduceIte, L_2, L_3, L_4, L_5, L_6, L_7, L_8, L_9, L_10, L_12, L_13, L_20, L_24, L_25, L_26, L_27, L_30, L_32, L_33, L_34, L_40, L_48, L_57, L_58, L_60, L_64, L_90, L_93, L_97, L_99, L_100, L_122, L_144, L_255, L_364, L_480, L_500, L_800, L_1000, L_100000, L_4096, L_1023, L_1024, nLe, nLt, nEq, nI_1, nI_add, pk_mul, nSn, nDn, nCl, zck_nI, zdv_nI, nNeg, nLe0, n0Lt, nEq0, nM1, m1N, m1Lt, nLm1, zcb_0, zcb_1, i10, i01, nEq1, n1Eq, nLt1, gI_eq, gI_nb, gI_na, x_badF, x_badT1, x_badT2, bt_0, bt_1, bit1_u, Bool.true_eq_false, Bool.false_eq_true, eq_self, Int32.or_zero, if_pos, if_neg]
    refine z_inv 2 (fun m i (E : zD) => fn_X12_movesAll_58 a1 64 w (fn_X12_movesAll_49 a1 64 w n) m (nI k) (nI i) E) (fun i E => mvI a1 D V (3 + 2 * k + i) E) _ ?_ ?_ 0 zFU _ (by omega) (zfu_gt (by omega)) hE
    · intro m i E hi hE ih2
      show zok (fn_X12_movesAll_58 a1 64 w (fn_X12_movesAll_49 a1 64 w n) (m + 1) (nI k) (nI i) E) _
      rw [fn_X12_movesAll_58]
      simp (disch := omega) only [Option.bind_some, Option.map_some, zlet_eq, ↓reduceIte, L_2, L_3, L_4, L_5, L_6, L_7, L_8, L_9, L_10, L_12, L_13, L_20, L_24, L_25, L_26, L_27, L_30, L_32, L_33, L_34, L_40, L_48, L_57, L_58, L_60, L_64, L_90, L_93, L_97, L_99, L_100, L_122, L_144, L_255, L_364, L_480, L_500, L_800, L_1000, L_100000, L_4096, L_1023, L_1024, nLe, nLt, nEq, nI_1, nI_add, pk_mul, nSn, nDn, nCl, zck_nI, zdv_nI, nNeg, nLe0, n0Lt, nEq0, nM1, m1N, m1Lt, nLm1, zcb_0, zcb_1, i10, i01, nEq1, n1Eq, nLt1, gI_eq, gI_nb, gI_na, x_badF, x_badT1, x_badT2, bt_0, bt_1, bit1_u, Bool.true_eq_false, Bool.false_eq_true, eq_self, Int32.or_zero, if_pos, if_neg]
      have hs := hstep (3 + 2 * k + i) E (by omega) hE
      have e1 : mA (3 + 2 * k + i) = 163 + k := by unfold mA; rw [if_neg (by omega), if_pos (by omega)]; omega
      have e2 : mB (3 + 2 * k + i) = i := by unfold mB; rw [if_neg (by omega), if_pos (by omega)]; omega
      rw [e1, e2] at hs
      refine hs.bind fun q hq => ?_
      exact ih2 _ hq
    · intro m E hE
      show zok (fn_X12_movesAll_58 a1 64 w (fn_X12_movesAll_49 a1 64 w n) (m + 1) (nI k) (nI 2) E) _
      rw [fn_X12_movesAll_58]
      simp (disch := omega) only [Option.bind_some, Option.map_some, zlet_eq, ↓reduceIte, L_2, L_3, L_4, L_5, L_6, L_7, L_8, L_9, L_10, L_12, L_13, L_20, L_24, L_25, L_26, L_27, L_30, L_32, L_33, L_34, L_40, L_48, L_57, L_58, L_60, L_64, L_90, L_93, L_97, L_99, L_100, L_122, L_144, L_255, L_364, L_480, L_500, L_800, L_1000, L_100000, L_4096, L_1023, L_1024, nLe, nLt, nEq, nI_1, nI_add, pk_mul, nSn, nDn, nCl, zck_nI, zdv_nI, nNeg, nLe0, n0Lt, nEq0, nM1, m1N, m1Lt, nLm1, zcb_0, zcb_1, i10, i01, nEq1, n1Eq, nLt1, gI_eq, gI_nb, gI_na, x_badF, x_badT1, x_badT2, bt_0, bt_1, bit1_u, Bool.true_eq_false, Bool.false_eq_true, eq_self, Int32.or_zero, if_pos, if_neg]
      exact ih _ (by rw [show 3 + 2 * (k + 1) = 3 + 2 * k + 2 by omega]; exact hE)
  · intro n E hE
    show zok (fn_X12_movesAll_49 a1 64 w (n + 1) (nI 6) E) _
    rw [fn_X12_movesAll_49]
    simp (disch := omega) only [Option.bind_some, Option.map_some, zlet_eq, ↓reduceIte, L_2, L_3, L_4, L_5, L_6, L_7, L_8, L_9, L_10, L_12, L_13, L_20, L_24, L_25, L_26, L_27, L_30, L_32, L_33, L_34, L_40, L_48, L_57, L_58, L_60, L_64, L_90, L_93, L_97, L_99, L_100, L_122, L_144, L_255, L_364, L_480, L_500, L_800, L_1000, L_100000, L_4096, L_1023, L_1024, nLe, nLt, nEq, nI_1, nI_add, pk_mul, nSn, nDn, nCl, zck_nI, zdv_nI, nNeg, nLe0, n0Lt, nEq0, nM1, m1N, m1Lt, nLm1, zcb_0, zcb_1, i10, i01, nEq1, n1Eq, nLt1, gI_eq, gI_nb, gI_na, x_badF, x_badT1, x_badT2, bt_0, bt_1, bit1_u, Bool.true_eq_false, Bool.false_eq_true, eq_self, Int32.or_zero, if_pos, if_neg]
    refine z_inv 8 (fun n k (E : zD) => fn_X12_movesAll_102 a1 64 w n (nI k) E) (fun k E => mvI a1 D V (15 + 3 * k) E) _ ?_ ?_ 0 zFU _ (by omega) (zfu_gt (by omega)) hE
    · intro n k E hk hE ih
      show zok (fn_X12_movesAll_102 a1 64 w (n + 1) (nI k) E) _
      rw [fn_X12_movesAll_102]
      simp (disch := omega) only [Option.bind_some, Option.map_some, zlet_eq, ↓reduceIte, L_2, L_3, L_4, L_5, L_6, L_7, L_8, L_9, L_10, L_12, L_13, L_20, L_24, L_25, L_26, L_27, L_30, L_32, L_33, L_34, L_40, L_48, L_57, L_58, L_60, L_64, L_90, L_93, L_97, L_99, L_100, L_122, L_144, L_255, L_364, L_480, L_500, L_800, L_1000, L_100000, L_4096, L_1023, L_1024, nLe, nLt, nEq, nI_1, nI_add, pk_mul, nSn, nDn, nCl, zck_nI, zdv_nI, nNeg, nLe0, n0Lt, nEq0, nM1, m1N, m1Lt, nLm1, zcb_0, zcb_1, i10, i01, nEq1, n1Eq, nLt1, gI_eq, gI_nb, gI_na, x_badF, x_badT1, x_badT2, bt_0, bt_1, bit1_u, Bool.true_eq_false, Bool.false_eq_true, eq_self, Int32.or_zero, if_pos, if_neg]
      refine z_inv 3 (fun m i (E : zD) => fn_X12_movesAll_111 a1 64 w (fn_X12_movesAll_102 a1 64 w n) m (nI k) (nI i) E) (fun i E => mvI a1 D V (15 + 3 * k + i) E) _ ?_ ?_ 0 zFU _ (by omega) (zfu_gt (by omega)) hE
      · intro m i E hi hE ih2
        show zok (fn_X12_movesAll_111 a1 64 w (fn_X12_movesAll_102 a1 64 w n) (m + 1) (nI k) (nI i) E) _
        rw [fn_X12_movesAll_111]
        simp (disch := omega) only [Option.bind_some, Option.map_some, zlet_eq, ↓reduceIte, L_2, L_3, L_4, L_5, L_6, L_7, L_8, L_9, L_10, L_12, L_13, L_20, L_24, L_25, L_26, L_27, L_30, L_32, L_33, L_34, L_40, L_48, L_57, L_58, L_60, L_64, L_90, L_93, L_97, L_99, L_100, L_122, L_144, L_255, L_364, L_480, L_500, L_800, L_1000, L_100000, L_4096, L_1023, L_1024, nLe, nLt, nEq, nI_1, nI_add, pk_mul, nSn, nDn, nCl, zck_nI, zdv_nI, nNeg, nLe0, n0Lt, nEq0, nM1, m1N, m1Lt, nLm1, zcb_0, zcb_1, i10, i01, nEq1, n1Eq, nLt1, gI_eq, gI_nb, gI_na, x_badF, x_badT1, x_badT2, bt_0, bt_1, bit1_u, Bool.true_eq_false, Bool.false_eq_true, eq_self, Int32.or_zero, if_pos, if_neg]
        have hs := hstep (15 + 3 * k + i) E (by omega) hE
        have e1 : mA (15 + 3 * k + i) = 170 + k := by unfold mA; rw [if_neg (by omega), if_neg (by omega)]; omega
        have e2 : mB (15 + 3 * k + i) = i := by unfold mB; rw [if_neg (by omega), if_neg (by omega)]; omega
        rw [e1, e2] at hs
        refine hs.bind fun q hq => ?_
        exact ih2 _ hq
      · intro m E hE
        show zok (fn_X12_movesAll_111 a1 64 w (fn_X12_movesAll_102 a1 64 w n) (m + 1) (nI k) (nI 3) E) _
        rw [fn_X12_movesAll_111]
        simp (disch := omega) only [Option.bind_some, Option.map_some, zlet_eq, ↓reduceIte, L_2, L_3, L_4, L_5, L_6, L_7, L_8, L_9, L_10, L_12, L_13, L_20, L_24, L_25, L_26, L_27, L_30, L_32, L_33, L_34, L_40, L_48, L_57, L_58, L_60, L_64, L_90, L_93, L_97, L_99, L_100, L_122, L_144, L_255, L_364, L_480, L_500, L_800, L_1000, L_100000, L_4096, L_1023, L_1024, nLe, nLt, nEq, nI_1, nI_add, pk_mul, nSn, nDn, nCl, zck_nI, zdv_nI, nNeg, nLe0, n0Lt, nEq0, nM1, m1N, m1Lt, nLm1, zcb_0, zcb_1, i10, i01, nEq1, n1Eq, nLt1, gI_eq, gI_nb, gI_na, x_badF, x_badT1, x_badT2, bt_0, bt_1, bit1_u, Bool.true_eq_false, Bool.false_eq_true, eq_self, Int32.or_zero, if_pos, if_neg]
        exact ih _ (by rw [show 15 + 3 * (k + 1) = 15 + 3 * k + 3 by omega]; exact hE)
    · intro n E hE
      show zok (fn_X12_movesAll_102 a1 64 w (n + 1) (nI 8) E) _
      rw [fn_X12_movesAll_102]
      simp (disch := omega) only [Option.bind_some, Option.map_some, zlet_eq, ↓reduceIte, L_2, L_3, L_4, L_5, L_6, L_7, L_8, L_9, L_10, L_12, L_13, L_20, L_24, L_25, L_26, L_27, L_30, L_32, L_33, L_34, L_40, L_48, L_57, L_58, L_60, L_64, L_90, L_93, L_97, L_99, L_100, L_122, L_144, L_255, L_364, L_480, L_500, L_800, L_1000, L_100000, L_4096, L_1023, L_1024, nLe, nLt, nEq, nI_1, nI_add, pk_mul, nSn, nDn, nCl, zck_nI, zdv_nI, nNeg, nLe0, n0Lt, nEq0, nM1, m1N, m1Lt, nLm1, zcb_0, zcb_1, i10, i01, nEq1, n1Eq, nLt1, gI_eq, gI_nb, gI_na, x_badF, x_badT1, x_badT2, bt_0, bt_1, bit1_u, Bool.true_eq_false, Bool.false_eq_true, eq_self, Int32.or_zero, if_pos, if_neg, zok_some]
      exact ⟨hE.2.1, hE.2.2.2⟩
theorem c_imageAt {n : Nat} (hn : n < 3) : fn_X11_imageAt (nI n) D = some (63 + 6 * n) := by
  unfold fn_X11_imageAt
  rcases (show n = 0 ∨ n = 1 ∨ n = 2 by omega) with rfl | rfl | rfl
  · simp (disch := omega) only [Option.bind_some, Option.map_some, zlet_eq, ↓reduceIte, L_2, L_3, L_4, L_5, L_6, L_7, L_8, L_9, L_10, L_12, L_13, L_20, L_24, L_25, L_26, L_27, L_30, L_32, L_33, L_34, L_40, L_48, L_57, L_58, L_60, L_64, L_90, L_93, L_97, L_99, L_100, L_122, L_144, L_255, L_364, L_480, L_500, L_800, L_1000, L_100000, L_4096, L_1023, L_1024, nLe, nLt, nEq, nI_1, nI_add, pk_mul, nSn, nDn, nCl, zck_nI, zdv_nI, nNeg, nLe0, n0Lt, nEq0, nM1, m1N, m1Lt, nLm1, zcb_0, zcb_1, i10, i01, nEq1, n1Eq, nLt1, gI_eq, gI_nb, gI_na, x_badF, x_badT1, x_badT2, bt_0, bt_1, bit1_u, Bool.true_eq_false, Bool.false_eq_true, eq_self, Int32.or_zero, if_pos, if_neg]
  · simp (disch := omega) only [Option.bind_some, Option.map_some, zlet_eq, ↓reduceIte, L_2, L_3, L_4, L_5, L_6, L_7, L_8, L_9, L_10, L_12, L_13, L_20, L_24, L_25, L_26, L_27, L_30, L_32, L_33, L_34, L_40, L_48, L_57, L_58, L_60, L_64, L_90, L_93, L_97, L_99, L_100, L_122, L_144, L_255, L_364, L_480, L_500, L_800, L_1000, L_100000, L_4096, L_1023, L_1024, nLe, nLt, nEq, nI_1, nI_add, pk_mul, nSn, nDn, nCl, zck_nI, zdv_nI, nNeg, nLe0, n0Lt, nEq0, nM1, m1N, m1Lt, nLm1, zcb_0, zcb_1, i10, i01, nEq1, n1Eq, nLt1, gI_eq, gI_nb, gI_na, x_badF, x_badT1, x_badT2, bt_0, bt_1, bit1_u, Bool.true_eq_false, Bool.false_eq_true, eq_self, Int32.or_zero, if_pos, if_neg]
  · simp (disch := omega) only [Option.bind_some, Option.map_some, zlet_eq, ↓reduceIte, L_2, L_3, L_4, L_5, L_6, L_7, L_8, L_9, L_10, L_12, L_13, L_20, L_24, L_25, L_26, L_27, L_30, L_32, L_33, L_34, L_40, L_48, L_57, L_58, L_60, L_64, L_90, L_93, L_97, L_99, L_100, L_122, L_144, L_255, L_364, L_480, L_500, L_800, L_1000, L_100000, L_4096, L_1023, L_1024, nLe, nLt, nEq, nI_1, nI_add, pk_mul, nSn, nDn, nCl, zck_nI, zdv_nI, nNeg, nLe0, n0Lt, nEq0, nM1, m1N, m1Lt, nLm1, zcb_0, zcb_1, i10, i01, nEq1, n1Eq, nLt1, gI_eq, gI_nb, gI_na, x_badF, x_badT1, x_badT2, bt_0, bt_1, bit1_u, Bool.true_eq_false, Bool.false_eq_true, eq_self, Int32.or_zero, if_pos, if_neg]
theorem t_image (h : iv P D) : duo fn_X11_image fn_X12_image D := by
  have h' := h
  obtain ⟨⟨⟨hb, ⟨a0, a1, a2, a3⟩, ⟨b0, b1, b2, b3⟩, hs, hw⟩, ⟨hc, c1, c2, hcv⟩, ⟨hd, ⟨z0, z1, z2⟩, ⟨y0, y1, y2⟩, hp, ht⟩, ⟨hi, i0, i1, him⟩, ⟨hta, ta0, ta1, hpl, htb⟩⟩, hK, hO⟩ := h
  replace y0 : gI _ 102 34 = nI (P 5) := y0
  replace y1 : gI _ 102 35 = nI (P 6) := y1
  replace y2 : gI _ 102 36 = nI (P 7) := y2
  unfold duo fn_X11_image
  by_cases h3 : P 8 < 3
  · rw [i0]
    simp (disch := omega) only [Option.bind_some, Option.map_some, zlet_eq, ↓reduceIte, L_2, L_3, L_4, L_5, L_6, L_7, L_8, L_9, L_10, L_12, L_13, L_20, L_24, L_25, L_26, L_27, L_30, L_32, L_33, L_34, L_40, L_48, L_57, L_58, L_60, L_64, L_90, L_93, L_97, L_99, L_100, L_122, L_144, L_255, L_364, L_480, L_500, L_800, L_1000, L_100000, L_4096, L_1023, L_1024, nLe, nLt, nEq, nI_1, nI_add, pk_mul, nSn, nDn, nCl, zck_nI, zdv_nI, nNeg, nLe0, n0Lt, nEq0, nM1, m1N, m1Lt, nLm1, zcb_0, zcb_1, i10, i01, nEq1, n1Eq, nLt1, gI_eq, gI_nb, gI_na, x_badF, x_badT1, x_badT2, bt_0, bt_1, bit1_u, Bool.true_eq_false, Bool.false_eq_true, eq_self, Int32.or_zero, if_pos, if_neg, c_imageAt h3]
    refine zok_bind.mpr ((c_copyScene (D := D) (o := 63 + 6 * P 8) (s := 57) (by omega)).mono fun F1 ⟨k0, k1, k2, k3⟩ => ?_)
    have f18 : gI F1 0 18 = nI (P 8) := by rw [k3 _ _ (by omega), i0]
    have f37 : gI F1 102 37 = nI (P 8) := by rw [k3 _ _ (by omega), i1]
    simp (disch := omega) only [Option.bind_some, Option.map_some, zlet_eq, ↓reduceIte, L_2, L_3, L_4, L_5, L_6, L_7, L_8, L_9, L_10, L_12, L_13, L_20, L_24, L_25, L_26, L_27, L_30, L_32, L_33, L_34, L_40, L_48, L_57, L_58, L_60, L_64, L_90, L_93, L_97, L_99, L_100, L_122, L_144, L_255, L_364, L_480, L_500, L_800, L_1000, L_100000, L_4096, L_1023, L_1024, nLe, nLt, nEq, nI_1, nI_add, pk_mul, nSn, nDn, nCl, zck_nI, zdv_nI, nNeg, nLe0, n0Lt, nEq0, nM1, m1N, m1Lt, nLm1, zcb_0, zcb_1, i10, i01, nEq1, n1Eq, nLt1, gI_eq, gI_nb, gI_na, x_badF, x_badT1, x_badT2, bt_0, bt_1, bit1_u, Bool.true_eq_false, Bool.false_eq_true, eq_self, Int32.or_zero, if_pos, if_neg, f18, zok_some]
    unfold fn_X12_image
    simp (disch := omega) only [Option.bind_some, Option.map_some, zlet_eq, ↓reduceIte, L_2, L_3, L_4, L_5, L_6, L_7, L_8, L_9, L_10, L_12, L_13, L_20, L_24, L_25, L_26, L_27, L_30, L_32, L_33, L_34, L_40, L_48, L_57, L_58, L_60, L_64, L_90, L_93, L_97, L_99, L_100, L_122, L_144, L_255, L_364, L_480, L_500, L_800, L_1000, L_100000, L_4096, L_1023, L_1024, nLe, nLt, nEq, nI_1, nI_add, pk_mul, nSn, nDn, nCl, zck_nI, zdv_nI, nNeg, nLe0, n0Lt, nEq0, nM1, m1N, m1Lt, nLm1, zcb_0, zcb_1, i10, i01, nEq1, n1Eq, nLt1, gI_eq, gI_nb, gI_na, x_badF, x_badT1, x_badT2, bt_0, bt_1, bit1_u, Bool.true_eq_false, Bool.false_eq_true, eq_self, Int32.or_zero, if_pos, if_neg, f37]
    refine zok_bind.mpr ((r_movesAll (D := sI (sI F1 0 18 (nI (P 8 + 1))) 102 0 0) (a1 := 179 + P 8) (w := 0) (V := fun j => rS D j) (by omega) (by omega) fun j hj => Or.inl ⟨rfl, ?_⟩).mono fun F2 ⟨m0, m1⟩ => ?_)
    · have hm := m_ne hj
      rw [rS_m]
      by_cases e : mA j = 102
      · rw [e, gI_nb (by omega), gI_na (by omega), k3 _ _ (by omega)]
      · rw [gI_na e, gI_na (by omega), k3 _ _ (by omega)]
    · have hG : ∀ a b, (a < 63 + 6 * P 8 ∨ 68 + 6 * P 8 < a) → ¬ (a = 0 ∧ b = 18) → ¬ (a = 102 ∧ (b = 0 ∨ b = 37 ∨ b = 38)) → a ≠ 179 + P 8 → gI (sI F2 102 37 (nI (P 8 + 1))) a b = gI D a b := by
        intro a b q1 q2 q3 q4
        have e1 : gI (sI F2 102 37 (nI (P 8 + 1))) a b = gI F2 a b := if_neg (by omega)
        rw [e1]
        by_cases hx : ∃ i, i < 39 ∧ a = mA i ∧ b = mB i
        · obtain ⟨i, hi39, rfl, rfl⟩ := hx
          rw [(m0 i hi39).1]
          exact rS_m D i
        · rw [m1 a b q4 (by omega) fun i hi39 q => hx ⟨i, hi39, q⟩]
          have e2 : gI (sI (sI F1 0 18 (nI (P 8 + 1))) 102 0 0) a b = gI F1 a b := by
            rw [show gI (sI (sI F1 0 18 (nI (P 8 + 1))) 102 0 0) a b = gI (sI F1 0 18 (nI (P 8 + 1))) a b from if_neg (by omega)]
            exact if_neg q2
          rw [e2]
          exact k3 a b (by omega)
      have g37 : gI F2 102 37 = nI (P 8) := by
        rw [m1 _ _ (by omega) (by omega) fun i hi39 q => by
          have := m_ne hi39
          omega]
        simp (disch := omega) only [Option.bind_some, Option.map_some, zlet_eq, ↓reduceIte, L_2, L_3, L_4, L_5, L_6, L_7, L_8, L_9, L_10, L_12, L_13, L_20, L_24, L_25, L_26, L_27, L_30, L_32, L_33, L_34, L_40, L_48, L_57, L_58, L_60, L_64, L_90, L_93, L_97, L_99, L_100, L_122, L_144, L_255, L_364, L_480, L_500, L_800, L_1000, L_100000, L_4096, L_1023, L_1024, nLe, nLt, nEq, nI_1, nI_add, pk_mul, nSn, nDn, nCl, zck_nI, zdv_nI, nNeg, nLe0, n0Lt, nEq0, nM1, m1N, m1Lt, nLm1, zcb_0, zcb_1, i10, i01, nEq1, n1Eq, nLt1, gI_eq, gI_nb, gI_na, x_badF, x_badT1, x_badT2, bt_0, bt_1, bit1_u, Bool.true_eq_false, Bool.false_eq_true, eq_self, Int32.or_zero, if_pos, if_neg, f37]
      simp (disch := omega) only [Option.bind_some, Option.map_some, zlet_eq, ↓reduceIte, L_2, L_3, L_4, L_5, L_6, L_7, L_8, L_9, L_10, L_12, L_13, L_20, L_24, L_25, L_26, L_27, L_30, L_32, L_33, L_34, L_40, L_48, L_57, L_58, L_60, L_64, L_90, L_93, L_97, L_99, L_100, L_122, L_144, L_255, L_364, L_480, L_500, L_800, L_1000, L_100000, L_4096, L_1023, L_1024, nLe, nLt, nEq, nI_1, nI_add, pk_mul, nSn, nDn, nCl, zck_nI, zdv_nI, nNeg, nLe0, n0Lt, nEq0, nM1, m1N, m1Lt, nLm1, zcb_0, zcb_1, i10, i01, nEq1, n1Eq, nLt1, gI_eq, gI_nb, gI_na, x_badF, x_badT1, x_badT2, bt_0, bt_1, bit1_u, Bool.true_eq_false, Bool.false_eq_true, eq_self, Int32.or_zero, if_pos, if_neg, g37, zok_some]
      have hA : ∀ p : Nat → Nat → Prop, (∀ a b, p a b → (a < 63 ∨ 80 < a) ∧ ¬ (a = 0 ∧ b = 18) ∧ ¬ (a = 102 ∧ (b = 0 ∨ b = 37 ∨ b = 38)) ∧ (a < 179 ∨ 181 < a)) → ag p D (sI F2 102 37 (nI (P 8 + 1))) := by
        intro p hp' a b q
        have := hp' a b q
        exact hG a b (by omega) this.2.1 this.2.2.1 (by omega)
      refine ⟨⟨pset P 8 (P 8 + 1), ?_⟩, trivial⟩
      obtain ⟨⟨hal, hco, hsc, him2, hta2⟩, hK2, hO2⟩ := h'
      refine ⟨⟨?_, ?_, ?_, ?_, ?_⟩, ?_, ?_⟩
      · exact iv_al.q rfl rfl rfl rfl ((hA pA (by unfold pA; intros; omega)).al hal)
      · exact iv_co.q rfl rfl rfl ((hA pB (by unfold pB; intros; omega)).co hco)
      · exact iv_sc.q rfl rfl rfl rfl ((hA pS (by unfold pS; intros; omega)).sc hsc)
      · refine ⟨by show P 8 + 1 ≤ 3; omega, ?_, ?_, fun k hk => ?_⟩
        · show _ = nI (P 8 + 1)
          rw [gI_na (by omega), m1 _ _ (by omega) (by omega) fun i hi39 q => by
            have := m_ne hi39
            omega]
          simp (disch := omega) only [Option.bind_some, Option.map_some, zlet_eq, ↓reduceIte, L_2, L_3, L_4, L_5, L_6, L_7, L_8, L_9, L_10, L_12, L_13, L_20, L_24, L_25, L_26, L_27, L_30, L_32, L_33, L_34, L_40, L_48, L_57, L_58, L_60, L_64, L_90, L_93, L_97, L_99, L_100, L_122, L_144, L_255, L_364, L_480, L_500, L_800, L_1000, L_100000, L_4096, L_1023, L_1024, nLe, nLt, nEq, nI_1, nI_add, pk_mul, nSn, nDn, nCl, zck_nI, zdv_nI, nNeg, nLe0, n0Lt, nEq0, nM1, m1N, m1Lt, nLm1, zcb_0, zcb_1, i10, i01, nEq1, n1Eq, nLt1, gI_eq, gI_nb, gI_na, x_badF, x_badT1, x_badT2, bt_0, bt_1, bit1_u, Bool.true_eq_false, Bool.false_eq_true, eq_self, Int32.or_zero, if_pos, if_neg]
        · show _ = nI (P 8 + 1)
          simp (disch := omega) only [Option.bind_some, Option.map_some, zlet_eq, ↓reduceIte, L_2, L_3, L_4, L_5, L_6, L_7, L_8, L_9, L_10, L_12, L_13, L_20, L_24, L_25, L_26, L_27, L_30, L_32, L_33, L_34, L_40, L_48, L_57, L_58, L_60, L_64, L_90, L_93, L_97, L_99, L_100, L_122, L_144, L_255, L_364, L_480, L_500, L_800, L_1000, L_100000, L_4096, L_1023, L_1024, nLe, nLt, nEq, nI_1, nI_add, pk_mul, nSn, nDn, nCl, zck_nI, zdv_nI, nNeg, nLe0, n0Lt, nEq0, nM1, m1N, m1Lt, nLm1, zcb_0, zcb_1, i10, i01, nEq1, n1Eq, nLt1, gI_eq, gI_nb, gI_na, x_badF, x_badT1, x_badT2, bt_0, bt_1, bit1_u, Bool.true_eq_false, Bool.false_eq_true, eq_self, Int32.or_zero, if_pos, if_neg]
        · replace hk : k < P 8 + 1 := hk
          by_cases e : k = P 8
          · subst e
            refine ⟨P 5, P 6, P 7, hd, ⟨?_, ?_, ?_⟩, ⟨?_, ?_, ?_⟩, fun k hk => ?_, fun k hk => ?_⟩
            all_goals try rw [gI_na (by omega)]
            · rw [m1 _ _ (by omega) (by omega) fun i hi39 q => by
                have := m_ne hi39
                omega]
              simp (disch := omega) only [Option.bind_some, Option.map_some, zlet_eq, ↓reduceIte, L_2, L_3, L_4, L_5, L_6, L_7, L_8, L_9, L_10, L_12, L_13, L_20, L_24, L_25, L_26, L_27, L_30, L_32, L_33, L_34, L_40, L_48, L_57, L_58, L_60, L_64, L_90, L_93, L_97, L_99, L_100, L_122, L_144, L_255, L_364, L_480, L_500, L_800, L_1000, L_100000, L_4096, L_1023, L_1024, nLe, nLt, nEq, nI_1, nI_add, pk_mul, nSn, nDn, nCl, zck_nI, zdv_nI, nNeg, nLe0, n0Lt, nEq0, nM1, m1N, m1Lt, nLm1, zcb_0, zcb_1, i10, i01, nEq1, n1Eq, nLt1, gI_eq, gI_nb, gI_na, x_badF, x_badT1, x_badT2, bt_0, bt_1, bit1_u, Bool.true_eq_false, Bool.false_eq_true, eq_self, Int32.or_zero, if_pos, if_neg, k0.1, z0]
            · rw [m1 _ _ (by omega) (by omega) fun i hi39 q => by
                have := m_ne hi39
                omega]
              simp (disch := omega) only [Option.bind_some, Option.map_some, zlet_eq, ↓reduceIte, L_2, L_3, L_4, L_5, L_6, L_7, L_8, L_9, L_10, L_12, L_13, L_20, L_24, L_25, L_26, L_27, L_30, L_32, L_33, L_34, L_40, L_48, L_57, L_58, L_60, L_64, L_90, L_93, L_97, L_99, L_100, L_122, L_144, L_255, L_364, L_480, L_500, L_800, L_1000, L_100000, L_4096, L_1023, L_1024, nLe, nLt, nEq, nI_1, nI_add, pk_mul, nSn, nDn, nCl, zck_nI, zdv_nI, nNeg, nLe0, n0Lt, nEq0, nM1, m1N, m1Lt, nLm1, zcb_0, zcb_1, i10, i01, nEq1, n1Eq, nLt1, gI_eq, gI_nb, gI_na, x_badF, x_badT1, x_badT2, bt_0, bt_1, bit1_u, Bool.true_eq_false, Bool.false_eq_true, eq_self, Int32.or_zero, if_pos, if_neg, k0.2.1, z1]
            · rw [m1 _ _ (by omega) (by omega) fun i hi39 q => by
                have := m_ne hi39
                omega]
              simp (disch := omega) only [Option.bind_some, Option.map_some, zlet_eq, ↓reduceIte, L_2, L_3, L_4, L_5, L_6, L_7, L_8, L_9, L_10, L_12, L_13, L_20, L_24, L_25, L_26, L_27, L_30, L_32, L_33, L_34, L_40, L_48, L_57, L_58, L_60, L_64, L_90, L_93, L_97, L_99, L_100, L_122, L_144, L_255, L_364, L_480, L_500, L_800, L_1000, L_100000, L_4096, L_1023, L_1024, nLe, nLt, nEq, nI_1, nI_add, pk_mul, nSn, nDn, nCl, zck_nI, zdv_nI, nNeg, nLe0, n0Lt, nEq0, nM1, m1N, m1Lt, nLm1, zcb_0, zcb_1, i10, i01, nEq1, n1Eq, nLt1, gI_eq, gI_nb, gI_na, x_badF, x_badT1, x_badT2, bt_0, bt_1, bit1_u, Bool.true_eq_false, Bool.false_eq_true, eq_self, Int32.or_zero, if_pos, if_neg, k0.2.2, z2]
            · rw [(m0 0 (by omega)).2]; exact y0
            · rw [(m0 1 (by omega)).2]; exact y1
            · rw [(m0 2 (by omega)).2]; exact y2
            · have hpk := hp k hk
              rw [gI_na (by omega), gI_na (by omega), gI_na (by omega), (m0 _ (by omega)).2, (m0 _ (by omega)).2, m1 _ _ (by omega) (by omega) fun i hi39 q => by
                have := m_ne hi39
                omega, m1 _ _ (by omega) (by omega) fun i hi39 q => by
                have := m_ne hi39
                omega]
              rw [gI_na (by omega), gI_na (by omega), gI_na (by omega), gI_na (by omega), (k1 k (by omega)).1, (k1 k (by omega)).2]
              exact hpk
            · obtain ⟨s, x, y, q1, q2, q3, q4, q5, q6, q7, q8, q9, q10⟩ := ht k hk
              refine ⟨s, x, y, q1, q2, q3, q4, ?_, ?_, ?_, ?_, ?_, ?_⟩
              · rw [m1 _ _ (by omega) (by omega) fun i hi39 q => by
                  have := m_ne hi39
                  omega, gI_na (by omega), gI_na (by omega), (k2 k (by omega)).1, q5]
              · rw [gI_na (by omega), m1 _ _ (by omega) (by omega) fun i hi39 q => by
                  have := m_ne hi39
                  omega, gI_na (by omega), gI_na (by omega), (k2 k (by omega)).2.1, q6]
              · rw [gI_na (by omega), m1 _ _ (by omega) (by omega) fun i hi39 q => by
                  have := m_ne hi39
                  omega, gI_na (by omega), gI_na (by omega), (k2 k (by omega)).2.2, q7]
              · rw [gI_na (by omega), (m0 _ (by omega)).2, q8]
              · rw [gI_na (by omega), (m0 _ (by omega)).2, q9]
              · rw [gI_na (by omega), (m0 _ (by omega)).2, q10]
          · obtain ⟨d, np, nt, hz⟩ := him k (by omega)
            exact ⟨d, np, nt, iv_Z.cong (fun j _ => (hG (179 + k) j (by omega) (by omega) (by omega) (by omega)).symm) (iv_Z.keep (fun a j _ _ => hG a j (by omega) (by omega) (by omega) (by omega)) hz)⟩
      · exact iv_ta.q rfl ((hA pT (by unfold pT; intros; omega)).ta hta2)
      · exact iv_K.q rfl rfl rfl rfl rfl ((hA pK (by unfold pK; intros; omega)).K (hA pA (by unfold pA; intros; omega)) (hA pB (by unfold pB; intros; omega)) hK2)
      · refine iv_O.q rfl rfl ((hA pO (by unfold pO; intros; omega)).O (hA pS (by unfold pS; intros; omega)) hd.2.2 hO2)
  · have e8 : P 8 = 3 := by omega
    rw [i0]
    simp (disch := omega) only [Option.bind_some, Option.map_some, zlet_eq, ↓reduceIte, L_2, L_3, L_4, L_5, L_6, L_7, L_8, L_9, L_10, L_12, L_13, L_20, L_24, L_25, L_26, L_27, L_30, L_32, L_33, L_34, L_40, L_48, L_57, L_58, L_60, L_64, L_90, L_93, L_97, L_99, L_100, L_122, L_144, L_255, L_364, L_480, L_500, L_800, L_1000, L_100000, L_4096, L_1023, L_1024, nLe, nLt, nEq, nI_1, nI_add, pk_mul, nSn, nDn, nCl, zck_nI, zdv_nI, nNeg, nLe0, n0Lt, nEq0, nM1, m1N, m1Lt, nLm1, zcb_0, zcb_1, i10, i01, nEq1, n1Eq, nLt1, gI_eq, gI_nb, gI_na, x_badF, x_badT1, x_badT2, bt_0, bt_1, bit1_u, Bool.true_eq_false, Bool.false_eq_true, eq_self, Int32.or_zero, if_pos, if_neg, e8, zok_some]
    unfold fn_X12_image
    simp (disch := omega) only [Option.bind_some, Option.map_some, zlet_eq, ↓reduceIte, L_2, L_3, L_4, L_5, L_6, L_7, L_8, L_9, L_10, L_12, L_13, L_20, L_24, L_25, L_26, L_27, L_30, L_32, L_33, L_34, L_40, L_48, L_57, L_58, L_60, L_64, L_90, L_93, L_97, L_99, L_100, L_122, L_144, L_255, L_364, L_480, L_500, L_800, L_1000, L_100000, L_4096, L_1023, L_1024, nLe, nLt, nEq, nI_1, nI_add, pk_mul, nSn, nDn, nCl, zck_nI, zdv_nI, nNeg, nLe0, n0Lt, nEq0, nM1, m1N, m1Lt, nLm1, zcb_0, zcb_1, i10, i01, nEq1, n1Eq, nLt1, gI_eq, gI_nb, gI_na, x_badF, x_badT1, x_badT2, bt_0, bt_1, bit1_u, Bool.true_eq_false, Bool.false_eq_true, eq_self, Int32.or_zero, if_pos, if_neg, i1, e8, zok_some]
    exact ⟨⟨P, h'.thr 0⟩, trivial⟩
theorem t_restore (h : iv P D) : duo fn_X11_restore fn_X12_restore D := by
  have h' := h
  obtain ⟨⟨⟨hb, ⟨a0, a1, a2, a3⟩, ⟨b0, b1, b2, b3⟩, hs, hw⟩, ⟨hc, c1, c2, hcv⟩, ⟨hd, ⟨z0, z1, z2⟩, ⟨y0, y1, y2⟩, hp, ht⟩, ⟨hi, i0, i1, him⟩, ⟨hta, ta0, ta1, hpl, htb⟩⟩, hK, hO⟩ := h
  replace y0 : gI _ 102 34 = nI (P 5) := y0
  replace y1 : gI _ 102 35 = nI (P 6) := y1
  replace y2 : gI _ 102 36 = nI (P 7) := y2
  unfold duo fn_X11_restore
  by_cases h3 : 0 < P 8
  · obtain ⟨n, hn⟩ : ∃ n, P 8 = n + 1 := ⟨P 8 - 1, by omega⟩
    obtain ⟨d, np, nt, hzd, ⟨u0, u1, u2⟩, ⟨w0, w1, w2⟩, hzp, hzt⟩ := him n (by omega)
    rw [i0, hn]
    simp (disch := omega) only [Option.bind_some, Option.map_some, zlet_eq, ↓reduceIte, L_2, L_3, L_4, L_5, L_6, L_7, L_8, L_9, L_10, L_12, L_13, L_20, L_24, L_25, L_26, L_27, L_30, L_32, L_33, L_34, L_40, L_48, L_57, L_58, L_60, L_64, L_90, L_93, L_97, L_99, L_100, L_122, L_144, L_255, L_364, L_480, L_500, L_800, L_1000, L_100000, L_4096, L_1023, L_1024, nLe, nLt, nEq, nI_1, nI_add, pk_mul, nSn, nDn, nCl, zck_nI, zdv_nI, nNeg, nLe0, n0Lt, nEq0, nM1, m1N, m1Lt, nLm1, zcb_0, zcb_1, i10, i01, nEq1, n1Eq, nLt1, gI_eq, gI_nb, gI_na, x_badF, x_badT1, x_badT2, bt_0, bt_1, bit1_u, Bool.true_eq_false, Bool.false_eq_true, eq_self, Int32.or_zero, if_pos, if_neg, nS1, show n + 1 - 1 = n from rfl, c_imageAt (show n < 3 by omega)]
    refine zok_bind.mpr ((c_copyScene (D := sI D 0 18 (nI n)) (o := 57) (s := 63 + 6 * n) (by omega)).mono fun F1 ⟨k0, k1, k2, k3⟩ => ?_)
    have f18 : gI F1 0 18 = nI n := by rw [k3 _ _ (by omega), gI_eq]
    have f37 : gI F1 102 37 = nI (n + 1) := by rw [k3 _ _ (by omega), gI_na (by omega), i1, hn]
    simp (disch := omega) only [Option.bind_some, Option.map_some, zlet_eq, ↓reduceIte, L_2, L_3, L_4, L_5, L_6, L_7, L_8, L_9, L_10, L_12, L_13, L_20, L_24, L_25, L_26, L_27, L_30, L_32, L_33, L_34, L_40, L_48, L_57, L_58, L_60, L_64, L_90, L_93, L_97, L_99, L_100, L_122, L_144, L_255, L_364, L_480, L_500, L_800, L_1000, L_100000, L_4096, L_1023, L_1024, nLe, nLt, nEq, nI_1, nI_add, pk_mul, nSn, nDn, nCl, zck_nI, zdv_nI, nNeg, nLe0, n0Lt, nEq0, nM1, m1N, m1Lt, nLm1, zcb_0, zcb_1, i10, i01, nEq1, n1Eq, nLt1, gI_eq, gI_nb, gI_na, x_badF, x_badT1, x_badT2, bt_0, bt_1, bit1_u, Bool.true_eq_false, Bool.false_eq_true, eq_self, Int32.or_zero, if_pos, if_neg, f18, zok_some, spoil_eq, renew_eq, gIz]
    unfold fn_X12_restore
    simp (disch := omega) only [Option.bind_some, Option.map_some, zlet_eq, ↓reduceIte, L_2, L_3, L_4, L_5, L_6, L_7, L_8, L_9, L_10, L_12, L_13, L_20, L_24, L_25, L_26, L_27, L_30, L_32, L_33, L_34, L_40, L_48, L_57, L_58, L_60, L_64, L_90, L_93, L_97, L_99, L_100, L_122, L_144, L_255, L_364, L_480, L_500, L_800, L_1000, L_100000, L_4096, L_1023, L_1024, nLe, nLt, nEq, nI_1, nI_add, pk_mul, nSn, nDn, nCl, zck_nI, zdv_nI, nNeg, nLe0, n0Lt, nEq0, nM1, m1N, m1Lt, nLm1, zcb_0, zcb_1, i10, i01, nEq1, n1Eq, nLt1, gI_eq, gI_nb, gI_na, x_badF, x_badT1, x_badT2, bt_0, bt_1, bit1_u, Bool.true_eq_false, Bool.false_eq_true, eq_self, Int32.or_zero, if_pos, if_neg, f37, gIz, nS1, show n + 1 - 1 = n from rfl]
    refine zok_bind.mpr ((r_movesAll (D := sI (sI (sI (zfill (zfill F1 100 8 0) 101 34 (-1000000)) 0 16 0) 102 0 0) 102 37 (nI n)) (a1 := 179 + n) (w := 1) (V := fun j => gI D (179 + n) j) (by omega) (by omega) fun j hj => Or.inr ⟨rfl, ?_⟩).mono fun F2 ⟨m0, m1⟩ => ?_)
    · rw [gI_na (by omega), gI_na (by omega), gI_na (by omega), gIz (by omega), gIz (by omega), k3 _ _ (by omega), gI_na (by omega)]
    · have hfr : ∀ a b, a ≠ 179 + n → ¬ (a = 102 ∧ (b = 0 ∨ b = 37 ∨ b = 38 ∨ (34 ≤ b ∧ b ≤ 36))) → (a < 163 ∨ 168 < a) → (a < 170 ∨ 177 < a) → gI F2 a b = gI (sI (zfill (zfill F1 100 8 0) 101 34 (-1000000)) 0 16 0) a b := by
        intro a b q1 q2 q3 q4
        rw [m1 a b q1 (by omega) fun i hi39 q => by
          have := m_ne hi39
          omega]
        rw [show gI (sI (sI (sI (zfill (zfill F1 100 8 0) 101 34 (-1000000)) 0 16 0) 102 0 0) 102 37 (nI n)) a b = gI (sI (sI (zfill (zfill F1 100 8 0) 101 34 (-1000000)) 0 16 0) 102 0 0) a b from if_neg (by omega)]
        exact if_neg (by omega)
      have hm1 : ∀ a b, a ≠ 179 + n → (a < 57 ∨ 62 < a) → (a < 98 ∨ 101 < a) → ¬ (a = 0 ∧ (b = 18 ∨ b = 16)) → ¬ (a = 102 ∧ (b = 0 ∨ b = 37 ∨ b = 38 ∨ (34 ≤ b ∧ b ≤ 36))) → (a < 163 ∨ 168 < a) → (a < 170 ∨ 177 < a) → gI F2 a b = gI D a b := by
        intro a b q0 q1 q2 q3 q4 q5 q6
        rw [hfr a b q0 q4 q5 q6]
        rw [show gI (sI (zfill (zfill F1 100 8 0) 101 34 (-1000000)) 0 16 0) a b = gI (zfill (zfill F1 100 8 0) 101 34 (-1000000)) a b from if_neg (by omega)]
        rw [gIz (by omega), gIz (by omega), k3 _ _ (by omega)]
        exact if_neg (by omega)
      have h57 : ∀ a b, 57 ≤ a → a ≤ 62 → gI F2 a b = gI F1 a b := by
        intro a b q1 q2
        rw [hfr a b (by omega) (by omega) (by omega) (by omega), gI_na (by omega), gIz (by omega), gIz (by omega)]
      have g37 : gI F2 102 37 = nI n := by
        rw [m1 _ _ (by omega) (by omega) fun i hi39 q => by
          have := m_ne hi39
          omega]
        simp (disch := omega) only [Option.bind_some, Option.map_some, zlet_eq, ↓reduceIte, L_2, L_3, L_4, L_5, L_6, L_7, L_8, L_9, L_10, L_12, L_13, L_20, L_24, L_25, L_26, L_27, L_30, L_32, L_33, L_34, L_40, L_48, L_57, L_58, L_60, L_64, L_90, L_93, L_97, L_99, L_100, L_122, L_144, L_255, L_364, L_480, L_500, L_800, L_1000, L_100000, L_4096, L_1023, L_1024, nLe, nLt, nEq, nI_1, nI_add, pk_mul, nSn, nDn, nCl, zck_nI, zdv_nI, nNeg, nLe0, n0Lt, nEq0, nM1, m1N, m1Lt, nLm1, zcb_0, zcb_1, i10, i01, nEq1, n1Eq, nLt1, gI_eq, gI_nb, gI_na, x_badF, x_badT1, x_badT2, bt_0, bt_1, bit1_u, Bool.true_eq_false, Bool.false_eq_true, eq_self, Int32.or_zero, if_pos, if_neg]
      simp (disch := omega) only [Option.bind_some, Option.map_some, zlet_eq, ↓reduceIte, L_2, L_3, L_4, L_5, L_6, L_7, L_8, L_9, L_10, L_12, L_13, L_20, L_24, L_25, L_26, L_27, L_30, L_32, L_33, L_34, L_40, L_48, L_57, L_58, L_60, L_64, L_90, L_93, L_97, L_99, L_100, L_122, L_144, L_255, L_364, L_480, L_500, L_800, L_1000, L_100000, L_4096, L_1023, L_1024, nLe, nLt, nEq, nI_1, nI_add, pk_mul, nSn, nDn, nCl, zck_nI, zdv_nI, nNeg, nLe0, n0Lt, nEq0, nM1, m1N, m1Lt, nLm1, zcb_0, zcb_1, i10, i01, nEq1, n1Eq, nLt1, gI_eq, gI_nb, gI_na, x_badF, x_badT1, x_badT2, bt_0, bt_1, bit1_u, Bool.true_eq_false, Bool.false_eq_true, eq_self, Int32.or_zero, if_pos, if_neg, g37, zok_some]
      have hA : ∀ p : Nat → Nat → Prop, (∀ a b, p a b → (a < 57 ∨ 62 < a) ∧ (a < 98 ∨ 101 < a) ∧ ¬ (a = 0 ∧ (b = 18 ∨ b = 16)) ∧ ¬ (a = 102 ∧ (b = 0 ∨ b = 37 ∨ b = 38 ∨ (34 ≤ b ∧ b ≤ 36))) ∧ (a < 163 ∨ 168 < a) ∧ (a < 170 ∨ 177 < a) ∧ (a < 179 ∨ 181 < a)) → ag p D F2 := by
        intro p hp' a b q
        have := hp' a b q
        exact hm1 a b (by omega) this.1 this.2.1 this.2.2.1 this.2.2.2.1 this.2.2.2.2.1 this.2.2.2.2.2.1
      refine ⟨⟨pset (pset (pset (pset P 8 n) 5 d) 6 np) 7 nt, ?_⟩, trivial⟩
      obtain ⟨⟨hal, hco, hsc, him2, hta2⟩, hK2, hO2⟩ := h'
      refine ⟨⟨?_, ?_, ?_, ?_, ?_⟩, ?_, ?_⟩
      · exact iv_al.q rfl rfl rfl rfl ((hA pA (by unfold pA; intros; omega)).al hal)
      · exact iv_co.q rfl rfl rfl ((hA pB (by unfold pB; intros; omega)).co hco)
      · refine ⟨hzd, ⟨?_, ?_, ?_⟩, ⟨?_, ?_, ?_⟩, fun k hk => ?_, fun k hk => ?_⟩
        · show _ = nI d
          rw [h57 _ _ (by omega) (by omega), k0.1, gI_na (by omega), u0]
        · show _ = nI np
          rw [h57 _ _ (by omega) (by omega), k0.2.1, gI_na (by omega), u1]
        · show _ = nI nt
          rw [h57 _ _ (by omega) (by omega), k0.2.2, gI_na (by omega), u2]
        · show _ = nI d
          rw [rS_m, (m0 0 (by omega)).1, w0]
        · show _ = nI np
          rw [rS_m, (m0 1 (by omega)).1, w1]
        · show _ = nI nt
          rw [rS_m, (m0 2 (by omega)).1, w2]
        · replace hk : k < np := hk
          rw [rS_m, rS_m, (m0 _ (by omega)).1, (m0 _ (by omega)).1, h57 _ _ (by omega) (by omega), h57 _ _ (by omega) (by omega), (k1 k (by omega)).1, (k1 k (by omega)).2, gI_na (by omega), gI_na (by omega)]
          exact hzp k hk
        · replace hk : k < nt := hk
          rw [rS_m, rS_m, rS_m, (m0 _ (by omega)).1, (m0 _ (by omega)).1, (m0 _ (by omega)).1, h57 _ _ (by omega) (by omega), h57 _ _ (by omega) (by omega), h57 _ _ (by omega) (by omega), (k2 k (by omega)).1, (k2 k (by omega)).2.1, (k2 k (by omega)).2.2, gI_na (by omega), gI_na (by omega), gI_na (by omega)]
          exact hzt k hk
      · refine ⟨by show n ≤ 3; omega, ?_, g37, fun k hk => ?_⟩
        · show _ = nI n
          rw [hfr _ _ (by omega) (by omega) (by omega) (by omega), gI_nb (by omega), gIz (by omega), gIz (by omega), f18]
        · replace hk : k < n := hk
          obtain ⟨d2, np2, nt2, hz⟩ := him k (by omega)
          exact ⟨d2, np2, nt2, iv_Z.cong (fun j _ => (hm1 (179 + k) j (by omega) (by omega) (by omega) (by omega) (by omega) (by omega) (by omega)).symm) (iv_Z.keep (fun a j _ _ => hm1 a j (by omega) (by omega) (by omega) (by omega) (by omega) (by omega) (by omega)) hz)⟩
      · exact iv_ta.q rfl ((hA pT (by unfold pT; intros; omega)).ta hta2)
      · refine iv_K.new (by show P 2 ≤ 12; omega) (fun b hb34 => ?_) ?_
        · rw [hfr _ _ (by omega) (by omega) (by omega) (by omega), gI_na (by omega), gIz_eq hb34]
        · rw [hfr _ _ (by omega) (by omega) (by omega) (by omega), gI_eq]
      · refine iv_O.new (by show nt ≤ 8; omega) fun b hb8 => ?_
        rw [hfr _ _ (by omega) (by omega) (by omega) (by omega), gI_na (by omega), gIz (by omega), gIz_eq hb8]
  · have e8 : P 8 = 0 := by omega
    rw [i0]
    simp (disch := omega) only [Option.bind_some, Option.map_some, zlet_eq, ↓reduceIte, L_2, L_3, L_4, L_5, L_6, L_7, L_8, L_9, L_10, L_12, L_13, L_20, L_24, L_25, L_26, L_27, L_30, L_32, L_33, L_34, L_40, L_48, L_57, L_58, L_60, L_64, L_90, L_93, L_97, L_99, L_100, L_122, L_144, L_255, L_364, L_480, L_500, L_800, L_1000, L_100000, L_4096, L_1023, L_1024, nLe, nLt, nEq, nI_1, nI_add, pk_mul, nSn, nDn, nCl, zck_nI, zdv_nI, nNeg, nLe0, n0Lt, nEq0, nM1, m1N, m1Lt, nLm1, zcb_0, zcb_1, i10, i01, nEq1, n1Eq, nLt1, gI_eq, gI_nb, gI_na, x_badF, x_badT1, x_badT2, bt_0, bt_1, bit1_u, Bool.true_eq_false, Bool.false_eq_true, eq_self, Int32.or_zero, if_pos, if_neg, e8, zok_some]
    unfold fn_X12_restore
    simp (disch := omega) only [Option.bind_some, Option.map_some, zlet_eq, ↓reduceIte, L_2, L_3, L_4, L_5, L_6, L_7, L_8, L_9, L_10, L_12, L_13, L_20, L_24, L_25, L_26, L_27, L_30, L_32, L_33, L_34, L_40, L_48, L_57, L_58, L_60, L_64, L_90, L_93, L_97, L_99, L_100, L_122, L_144, L_255, L_364, L_480, L_500, L_800, L_1000, L_100000, L_4096, L_1023, L_1024, nLe, nLt, nEq, nI_1, nI_add, pk_mul, nSn, nDn, nCl, zck_nI, zdv_nI, nNeg, nLe0, n0Lt, nEq0, nM1, m1N, m1Lt, nLm1, zcb_0, zcb_1, i10, i01, nEq1, n1Eq, nLt1, gI_eq, gI_nb, gI_na, x_badF, x_badT1, x_badT2, bt_0, bt_1, bit1_u, Bool.true_eq_false, Bool.false_eq_true, eq_self, Int32.or_zero, if_pos, if_neg, i1, e8, zok_some]
    exact ⟨⟨P, h'.thr 0⟩, trivial⟩
end M60
