/-! THE MATHEMATICS: kept columns; what a standing one may be -/
def pX (a _b : Nat) : Prop := a < 98 ∨ 100 < a
section M63
variable {D : zD} {P : Nat → Nat}
theorem pX_iv {E : zD} (h : iv P D) (g : ag pX D E) (o : iv_O P E) : iv P E :=
  ⟨agC.C (g.mono (by unfold pX pcr pA pB pS pI pT; intros; omega)) h.1, (g.mono (by unfold pX pK; intros; omega)).K (g.mono (by unfold pX pA; intros; omega)) (g.mono (by unfold pX pB; intros; omega)) h.2.1, o⟩
theorem pX_XY {E : zD} (g : ag pX D E) : Xr E = Xr D ∧ Yr E = Yr D := ⟨funext fun o => g _ _ (by unfold pX; omega), funext fun o => g _ _ (by unfold pX; omega)⟩
theorem sBy_succ (w nt : Nat) (X Y : Nat → Int32) (b s : Nat) : sBy w nt X Y b (s + 1) = sBy w nt X Y b s ||| sSee w nt X Y b (nI (s + 1)) := by
  unfold sBy
  rw [zfo_last, Nat.zero_add]
theorem sBy_0 (w nt : Nat) (X Y : Nat → Int32) (b : Nat) : sBy w nt X Y b 0 = sSee w nt X Y b (nI 0) := Int32.zero_or
theorem c_columns (h : iv P D) {b s : Nat} (hb7 : b < P 7) (hs1 : s < 100) (so : Int32) : zok (fn_X5_columns 57 (nI (P 0)) (nI b) (nI s) so D) fun q => q.1 = sCol P D so b s ∧ iv P q.2 ∧ ag pX D q.2 := by
  have h' := h
  obtain ⟨⟨⟨hb, ⟨a0, a1, a2, a3⟩, ⟨b0, b1, b2, b3⟩, hs, hw⟩, ⟨hc, c1, c2, hcv⟩, ⟨hd, ⟨z0, z1, z2⟩, ⟨y0, y1, y2⟩, hp, ht⟩, ⟨hi, i0, i1, him⟩, ⟨hta, ta0, ta1, hpl, htb⟩⟩, hK, hO⟩ := h
  replace y0 : gI _ 102 34 = nI (P 5) := y0
  replace y1 : gI _ 102 35 = nI (P 6) := y1
  replace y2 : gI _ 102 36 = nI (P 7) := y2
  obtain ⟨m, hm, em, hmm⟩ := hO b hb7
  unfold fn_X5_columns
  simp (disch := omega) only [Option.bind_some, Option.map_some, zlet_eq, ↓reduceIte, L_2, L_3, L_4, L_5, L_6, L_7, L_8, L_9, L_10, L_12, L_13, L_20, L_24, L_25, L_26, L_27, L_30, L_32, L_33, L_34, L_40, L_48, L_57, L_58, L_60, L_64, L_90, L_93, L_97, L_99, L_100, L_122, L_144, L_255, L_364, L_480, L_500, L_800, L_1000, L_100000, L_4096, L_1023, L_1024, nLe, nLt, nEq, nI_1, nI_add, pk_mul, nSn, nDn, nCl, zck_nI, zdv_nI, nNeg, nLe0, n0Lt, nEq0, nM1, m1N, m1Lt, nLm1, zcb_0, zcb_1, i10, i01, nEq1, n1Eq, nLt1, gI_eq, gI_nb, gI_na, x_badF, x_badT1, x_badT2, bt_0, bt_1, bit1_u, Bool.true_eq_false, Bool.false_eq_true, eq_self, Int32.or_zero, L_11, L_14, L_15, L_16, L_17, L_18, L_19, L_21, L_22, L_23, L_28, L_29, if_pos, if_neg, em]
  have hiv : ∀ i E, (i ≤ 100 ∧ ag pX D E ∧ gI E 100 b = nI i ∧ (∀ k, k < i → gI E 98 (b * 100 + k) = sSee (P 0) (P 7) (Xr D) (Yr D) b (nI k) ∧ gI E 99 (b * 100 + k) = sBy (P 0) (P 7) (Xr D) (Yr D) b k) ∧ (∀ c, c ≠ b → c < 8 → gI E 100 c = gI D 100 c ∧ ∀ k, k < 100 → gI E 98 (c * 100 + k) = gI D 98 (c * 100 + k) ∧ gI E 99 (c * 100 + k) = gI D 99 (c * 100 + k))) → iv P E := by
    intro i E ⟨g1, g2, g3, g4, g5⟩
    refine pX_iv h' g2 fun c hc => ?_
    show ∃ m, m ≤ 100 ∧ gI E 100 c = nI m ∧ ∀ s, s < m → gI E 98 (c * 100 + s) = sSee (P 0) (P 7) (Xr E) (Yr E) c (nI s) ∧ gI E 99 (c * 100 + s) = sBy (P 0) (P 7) (Xr E) (Yr E) c s
    rw [(pX_XY g2).1, (pX_XY g2).2]
    by_cases e : c = b
    · subst e
      exact ⟨i, g1, g3, g4⟩
    · obtain ⟨mc, hmc, emc, hmmc⟩ := hO c hc
      refine ⟨mc, hmc, by rw [(g5 c e (by omega)).1, emc], fun s hs => ?_⟩
      rw [((g5 c e (by omega)).2 s (by omega)).1, ((g5 c e (by omega)).2 s (by omega)).2]
      exact hmmc s hs
  refine z_inv (max (s + 1) m) (fun n i (E : zD) => fn_X5_columns_38 57 (nI (P 0)) (nI b) (nI s) so n (nI (b * 100)) (nI i) E) (fun i E => m ≤ i ∧ (i ≤ 100 ∧ ag pX D E ∧ gI E 100 b = nI i ∧ (∀ k, k < i → gI E 98 (b * 100 + k) = sSee (P 0) (P 7) (Xr D) (Yr D) b (nI k) ∧ gI E 99 (b * 100 + k) = sBy (P 0) (P 7) (Xr D) (Yr D) b k) ∧ (∀ c, c ≠ b → c < 8 → gI E 100 c = gI D 100 c ∧ ∀ k, k < 100 → gI E 98 (c * 100 + k) = gI D 98 (c * 100 + k) ∧ gI E 99 (c * 100 + k) = gI D 99 (c * 100 + k)))) _ ?_ ?_ m zFU D (by omega) (zfu_gt (by omega)) ⟨Nat.le_refl _, hm, ag.refl, em, hmm, fun c _ _ => ⟨rfl, fun k _ => ⟨rfl, rfl⟩⟩⟩
  · intro n i E hi' ⟨hmi, hI⟩ ih
    have hE := hiv i E hI
    obtain ⟨g1, g2, g3, g4, g5⟩ := hI
    have his : i ≤ s := by omega
    show zok (fn_X5_columns_38 57 (nI (P 0)) (nI b) (nI s) so (n + 1) (nI (b * 100)) (nI i) E) _
    have ho := c_open hE hb7 (nI i)
    rw [(pX_XY g2).1, (pX_XY g2).2] at ho
    rw [fn_X5_columns_38]
    unfold fn_X5_columns_109
    generalize hS : sSee (P 0) (P 7) (Xr D) (Yr D) b (nI i) = S at ho
    have fin : ∀ w, w = sBy (P 0) (P 7) (Xr D) (Yr D) b i → m ≤ i + 1 ∧ (i + 1 ≤ 100 ∧ ag pX D (sI (sI (sI E 98 (b * 100 + i) S) 99 (b * 100 + i) w) 100 b (nI (i + 1))) ∧ gI (sI (sI (sI E 98 (b * 100 + i) S) 99 (b * 100 + i) w) 100 b (nI (i + 1))) 100 b = nI (i + 1) ∧ (∀ k, k < i + 1 → gI (sI (sI (sI E 98 (b * 100 + i) S) 99 (b * 100 + i) w) 100 b (nI (i + 1))) 98 (b * 100 + k) = sSee (P 0) (P 7) (Xr D) (Yr D) b (nI k) ∧ gI (sI (sI (sI E 98 (b * 100 + i) S) 99 (b * 100 + i) w) 100 b (nI (i + 1))) 99 (b * 100 + k) = sBy (P 0) (P 7) (Xr D) (Yr D) b k) ∧ (∀ c, c ≠ b → c < 8 → gI (sI (sI (sI E 98 (b * 100 + i) S) 99 (b * 100 + i) w) 100 b (nI (i + 1))) 100 c = gI D 100 c ∧ ∀ k, k < 100 → gI (sI (sI (sI E 98 (b * 100 + i) S) 99 (b * 100 + i) w) 100 b (nI (i + 1))) 98 (c * 100 + k) = gI D 98 (c * 100 + k) ∧ gI (sI (sI (sI E 98 (b * 100 + i) S) 99 (b * 100 + i) w) 100 b (nI (i + 1))) 99 (c * 100 + k) = gI D 99 (c * 100 + k))) := by
      intro w hw'
      refine ⟨by omega, by omega, ?_, gI_eq, fun k hk => ?_, fun c hc hc8 => ⟨?_, fun k hk => ⟨?_, ?_⟩⟩⟩
      · exact ((g2.sI (by unfold pX; omega)).sI (by unfold pX; omega)).sI (by unfold pX; omega)
      · by_cases e : k = i
        · subst e
          constructor
          · simp (disch := omega) only [Option.bind_some, Option.map_some, zlet_eq, ↓reduceIte, L_2, L_3, L_4, L_5, L_6, L_7, L_8, L_9, L_10, L_12, L_13, L_20, L_24, L_25, L_26, L_27, L_30, L_32, L_33, L_34, L_40, L_48, L_57, L_58, L_60, L_64, L_90, L_93, L_97, L_99, L_100, L_122, L_144, L_255, L_364, L_480, L_500, L_800, L_1000, L_100000, L_4096, L_1023, L_1024, nLe, nLt, nEq, nI_1, nI_add, pk_mul, nSn, nDn, nCl, zck_nI, zdv_nI, nNeg, nLe0, n0Lt, nEq0, nM1, m1N, m1Lt, nLm1, zcb_0, zcb_1, i10, i01, nEq1, n1Eq, nLt1, gI_eq, gI_nb, gI_na, x_badF, x_badT1, x_badT2, bt_0, bt_1, bit1_u, Bool.true_eq_false, Bool.false_eq_true, eq_self, Int32.or_zero, L_11, L_14, L_15, L_16, L_17, L_18, L_19, L_21, L_22, L_23, L_28, L_29, if_pos, if_neg, hS]
          · simp (disch := omega) only [Option.bind_some, Option.map_some, zlet_eq, ↓reduceIte, L_2, L_3, L_4, L_5, L_6, L_7, L_8, L_9, L_10, L_12, L_13, L_20, L_24, L_25, L_26, L_27, L_30, L_32, L_33, L_34, L_40, L_48, L_57, L_58, L_60, L_64, L_90, L_93, L_97, L_99, L_100, L_122, L_144, L_255, L_364, L_480, L_500, L_800, L_1000, L_100000, L_4096, L_1023, L_1024, nLe, nLt, nEq, nI_1, nI_add, pk_mul, nSn, nDn, nCl, zck_nI, zdv_nI, nNeg, nLe0, n0Lt, nEq0, nM1, m1N, m1Lt, nLm1, zcb_0, zcb_1, i10, i01, nEq1, n1Eq, nLt1, gI_eq, gI_nb, gI_na, x_badF, x_badT1, x_badT2, bt_0, bt_1, bit1_u, Bool.true_eq_false, Bool.false_eq_true, eq_self, Int32.or_zero, L_11, L_14, L_15, L_16, L_17, L_18, L_19, L_21, L_22, L_23, L_28, L_29, if_pos, if_neg, hw']
        · constructor
          · rw [gI_na (by omega), gI_na (by omega), gI_nb (by omega)]
            exact (g4 k (by omega)).1
          · rw [gI_na (by omega), gI_nb (by omega), gI_na (by omega)]
            exact (g4 k (by omega)).2
      · rw [gI_nb hc, gI_na (by omega), gI_na (by omega)]
        exact (g5 c hc hc8).1
      · rw [gI_na (by omega), gI_na (by omega), gI_nb (by omega)]
        exact ((g5 c hc hc8).2 k hk).1
      · rw [gI_na (by omega), gI_nb (by omega), gI_na (by omega)]
        exact ((g5 c hc hc8).2 k hk).2
    by_cases i0' : i = 0
    · subst i0'
      simp (disch := omega) only [Option.bind_some, Option.map_some, zlet_eq, ↓reduceIte, L_2, L_3, L_4, L_5, L_6, L_7, L_8, L_9, L_10, L_12, L_13, L_20, L_24, L_25, L_26, L_27, L_30, L_32, L_33, L_34, L_40, L_48, L_57, L_58, L_60, L_64, L_90, L_93, L_97, L_99, L_100, L_122, L_144, L_255, L_364, L_480, L_500, L_800, L_1000, L_100000, L_4096, L_1023, L_1024, nLe, nLt, nEq, nI_1, nI_add, pk_mul, nSn, nDn, nCl, zck_nI, zdv_nI, nNeg, nLe0, n0Lt, nEq0, nM1, m1N, m1Lt, nLm1, zcb_0, zcb_1, i10, i01, nEq1, n1Eq, nLt1, gI_eq, gI_nb, gI_na, x_badF, x_badT1, x_badT2, bt_0, bt_1, bit1_u, Bool.true_eq_false, Bool.false_eq_true, eq_self, Int32.or_zero, L_11, L_14, L_15, L_16, L_17, L_18, L_19, L_21, L_22, L_23, L_28, L_29, if_pos, if_neg, ho]
      refine ih _ (fin S ?_)
      rw [sBy_0, hS]
    · have e1 : b * 100 + i - 1 = b * 100 + (i - 1) := by omega
      have e2 : nI (b * 100 + i) - (1 : Int32) = nI (b * 100 + i - 1) := nS1 _ (by omega)
      simp (disch := omega) only [Option.bind_some, Option.map_some, zlet_eq, ↓reduceIte, L_2, L_3, L_4, L_5, L_6, L_7, L_8, L_9, L_10, L_12, L_13, L_20, L_24, L_25, L_26, L_27, L_30, L_32, L_33, L_34, L_40, L_48, L_57, L_58, L_60, L_64, L_90, L_93, L_97, L_99, L_100, L_122, L_144, L_255, L_364, L_480, L_500, L_800, L_1000, L_100000, L_4096, L_1023, L_1024, nLe, nLt, nEq, nI_1, nI_add, pk_mul, nSn, nDn, nCl, zck_nI, zdv_nI, nNeg, nLe0, n0Lt, nEq0, nM1, m1N, m1Lt, nLm1, zcb_0, zcb_1, i10, i01, nEq1, n1Eq, nLt1, gI_eq, gI_nb, gI_na, x_badF, x_badT1, x_badT2, bt_0, bt_1, bit1_u, Bool.true_eq_false, Bool.false_eq_true, eq_self, Int32.or_zero, L_11, L_14, L_15, L_16, L_17, L_18, L_19, L_21, L_22, L_23, L_28, L_29, if_pos, if_neg, ho, e2]
      refine ih _ (fin _ ?_)
      rw [e1, (g4 (i - 1) (by omega)).2]
      obtain ⟨j, rfl⟩ : ∃ j, i = j + 1 := ⟨i - 1, by omega⟩
      rw [sBy_succ, hS, Int32.or_comm]
      rfl
  · intro n E ⟨hmi, hI⟩
    have hE := hiv _ E hI
    obtain ⟨g1, g2, g3, g4, g5⟩ := hI
    show zok (fn_X5_columns_38 57 (nI (P 0)) (nI b) (nI s) so (n + 1) (nI (b * 100)) (nI (max (s + 1) m)) E) _
    rw [fn_X5_columns_38]
    unfold fn_X5_columns_127 sCol
    obtain ⟨f1, f2⟩ := g4 s (by omega)
    by_cases e : so = 0
    · simp (disch := omega) only [Option.bind_some, Option.map_some, zlet_eq, ↓reduceIte, L_2, L_3, L_4, L_5, L_6, L_7, L_8, L_9, L_10, L_12, L_13, L_20, L_24, L_25, L_26, L_27, L_30, L_32, L_33, L_34, L_40, L_48, L_57, L_58, L_60, L_64, L_90, L_93, L_97, L_99, L_100, L_122, L_144, L_255, L_364, L_480, L_500, L_800, L_1000, L_100000, L_4096, L_1023, L_1024, nLe, nLt, nEq, nI_1, nI_add, pk_mul, nSn, nDn, nCl, zck_nI, zdv_nI, nNeg, nLe0, n0Lt, nEq0, nM1, m1N, m1Lt, nLm1, zcb_0, zcb_1, i10, i01, nEq1, n1Eq, nLt1, gI_eq, gI_nb, gI_na, x_badF, x_badT1, x_badT2, bt_0, bt_1, bit1_u, Bool.true_eq_false, Bool.false_eq_true, eq_self, Int32.or_zero, L_11, L_14, L_15, L_16, L_17, L_18, L_19, L_21, L_22, L_23, L_28, L_29, if_pos, if_neg, e, zok_some]
      exact ⟨f1, hE, g2⟩
    · simp (disch := omega) only [Option.bind_some, Option.map_some, zlet_eq, ↓reduceIte, L_2, L_3, L_4, L_5, L_6, L_7, L_8, L_9, L_10, L_12, L_13, L_20, L_24, L_25, L_26, L_27, L_30, L_32, L_33, L_34, L_40, L_48, L_57, L_58, L_60, L_64, L_90, L_93, L_97, L_99, L_100, L_122, L_144, L_255, L_364, L_480, L_500, L_800, L_1000, L_100000, L_4096, L_1023, L_1024, nLe, nLt, nEq, nI_1, nI_add, pk_mul, nSn, nDn, nCl, zck_nI, zdv_nI, nNeg, nLe0, n0Lt, nEq0, nM1, m1N, m1Lt, nLm1, zcb_0, zcb_1, i10, i01, nEq1, n1Eq, nLt1, gI_eq, gI_nb, gI_na, x_badF, x_badT1, x_badT2, bt_0, bt_1, bit1_u, Bool.true_eq_false, Bool.false_eq_true, eq_self, Int32.or_zero, L_11, L_14, L_15, L_16, L_17, L_18, L_19, L_21, L_22, L_23, L_28, L_29, if_pos, if_neg, e, zok_some]
      exact ⟨f2, hE, g2⟩
/-- cells in columns that are not in cols -/
def sHc (w h : Nat) (cols : Int32) : Int32 := zset (fun i => !bt cols (i % w)) (w * h)
theorem c_hidc {w k : Nat} (h0 : gI D 3 0 = nI w) (h1 : gI D 3 1 = nI k) (hw : w ≤ 6) (hw1 : 1 ≤ w) (hh : k ≤ 5) (cols : Int32) : ∃ z, fn_X0_columnCells 3 cols D = some z ∧ nI (2 ^ (w * k) - 1) &&& (z ^^^ -1) = sHc w k cols := by
  have hwk := wh_le hw hh
  have hmul : ∀ y, y ≤ k → w * y ≤ w * k := fun y hy => Nat.mul_le_mul_left _ hy
  refine ⟨zfo (fun y acc => acc ||| ((cols &&& nI (2 ^ w - 1)) <<< (nI (w * y) &&& 31))) k 0 0, ?_, ?_⟩
  · refine z_for k (fun n i acc => fn_X0_columnCells_4 3 cols D n acc (nI i)) _ some ?_ ?_ 0 zFU 0 (Nat.zero_le _) (zfu_gt (by omega))
    · intro n i acc hi'
      show fn_X0_columnCells_4 3 cols D (n + 1) acc (nI i) = fn_X0_columnCells_4 3 cols D n _ (nI (i + 1))
      rw [fn_X0_columnCells_4, h0, h1]
      simp (disch := omega) only [Option.bind_some, Option.map_some, zlet_eq, ↓reduceIte, L_2, L_3, L_4, L_5, L_6, L_7, L_8, L_9, L_10, L_12, L_13, L_20, L_24, L_25, L_26, L_27, L_30, L_32, L_33, L_34, L_40, L_48, L_57, L_58, L_60, L_64, L_90, L_93, L_97, L_99, L_100, L_122, L_144, L_255, L_364, L_480, L_500, L_800, L_1000, L_100000, L_4096, L_1023, L_1024, nLe, nLt, nEq, nI_1, nI_add, pk_mul, nSn, nDn, nCl, zck_nI, zdv_nI, nNeg, nLe0, n0Lt, nEq0, nM1, m1N, m1Lt, nLm1, zcb_0, zcb_1, i10, i01, nEq1, n1Eq, nLt1, gI_eq, gI_nb, gI_na, x_badF, x_badT1, x_badT2, bt_0, bt_1, bit1_u, Bool.true_eq_false, Bool.false_eq_true, eq_self, Int32.or_zero, L_11, L_14, L_15, L_16, L_17, L_18, L_19, L_21, L_22, L_23, L_28, L_29, if_pos, if_neg, bd_eq2 w]
    · intro n acc
      show fn_X0_columnCells_4 3 cols D (n + 1) acc (nI k) = _
      rw [fn_X0_columnCells_4, h1]
      simp (disch := omega) only [Option.bind_some, Option.map_some, zlet_eq, ↓reduceIte, L_2, L_3, L_4, L_5, L_6, L_7, L_8, L_9, L_10, L_12, L_13, L_20, L_24, L_25, L_26, L_27, L_30, L_32, L_33, L_34, L_40, L_48, L_57, L_58, L_60, L_64, L_90, L_93, L_97, L_99, L_100, L_122, L_144, L_255, L_364, L_480, L_500, L_800, L_1000, L_100000, L_4096, L_1023, L_1024, nLe, nLt, nEq, nI_1, nI_add, pk_mul, nSn, nDn, nCl, zck_nI, zdv_nI, nNeg, nLe0, n0Lt, nEq0, nM1, m1N, m1Lt, nLm1, zcb_0, zcb_1, i10, i01, nEq1, n1Eq, nLt1, gI_eq, gI_nb, gI_na, x_badF, x_badT1, x_badT2, bt_0, bt_1, bit1_u, Bool.true_eq_false, Bool.false_eq_true, eq_self, Int32.or_zero, L_11, L_14, L_15, L_16, L_17, L_18, L_19, L_21, L_22, L_23, L_28, L_29, if_pos, if_neg]
  · have hz : ∀ y, y ≤ k → ∀ i, i < 32 → bt (zfo (fun y acc => acc ||| ((cols &&& nI (2 ^ w - 1)) <<< (nI (w * y) &&& 31))) y 0 0) i = (decide (i < w * y) && bt cols (i % w)) := by
      intro y
      induction y with
      | zero => intro _ i _; rw [Nat.mul_zero]; exact b_0 i
      | succ y ih =>
        intro hy i hi
        have hm1 := hmul (y + 1) hy
        rw [Nat.mul_succ] at hm1
        rw [zfo_last, Nat.zero_add, b_or, ih (by omega) i hi, b_shl (w * y) (by omega) _ hi, b_and, bt_bd (by omega), Nat.mul_succ]
        by_cases q1 : i < w * y
        · simp [q1, show ¬ w * y ≤ i by omega, show i < w * y + w by omega]
        · by_cases q2 : i < w * y + w
          · have e : i % w = i - w * y := by
              rw [show i = w * y + (i - w * y) by omega, Nat.mul_add_mod, Nat.mod_eq_of_lt (by omega)]
              omega
            simp [q1, q2, show w * y ≤ i by omega, show i - w * y < w by omega, e]
          · simp [q1, q2, show ¬ i - w * y < w by omega]
    apply b_ext
    intro i hi
    unfold sHc
    rw [b_and, bt_bd (by omega), bt_not _ hi, hz k (Nat.le_refl _) i hi, bt_zset (by omega) hi]
    by_cases q : i < w * k
    · simp [q]
    · simp [q]
def sGu (P : Nat → Nat) (D : zD) (so : Int32) (b s : Nat) : Int32 := sMay (P 2) (gI D 105) (sHc (P 0) (P 1) (sCol P D so b s)) (gI D 105 (un (gI D (170 + b) 0))) (P 5)
theorem sCol_cong {E : zD} (hX : Xr E = Xr D) (hY : Yr E = Yr D) (so : Int32) (b s : Nat) : sCol P E so b s = sCol P D so b s := by
  unfold sCol
  rw [hX, hY]
theorem sGu_cong {E : zD} (hX : Xr E = Xr D) (hY : Yr E = Yr D) (h5 : gI E 105 = gI D 105) (so : Int32) {b : Nat} (s : Nat) (hb : gI E (170 + b) 0 = gI D (170 + b) 0) : sGu P E so b s = sGu P D so b s := by
  unfold sGu
  rw [sCol_cong hX hY, h5, hb]
theorem c_guess (h : iv P D) {b s : Nat} (hb7 : b < P 7) (hs1 : s < 100) (so : Int32) : zok (fn_X11_guessBits (nI b) (nI s) so D) fun q => q.1 = sGu P D so b s ∧ iv P q.2 ∧ ag pX D q.2 := by
  have h' := h
  have hcol := c_columns h hb7 hs1 so
  obtain ⟨⟨⟨hb, ⟨a0, a1, a2, a3⟩, ⟨b0, b1, b2, b3⟩, hs, hw⟩, ⟨hc, c1, c2, hcv⟩, ⟨hd, ⟨z0, z1, z2⟩, ⟨y0, y1, y2⟩, hp, ht⟩, ⟨hi, i0, i1, him⟩, ⟨hta, ta0, ta1, hpl, htb⟩⟩, hK, hO⟩ := h
  replace y0 : gI _ 102 34 = nI (P 5) := y0
  replace y1 : gI _ 102 35 = nI (P 6) := y1
  replace y2 : gI _ 102 36 = nI (P 7) := y2
  unfold fn_X11_guessBits
  rw [a0]
  refine hcol.bind fun q ⟨e1, e2, e3⟩ => ?_
  have e2' := e2
  obtain ⟨sg, hsg, f60, _, _, f170⟩ := iv_st e2' hb7
  obtain ⟨⟨⟨hb, ⟨a0, a1, a2, a3⟩, ⟨b0, b1, b2, b3⟩, hs, hw⟩, ⟨hc, c1, c2, hcv⟩, ⟨hd, ⟨z0, z1, z2⟩, ⟨y0, y1, y2⟩, hp, ht⟩, ⟨hi, i0, i1, him⟩, ⟨hta, ta0, ta1, hpl, htb⟩⟩, hK, hO⟩ := e2
  replace y0 : gI _ 102 34 = nI (P 5) := y0
  replace y1 : gI _ 102 35 = nI (P 6) := y1
  replace y2 : gI _ 102 36 = nI (P 7) := y2
  obtain ⟨z, hz1, hz2⟩ := c_hidc (D := q.2) a0 a1 (by omega) (by omega) (by omega) (sCol P D so b s)
  rw [c_board a0 a1 (by omega) (by omega), Option.bind_some, e1, hz1, Option.bind_some, zlet_eq, hz2, (c_far z2 hd.2.2 hb7).2.2, f60, Option.bind_some, v_paint a2 hsg (by omega), Option.bind_some, z0, c_within a2 (by omega) _ _ (by omega), Option.bind_some, zok_some]
  refine ⟨?_, e2', e3⟩
  show sMay (P 2) (gI q.2 4) _ _ (P 5) = _
  rw [sMay_cong fun s hs' => (hs s hs').1]
  unfold sGu
  rw [(hs sg hsg).1, show gI q.2 105 = gI D 105 from funext fun b => e3 _ _ (by unfold pX; omega), ← e3 (170 + b) 0 (by unfold pX; omega), f170, un_nI (by omega)]
theorem r_guessBy (h : iv P D) {b : Nat} (hb7 : b < P 7) (cols : Int32) : fn_X12_guessBy (nI b) cols D = some (sMay (P 2) (gI D 105) (sHc (P 0) (P 1) cols) (gI D 105 (un (gI D (170 + b) 0))) (P 5)) := by
  have h' := h
  obtain ⟨sg, hsg, f60, _, _, f170⟩ := iv_st h hb7
  obtain ⟨⟨⟨hb, ⟨a0, a1, a2, a3⟩, ⟨b0, b1, b2, b3⟩, hs, hw⟩, ⟨hc, c1, c2, hcv⟩, ⟨hd, ⟨z0, z1, z2⟩, ⟨y0, y1, y2⟩, hp, ht⟩, ⟨hi, i0, i1, him⟩, ⟨hta, ta0, ta1, hpl, htb⟩⟩, hK, hO⟩ := h
  replace y0 : gI _ 102 34 = nI (P 5) := y0
  replace y1 : gI _ 102 35 = nI (P 6) := y1
  replace y2 : gI _ 102 36 = nI (P 7) := y2
  have hwk := wh_le (w := P 0) (h := P 1) (by omega) (by omega)
  have e := z_for (P 0 * P 1) (fun n i acc => fn_X12_guessBy_5 (nI b) cols D n acc (nI i)) (fun i acc => if (fun i => !bt cols (i % P 0)) i then acc ||| bit1 i else acc) (fun acc => fn_X12_guessBy_45 (nI b) cols D acc) ?_ ?_ 0 zFU 0 (Nat.zero_le _) (zfu_gt (by omega))
  · unfold fn_X12_guessBy
    refine Eq.trans e ?_
    unfold fn_X12_guessBy_45
    simp (disch := omega) only [Option.bind_some, Option.map_some, zlet_eq, ↓reduceIte, L_2, L_3, L_4, L_5, L_6, L_7, L_8, L_9, L_10, L_12, L_13, L_20, L_24, L_25, L_26, L_27, L_30, L_32, L_33, L_34, L_40, L_48, L_57, L_58, L_60, L_64, L_90, L_93, L_97, L_99, L_100, L_122, L_144, L_255, L_364, L_480, L_500, L_800, L_1000, L_100000, L_4096, L_1023, L_1024, nLe, nLt, nEq, nI_1, nI_add, pk_mul, nSn, nDn, nCl, zck_nI, zdv_nI, nNeg, nLe0, n0Lt, nEq0, nM1, m1N, m1Lt, nLm1, zcb_0, zcb_1, i10, i01, nEq1, n1Eq, nLt1, gI_eq, gI_nb, gI_na, x_badF, x_badT1, x_badT2, bt_0, bt_1, bit1_u, Bool.true_eq_false, Bool.false_eq_true, eq_self, Int32.or_zero, L_11, L_14, L_15, L_16, L_17, L_18, L_19, L_21, L_22, L_23, L_28, L_29, if_pos, if_neg, f170]
    rw [r_mayBe b2 (by omega) (d := P 5) (by omega) y0, Option.bind_some, un_nI (by omega)]
    rfl
  · intro n i acc hi'
    show fn_X12_guessBy_5 (nI b) cols D (n + 1) acc (nI i) = fn_X12_guessBy_5 (nI b) cols D n _ (nI (i + 1))
    have hlt : i % P 0 < P 0 := Nat.mod_lt _ (by omega)
    rw [fn_X12_guessBy_5]
    unfold fn_X12_cells
    rw [b0, b1, Option.bind_some, pk_mul, if_neg (nI_ge hi' (by omega)), zdv_nI (by omega) (by omega), nRn _ _ (by omega) (by omega) (by omega)]
    cases hB : bt cols (i % P 0)
    · simp (disch := omega) only [Option.bind_some, Option.map_some, zlet_eq, ↓reduceIte, L_2, L_3, L_4, L_5, L_6, L_7, L_8, L_9, L_10, L_12, L_13, L_20, L_24, L_25, L_26, L_27, L_30, L_32, L_33, L_34, L_40, L_48, L_57, L_58, L_60, L_64, L_90, L_93, L_97, L_99, L_100, L_122, L_144, L_255, L_364, L_480, L_500, L_800, L_1000, L_100000, L_4096, L_1023, L_1024, nLe, nLt, nEq, nI_1, nI_add, pk_mul, nSn, nDn, nCl, zck_nI, zdv_nI, nNeg, nLe0, n0Lt, nEq0, nM1, m1N, m1Lt, nLm1, zcb_0, zcb_1, i10, i01, nEq1, n1Eq, nLt1, gI_eq, gI_nb, gI_na, x_badF, x_badT1, x_badT2, bt_0, bt_1, bit1_u, Bool.true_eq_false, Bool.false_eq_true, eq_self, Int32.or_zero, L_11, L_14, L_15, L_16, L_17, L_18, L_19, L_21, L_22, L_23, L_28, L_29, if_pos, if_neg, hB, Bool.not_false]
    · simp (disch := omega) only [Option.bind_some, Option.map_some, zlet_eq, ↓reduceIte, L_2, L_3, L_4, L_5, L_6, L_7, L_8, L_9, L_10, L_12, L_13, L_20, L_24, L_25, L_26, L_27, L_30, L_32, L_33, L_34, L_40, L_48, L_57, L_58, L_60, L_64, L_90, L_93, L_97, L_99, L_100, L_122, L_144, L_255, L_364, L_480, L_500, L_800, L_1000, L_100000, L_4096, L_1023, L_1024, nLe, nLt, nEq, nI_1, nI_add, pk_mul, nSn, nDn, nCl, zck_nI, zdv_nI, nNeg, nLe0, n0Lt, nEq0, nM1, m1N, m1Lt, nLm1, zcb_0, zcb_1, i10, i01, nEq1, n1Eq, nLt1, gI_eq, gI_nb, gI_na, x_badF, x_badT1, x_badT2, bt_0, bt_1, bit1_u, Bool.true_eq_false, Bool.false_eq_true, eq_self, Int32.or_zero, L_11, L_14, L_15, L_16, L_17, L_18, L_19, L_21, L_22, L_23, L_28, L_29, if_pos, if_neg, hB, Bool.not_true]
  · intro n acc
    show fn_X12_guessBy_5 (nI b) cols D (n + 1) acc (nI (P 0 * P 1)) = _
    rw [fn_X12_guessBy_5]
    unfold fn_X12_cells
    rw [b0, b1, Option.bind_some, pk_mul, if_pos (nI_le (Nat.le_refl _) (by omega))]
end M63
