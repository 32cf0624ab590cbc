/-! THE MATHEMATICS: voyage -/
def pV (a _b : Nat) : Prop := a ≠ 204 ∧ a ≠ 205
section M66
variable {D : zD} {P : Nat → Nat}
/-- the standing ones tell the word w -/
def sSp (P : Nat → Nat) (D : zD) (w : Nat) : Bool := zal (fun b => decide (gI D (120 + w) b = gI D (170 + b) 0)) (P 7)
def sTo (P : Nat → Nat) (D : zD) (w : Nat) : Bool := decide (gI D 109 w = nI (P 7)) && sSp P D w
def sMb (P : Nat → Nat) (D : zD) (so : Int32) (s w : Nat) : Bool := zal (fun b => bt (sGu P D so b s) (un (gI D (120 + w) b))) (P 7)
def sWk (P : Nat → Nat) (D : zD) (so : Int32) (s : Nat) : Bool := zal (fun w => !(decide (gI D 109 w = nI (P 7)) && !sSp P D w && sMb P D so s w)) (P 3)
theorem c_spells (h : iv P D) {w : Nat} (hw3 : w < P 3) (hl : gI D 109 w = nI (P 7)) : fn_X11_standingSpells (nI w) D = some (if sSp P D w = true then 1 else 0) := by
  have h' := h
  obtain ⟨⟨⟨hb, ⟨a0, a1, a2, a3⟩, ⟨b0, b1, b2, b3⟩, hs, hw⟩, ⟨hc, c1, c2, hcv⟩, ⟨hd, ⟨z0, z1, z2⟩, ⟨y0, y1, y2⟩, hp, ht⟩, ⟨hi, i0, i1, him⟩, ⟨hta, ta0, ta1, hpl, htb⟩⟩, hK, hO⟩ := h
  replace y0 : gI _ 102 34 = nI (P 5) := y0
  replace y1 : gI _ 102 35 = nI (P 6) := y1
  replace y2 : gI _ 102 36 = nI (P 7) := y2
  obtain ⟨l, l1, l6, w1, w2, w3⟩ := hw w hw3
  have e : l = P 7 := by rw [w2] at hl; exact (nI_eq (by omega) (by omega)).mp hl
  refine Eq.trans (z_find (P 7) (fun n i => fn_X11_standingSpells_2 (nI w) D n (nI i)) (fun b => !decide (gI D (120 + w) b = gI D (170 + b) 0)) (fun _ => some 0) (some 1) ?_ ?_ 0 zFU (Nat.zero_le _) (zfu_gt (by omega))) ?_
  · intro n i hi'
    show fn_X11_standingSpells_2 (nI w) D (n + 1) (nI i) = if _ then _ else fn_X11_standingSpells_2 (nI w) D n (nI (i + 1))
    obtain ⟨s, hs2, w4, w5⟩ := w3 i (by omega)
    obtain ⟨sg, hsg, f60, _, _, f170⟩ := iv_st h' hi'
    rw [fn_X11_standingSpells_2, z2, if_neg (nI_ge hi' (by omega)), v_let a3 hw3 (by omega) w1 (show i < l by omega) l6, Option.bind_some, (c_far z2 hd.2.2 hi').2.2, Option.bind_some, w4, f60, w5, f170, nI_1]
    by_cases g : nI s = nI sg
    · rw [if_pos g, if_neg (by simp [g])]
    · rw [if_neg g, if_pos (by simp [g])]
  · intro n
    show fn_X11_standingSpells_2 (nI w) D (n + 1) (nI (P 7)) = _
    rw [fn_X11_standingSpells_2, z2]
    simp (disch := omega) only [Option.bind_some, Option.map_some, zlet_eq, ↓reduceIte, L_2, L_3, L_4, L_5, L_6, L_7, L_8, L_9, L_10, L_12, L_13, L_20, L_24, L_25, L_26, L_27, L_30, L_32, L_33, L_34, L_40, L_48, L_57, L_58, L_60, L_64, L_90, L_93, L_97, L_99, L_100, L_122, L_144, L_255, L_364, L_480, L_500, L_800, L_1000, L_100000, L_4096, L_1023, L_1024, nLe, nLt, nEq, nI_1, nI_add, pk_mul, nSn, nDn, nCl, zck_nI, zdv_nI, nNeg, nLe0, n0Lt, nEq0, nM1, m1N, m1Lt, nLm1, zcb_0, zcb_1, i10, i01, nEq1, n1Eq, nLt1, gI_eq, gI_nb, gI_na, x_badF, x_badT1, x_badT2, bt_0, bt_1, bit1_u, Bool.true_eq_false, Bool.false_eq_true, eq_self, Int32.or_zero, L_11, L_14, L_15, L_16, L_17, L_18, L_19, L_21, L_22, L_23, L_28, L_29, if_pos, if_neg]
  · rw [Nat.sub_zero]
    unfold sSp zal
    by_cases g : zff (fun b => !decide (gI D (120 + w) b = gI D (170 + b) 0)) (P 7) 0 < P 7
    · rw [if_pos g, if_neg (by simp [g])]
    · rw [if_neg g, if_pos (by simp [g])]
theorem c_isTold (h : iv P D) : fn_X11_standingIsTold D = some (if zal (fun w => !sTo P D w) (P 3) = true then 0 else 1) := by
  have h' := h
  obtain ⟨⟨⟨hb, ⟨a0, a1, a2, a3⟩, ⟨b0, b1, b2, b3⟩, hs, hw⟩, ⟨hc, c1, c2, hcv⟩, ⟨hd, ⟨z0, z1, z2⟩, ⟨y0, y1, y2⟩, hp, ht⟩, ⟨hi, i0, i1, him⟩, ⟨hta, ta0, ta1, hpl, htb⟩⟩, hK, hO⟩ := h
  replace y0 : gI _ 102 34 = nI (P 5) := y0
  replace y1 : gI _ 102 35 = nI (P 6) := y1
  replace y2 : gI _ 102 36 = nI (P 7) := y2
  refine Eq.trans (z_find (P 3) (fun n i => fn_X11_standingIsTold_2 D n (nI i)) (fun w => !!sTo P D w) (fun _ => some 1) (some 0) ?_ ?_ 0 zFU (Nat.zero_le _) (zfu_gt (by omega))) ?_
  · intro n w hw3
    show fn_X11_standingIsTold_2 D (n + 1) (nI w) = if _ then _ else fn_X11_standingIsTold_2 D n (nI (w + 1))
    obtain ⟨l, l1, l6, w1, w2, w3⟩ := hw w hw3
    rw [fn_X11_standingIsTold_2, a3, if_neg (nI_ge hw3 (by omega)), v_len a3 hw3 (by omega), w1, z2, Option.bind_some, nI_1]
    unfold sTo
    rw [w2]
    by_cases g : nI l = nI (P 7)
    · rw [if_pos g, c_spells h' hw3 (by rw [w2, g]), Option.bind_some]
      cases hS : sSp P D w
      · rw [if_neg (show ¬ (false = true) by decide), if_pos rfl, if_neg (by simp)]
      · rw [if_pos rfl, if_neg (by decide), if_pos (by simp [g])]
    · rw [if_neg g, if_neg (by simp [g])]
  · intro n
    show fn_X11_standingIsTold_2 D (n + 1) (nI (P 3)) = _
    rw [fn_X11_standingIsTold_2, a3]
    simp (disch := omega) only [Option.bind_some, Option.map_some, zlet_eq, ↓reduceIte, L_2, L_3, L_4, L_5, L_6, L_7, L_8, L_9, L_10, L_12, L_13, L_20, L_24, L_25, L_26, L_27, L_30, L_32, L_33, L_34, L_40, L_48, L_57, L_58, L_60, L_64, L_90, L_93, L_97, L_99, L_100, L_122, L_144, L_255, L_364, L_480, L_500, L_800, L_1000, L_100000, L_4096, L_1023, L_1024, nLe, nLt, nEq, nI_1, nI_add, pk_mul, nSn, nDn, nCl, zck_nI, zdv_nI, nNeg, nLe0, n0Lt, nEq0, nM1, m1N, m1Lt, nLm1, zcb_0, zcb_1, i10, i01, nEq1, n1Eq, nLt1, gI_eq, gI_nb, gI_na, x_badF, x_badT1, x_badT2, bt_0, bt_1, bit1_u, Bool.true_eq_false, Bool.false_eq_true, eq_self, Int32.or_zero, L_11, L_14, L_15, L_16, L_17, L_18, L_19, L_21, L_22, L_23, L_28, L_29, if_pos, if_neg]
  · rw [Nat.sub_zero]
    unfold zal
    by_cases g : zff (fun w => !!sTo P D w) (P 3) 0 < P 3
    · rw [if_pos g, if_neg (by simpa using g)]
    · rw [if_neg g, if_pos (by simpa using g)]
theorem wordspace {E : zD} (g : ag pX D E) (w : Nat) : sSp P E w = sSp P D w := zal_cong fun b _ => by rw [g (120 + w) b (by unfold pX; omega), g (170 + b) 0 (by unfold pX; omega)]
theorem sGu_X {E : zD} (g : ag pX D E) (so : Int32) (b s : Nat) : sGu P E so b s = sGu P D so b s := sGu_cong (pX_XY g).1 (pX_XY g).2 (funext fun b => g _ _ (by unfold pX; omega)) so s (g _ _ (by unfold pX; omega))
theorem c_mayBe (h : iv P D) {w s : Nat} (hw3 : w < P 3) (hl : gI D 109 w = nI (P 7)) (hs1 : s < 100) (so : Int32) : zok (fn_X11_standingMayBe (nI w) (nI s) so D) fun q => q.1 = (if sMb P D so s w = true then 1 else 0) ∧ iv P q.2 ∧ ag pX D q.2 := by
  refine z_inv (P 7) (fun n b (E : zD) => fn_X11_standingMayBe_3 (nI w) (nI s) so n (nI b) E) (fun b E => iv P E ∧ ag pX D E ∧ ∀ c, c < b → bt (sGu P D so c s) (un (gI D (120 + w) c)) = true) _ ?_ ?_ 0 zFU D (by omega) (zfu_gt (by have := h.1.2.2.1.1.2.2; omega)) ⟨h, ag.refl, fun c hc => by omega⟩
  · intro n b E hb7 ⟨g1, g2, g3⟩ ih
    show zok (fn_X11_standingMayBe_3 (nI w) (nI s) so (n + 1) (nI b) E) _
    have g1' := g1
    obtain ⟨⟨⟨hb, ⟨a0, a1, a2, a3⟩, ⟨b0, b1, b2, b3⟩, hs, hw⟩, ⟨hc, c1, c2, hcv⟩, ⟨hd, ⟨z0, z1, z2⟩, ⟨y0, y1, y2⟩, hp, ht⟩, ⟨hi, i0, i1, him⟩, ⟨hta, ta0, ta1, hpl, htb⟩⟩, hK, hO⟩ := g1
    replace y0 : gI _ 102 34 = nI (P 5) := y0
    replace y1 : gI _ 102 35 = nI (P 6) := y1
    replace y2 : gI _ 102 36 = nI (P 7) := y2
    rw [fn_X11_standingMayBe_3, z2]
    simp (disch := omega) only [Option.bind_some, Option.map_some, zlet_eq, ↓reduceIte, L_2, L_3, L_4, L_5, L_6, L_7, L_8, L_9, L_10, L_12, L_13, L_20, L_24, L_25, L_26, L_27, L_30, L_32, L_33, L_34, L_40, L_48, L_57, L_58, L_60, L_64, L_90, L_93, L_97, L_99, L_100, L_122, L_144, L_255, L_364, L_480, L_500, L_800, L_1000, L_100000, L_4096, L_1023, L_1024, nLe, nLt, nEq, nI_1, nI_add, pk_mul, nSn, nDn, nCl, zck_nI, zdv_nI, nNeg, nLe0, n0Lt, nEq0, nM1, m1N, m1Lt, nLm1, zcb_0, zcb_1, i10, i01, nEq1, n1Eq, nLt1, gI_eq, gI_nb, gI_na, x_badF, x_badT1, x_badT2, bt_0, bt_1, bit1_u, Bool.true_eq_false, Bool.false_eq_true, eq_self, Int32.or_zero, L_11, L_14, L_15, L_16, L_17, L_18, L_19, L_21, L_22, L_23, L_28, L_29, if_pos, if_neg]
    refine (c_guess g1' hb7 hs1 so).bind fun q ⟨e1, e2, e3⟩ => ?_
    rw [sGu_X g2] at e1
    obtain ⟨l, l1, l6, w1, w2, w3⟩ := e2.1.1.2.2.2.2 w hw3
    have a3' : gI q.2 3 3 = nI (P 3) := e2.1.1.2.1.2.2.2
    have hP3 : P 3 ≤ 8 := e2.1.1.1.2.2.2.2.2
    have e : l = P 7 := by
      rw [← g2 109 w (by unfold pX; omega), ← e3 109 w (by unfold pX; omega), w2] at hl
      exact (nI_eq (by omega) (by omega)).mp hl
    obtain ⟨m, hm, w4, w5⟩ := w3 b (by omega)
    have hP2 : P 2 ≤ 12 := e2.1.1.1.2.2.2.2.1
    have hbt : bt (sGu P D so b s) (un (gI D (120 + w) b)) = bt (sGu P D so b s) m := by rw [← g2 (120 + w) b (by unfold pX; omega), ← e3 (120 + w) b (by unfold pX; omega), w5, un_nI (by omega)]
    rw [v_let a3' hw3 hP3 w1 (show b < l by omega) l6, Option.bind_some, w4, e1]
    cases hB : bt (sGu P D so b s) m
    · rw [hB] at hbt
      simp (disch := omega) only [Option.bind_some, Option.map_some, zlet_eq, ↓reduceIte, L_2, L_3, L_4, L_5, L_6, L_7, L_8, L_9, L_10, L_12, L_13, L_20, L_24, L_25, L_26, L_27, L_30, L_32, L_33, L_34, L_40, L_48, L_57, L_58, L_60, L_64, L_90, L_93, L_97, L_99, L_100, L_122, L_144, L_255, L_364, L_480, L_500, L_800, L_1000, L_100000, L_4096, L_1023, L_1024, nLe, nLt, nEq, nI_1, nI_add, pk_mul, nSn, nDn, nCl, zck_nI, zdv_nI, nNeg, nLe0, n0Lt, nEq0, nM1, m1N, m1Lt, nLm1, zcb_0, zcb_1, i10, i01, nEq1, n1Eq, nLt1, gI_eq, gI_nb, gI_na, x_badF, x_badT1, x_badT2, bt_0, bt_1, bit1_u, Bool.true_eq_false, Bool.false_eq_true, eq_self, Int32.or_zero, L_11, L_14, L_15, L_16, L_17, L_18, L_19, L_21, L_22, L_23, L_28, L_29, if_pos, if_neg, hB, zok_some]
      refine ⟨?_, e2, g2.trans e3⟩
      unfold sMb
      rw [zal_no hb7 hbt, if_neg (by decide)]
    · rw [hB] at hbt
      simp (disch := omega) only [Option.bind_some, Option.map_some, zlet_eq, ↓reduceIte, L_2, L_3, L_4, L_5, L_6, L_7, L_8, L_9, L_10, L_12, L_13, L_20, L_24, L_25, L_26, L_27, L_30, L_32, L_33, L_34, L_40, L_48, L_57, L_58, L_60, L_64, L_90, L_93, L_97, L_99, L_100, L_122, L_144, L_255, L_364, L_480, L_500, L_800, L_1000, L_100000, L_4096, L_1023, L_1024, nLe, nLt, nEq, nI_1, nI_add, pk_mul, nSn, nDn, nCl, zck_nI, zdv_nI, nNeg, nLe0, n0Lt, nEq0, nM1, m1N, m1Lt, nLm1, zcb_0, zcb_1, i10, i01, nEq1, n1Eq, nLt1, gI_eq, gI_nb, gI_na, x_badF, x_badT1, x_badT2, bt_0, bt_1, bit1_u, Bool.true_eq_false, Bool.false_eq_true, eq_self, Int32.or_zero, L_11, L_14, L_15, L_16, L_17, L_18, L_19, L_21, L_22, L_23, L_28, L_29, if_pos, if_neg, hB]
      exact ih _ ⟨e2, g2.trans e3, fun c hc => by
        by_cases qq : c = b
        · subst qq; exact hbt
        · exact g3 c (by omega)⟩
  · intro n E ⟨g1, g2, g3⟩
    show zok (fn_X11_standingMayBe_3 (nI w) (nI s) so (n + 1) (nI (P 7)) E) _
    have z2 : gI E 57 2 = nI (P 7) := g1.1.2.2.1.2.1.2.2
    rw [fn_X11_standingMayBe_3, z2, if_pos (nI_le (Nat.le_refl _) (by have := h.1.2.2.1.1.2.2; omega)), zok_some]
    refine ⟨?_, g1, g2⟩
    unfold sMb
    rw [zal_iff.mpr g3, if_pos rfl]
theorem c_wordKnown (h : iv P D) {s : Nat} (hs1 : s < 100) (so : Int32) : zok (fn_X11_wordIsKnown (nI s) so D) fun q => q.1 = (if sWk P D so s = true then 1 else 0) ∧ iv P q.2 ∧ ag pX D q.2 := by
  have hP3 : P 3 ≤ 8 := h.1.1.1.2.2.2.2.2
  refine z_inv (P 3) (fun n w (E : zD) => fn_X11_wordIsKnown_2 (nI s) so n (nI w) E) (fun w E => iv P E ∧ ag pX D E ∧ ∀ c, c < w → (!(decide (gI D 109 c = nI (P 7)) && !sSp P D c && sMb P D so s c)) = true) _ ?_ ?_ 0 zFU D (by omega) (zfu_gt (by omega)) ⟨h, ag.refl, fun c hc => by omega⟩
  · intro n w E hw3 ⟨g1, g2, g3⟩ ih
    show zok (fn_X11_wordIsKnown_2 (nI s) so (n + 1) (nI w) E) _
    have g1' := g1
    obtain ⟨⟨⟨hb, ⟨a0, a1, a2, a3⟩, ⟨b0, b1, b2, b3⟩, hs, hw⟩, ⟨hc, c1, c2, hcv⟩, ⟨hd, ⟨z0, z1, z2⟩, ⟨y0, y1, y2⟩, hp, ht⟩, ⟨hi, i0, i1, him⟩, ⟨hta, ta0, ta1, hpl, htb⟩⟩, hK, hO⟩ := g1
    replace y0 : gI _ 102 34 = nI (P 5) := y0
    replace y1 : gI _ 102 35 = nI (P 6) := y1
    replace y2 : gI _ 102 36 = nI (P 7) := y2
    obtain ⟨l, l1, l6, w1, w2, w3⟩ := hw w hw3
    have w2D : gI D 109 w = nI l := by rw [← g2 109 w (by unfold pX; omega), w2]
    have nxt : ∀ F, iv P F → ag pX D F → (!(decide (gI D 109 w = nI (P 7)) && !sSp P D w && sMb P D so s w)) = true → zok (fn_X11_wordIsKnown_2 (nI s) so n (nI (w + 1)) F) fun q => q.1 = (if sWk P D so s = true then 1 else 0) ∧ iv P q.2 ∧ ag pX D q.2 := by
      intro F f1 f2 f3
      exact ih F ⟨f1, f2, fun c hc => by
        by_cases qq : c = w
        · subst qq; exact f3
        · exact g3 c (by omega)⟩
    rw [fn_X11_wordIsKnown_2, a3, if_neg (nI_ge hw3 (by omega)), v_len a3 hw3 (by omega), w1, z2, Option.bind_some, nI_1]
    by_cases g : nI l = nI (P 7)
    · rw [if_pos g, c_spells g1' hw3 (by rw [w2, g]), wordspace g2, Option.bind_some]
      cases hS : sSp P D w
      · rw [if_neg (show ¬ (false = true) by decide), if_pos rfl]
        refine (c_mayBe g1' hw3 (by rw [w2, g]) hs1 so).bind fun q ⟨e1, e2, e3⟩ => ?_
        have hM : sMb P E so s w = sMb P D so s w := zal_cong fun b _ => by rw [sGu_X g2, g2 (120 + w) b (by unfold pX; omega)]
        rw [hM] at e1
        cases hm : sMb P D so s w
        · rw [hm] at e1
          rw [e1, if_neg (show ¬ (false = true) by decide), if_pos rfl]
          exact nxt _ e2 (g2.trans e3) (by rw [hm]; simp)
        · rw [hm] at e1
          rw [e1, if_pos rfl, if_neg (by decide), zok_some]
          refine ⟨?_, e2, g2.trans e3⟩
          unfold sWk
          rw [zal_no hw3 (by rw [hm, hS, w2D]; simp [g]), if_neg (by decide)]
      · rw [if_pos rfl, if_neg (by decide)]
        exact nxt _ g1' g2 (by rw [hS]; simp)
    · rw [if_neg g]
      exact nxt _ g1' g2 (by rw [w2D]; simp [g])
  · intro n E ⟨g1, g2, g3⟩
    show zok (fn_X11_wordIsKnown_2 (nI s) so (n + 1) (nI (P 3)) E) _
    have a3 : gI E 3 3 = nI (P 3) := g1.1.1.2.1.2.2.2
    rw [fn_X11_wordIsKnown_2, a3, if_pos (nI_le (Nat.le_refl _) (by omega)), zok_some]
    refine ⟨?_, g1, g2⟩
    unfold sWk
    rw [zal_iff.mpr g3, if_pos rfl]
def sVo (P : Nat → Nat) (D : zD) (so : Int32) : Int32 := if zal (fun w => !sTo P D w) (P 3) = true then -1 else sFst fun s => sWk P D so s
theorem told_len (h : iv P D) (htz : zal (fun w => !sTo P D w) (P 3) = false) : 1 ≤ P 7 ∧ P 7 ≤ 6 := by
  obtain ⟨⟨⟨hb, ⟨a0, a1, a2, a3⟩, ⟨b0, b1, b2, b3⟩, hs, hw⟩, ⟨hc, c1, c2, hcv⟩, ⟨hd, ⟨z0, z1, z2⟩, ⟨y0, y1, y2⟩, hp, ht⟩, ⟨hi, i0, i1, him⟩, ⟨hta, ta0, ta1, hpl, htb⟩⟩, hK, hO⟩ := h
  replace y0 : gI _ 102 34 = nI (P 5) := y0
  replace y1 : gI _ 102 35 = nI (P 6) := y1
  replace y2 : gI _ 102 36 = nI (P 7) := y2
  have : ∃ w, w < P 3 ∧ sTo P D w = true := by
    apply Classical.byContradiction
    intro hn
    rw [zal_iff.mpr fun w hw3 => by
      cases e : sTo P D w
      · rfl
      · exact absurd ⟨w, hw3, e⟩ hn] at htz
    cases htz
  obtain ⟨w, hw3, e⟩ := this
  unfold sTo at e
  simp only [Bool.and_eq_true, decide_eq_true_eq] at e
  obtain ⟨l, l1, l6, w1, w2, w3⟩ := hw w hw3
  rw [w2] at e
  have := (nI_eq (by omega) (by omega)).mp e.1
  omega
theorem c_voyage (h : iv P D) (so : Int32) : zok (fn_X11_voyage so D) fun r => r.1 = sVo P D so ∧ iv P r.2 ∧ ag pX D r.2 := by
  have h' := h
  have htl := told_len h
  have hct := c_isTold h
  obtain ⟨⟨⟨hb, ⟨a0, a1, a2, a3⟩, ⟨b0, b1, b2, b3⟩, hs, hw⟩, ⟨hc, c1, c2, hcv⟩, ⟨hd, ⟨z0, z1, z2⟩, ⟨y0, y1, y2⟩, hp, ht⟩, ⟨hi, i0, i1, him⟩, ⟨hta, ta0, ta1, hpl, htb⟩⟩, hK, hO⟩ := h
  replace y0 : gI _ 102 34 = nI (P 5) := y0
  replace y1 : gI _ 102 35 = nI (P 6) := y1
  replace y2 : gI _ 102 36 = nI (P 7) := y2
  unfold fn_X11_voyage sVo
  rw [z2]
  cases hT : zal (fun w => !sTo P D w) (P 3)
  · have := htl hT
    rw [hT] at hct
    rw [if_neg (show ¬ nI (P 7) < 1 from nI_nlt (b := 1) (by omega) (by omega)), if_neg (show ¬ (6 : Int32) < nI (P 7) from nI_nlt (a := 6) (by omega) (by omega)), hct, Option.bind_some, if_neg (show ¬ (false = true) by decide), if_neg (by decide), if_neg (by decide)]
    refine z_inv 100 (fun n i (E : zD) => fn_X11_voyage_34 so n (nI i) E) (fun i E => iv P E ∧ ag pX D E ∧ ∀ k, k < i → sWk P D so k = false) _ ?_ ?_ 0 zFU D (by omega) (zfu_gt (by omega)) ⟨h', ag.refl, fun k hk => by omega⟩
    · intro n i E hi ⟨g1, g2, g3⟩ ih
      show zok (fn_X11_voyage_34 so (n + 1) (nI i) E) _
      rw [fn_X11_voyage_34]
      simp (disch := omega) only [Option.bind_some, Option.map_some, zlet_eq, ↓reduceIte, L_2, L_3, L_4, L_5, L_6, L_7, L_8, L_9, L_10, L_12, L_13, L_20, L_24, L_25, L_26, L_27, L_30, L_32, L_33, L_34, L_40, L_48, L_57, L_58, L_60, L_64, L_90, L_93, L_97, L_99, L_100, L_122, L_144, L_255, L_364, L_480, L_500, L_800, L_1000, L_100000, L_4096, L_1023, L_1024, nLe, nLt, nEq, nI_1, nI_add, pk_mul, nSn, nDn, nCl, zck_nI, zdv_nI, nNeg, nLe0, n0Lt, nEq0, nM1, m1N, m1Lt, nLm1, zcb_0, zcb_1, i10, i01, nEq1, n1Eq, nLt1, gI_eq, gI_nb, gI_na, x_badF, x_badT1, x_badT2, bt_0, bt_1, bit1_u, Bool.true_eq_false, Bool.false_eq_true, eq_self, Int32.or_zero, L_11, L_14, L_15, L_16, L_17, L_18, L_19, L_21, L_22, L_23, L_28, L_29, if_pos, if_neg]
      refine (c_wordKnown g1 hi so).bind fun q ⟨e1, e2, e3⟩ => ?_
      have hM : sWk P E so i = sWk P D so i := zal_cong fun w _ => by
        rw [wordspace g2, g2 109 w (by unfold pX; omega), show sMb P E so i w = sMb P D so i w from zal_cong fun b _ => by rw [sGu_X g2, g2 (120 + w) b (by unfold pX; omega)]]
      rw [hM] at e1
      cases hm : sWk P D so i
      · rw [hm] at e1
        rw [e1, if_neg (show ¬ (false = true) by decide), if_pos rfl]
        exact ih _ ⟨e2, g2.trans e3, fun k hk => by
          by_cases q : k = i
          · subst q; exact hm
          · exact g3 k (by omega)⟩
      · rw [hm] at e1
        rw [e1, if_pos rfl, if_neg (by decide), zok_some]
        exact ⟨by rw [sFst_at (p := fun s => sWk P D so s) hi hm g3], e2, g2.trans e3⟩
    · intro n E ⟨g1, g2, g3⟩
      show zok (fn_X11_voyage_34 so (n + 1) (nI 100) E) _
      rw [fn_X11_voyage_34]
      simp (disch := omega) only [Option.bind_some, Option.map_some, zlet_eq, ↓reduceIte, L_2, L_3, L_4, L_5, L_6, L_7, L_8, L_9, L_10, L_12, L_13, L_20, L_24, L_25, L_26, L_27, L_30, L_32, L_33, L_34, L_40, L_48, L_57, L_58, L_60, L_64, L_90, L_93, L_97, L_99, L_100, L_122, L_144, L_255, L_364, L_480, L_500, L_800, L_1000, L_100000, L_4096, L_1023, L_1024, nLe, nLt, nEq, nI_1, nI_add, pk_mul, nSn, nDn, nCl, zck_nI, zdv_nI, nNeg, nLe0, n0Lt, nEq0, nM1, m1N, m1Lt, nLm1, zcb_0, zcb_1, i10, i01, nEq1, n1Eq, nLt1, gI_eq, gI_nb, gI_na, x_badF, x_badT1, x_badT2, bt_0, bt_1, bit1_u, Bool.true_eq_false, Bool.false_eq_true, eq_self, Int32.or_zero, L_11, L_14, L_15, L_16, L_17, L_18, L_19, L_21, L_22, L_23, L_28, L_29, if_pos, if_neg, zok_some]
      exact ⟨by rw [sFst_no (p := fun s => sWk P D so s) g3], g1, g2⟩
  · rw [hT] at hct
    rw [if_pos rfl] at hct
    rw [hct, Option.bind_some, if_pos rfl, if_pos rfl]
    split
    · exact zok_some.mpr ⟨rfl, h', ag.refl⟩
    · split
      · exact zok_some.mpr ⟨rfl, h', ag.refl⟩
      · exact zok_some.mpr ⟨rfl, h', ag.refl⟩
/-! the reference's voyage -/
theorem r_isTold (h : iv P D) {w : Nat} (hw3 : w < P 3) : fn_X12_isTold (nI w) D = some (if sTo P D w = true then 1 else 0) := by
  have h' := h
  obtain ⟨⟨⟨hb, ⟨a0, a1, a2, a3⟩, ⟨b0, b1, b2, b3⟩, hs, hw⟩, ⟨hc, c1, c2, hcv⟩, ⟨hd, ⟨z0, z1, z2⟩, ⟨y0, y1, y2⟩, hp, ht⟩, ⟨hi, i0, i1, him⟩, ⟨hta, ta0, ta1, hpl, htb⟩⟩, hK, hO⟩ := h
  replace y0 : gI _ 102 34 = nI (P 5) := y0
  replace y1 : gI _ 102 35 = nI (P 6) := y1
  replace y2 : gI _ 102 36 = nI (P 7) := y2
  obtain ⟨l, l1, l6, w1, w2, w3⟩ := hw w hw3
  have f0 : ∀ m i, fn_X12_isTold_21 (nI w) D (m + 1) 0 (nI i) = some 0 := by
    intro m i
    rw [fn_X12_isTold_21]
    simp (disch := omega) only [Option.bind_some, Option.map_some, zlet_eq, ↓reduceIte, L_2, L_3, L_4, L_5, L_6, L_7, L_8, L_9, L_10, L_12, L_13, L_20, L_24, L_25, L_26, L_27, L_30, L_32, L_33, L_34, L_40, L_48, L_57, L_58, L_60, L_64, L_90, L_93, L_97, L_99, L_100, L_122, L_144, L_255, L_364, L_480, L_500, L_800, L_1000, L_100000, L_4096, L_1023, L_1024, nLe, nLt, nEq, nI_1, nI_add, pk_mul, nSn, nDn, nCl, zck_nI, zdv_nI, nNeg, nLe0, n0Lt, nEq0, nM1, m1N, m1Lt, nLm1, zcb_0, zcb_1, i10, i01, nEq1, n1Eq, nLt1, gI_eq, gI_nb, gI_na, x_badF, x_badT1, x_badT2, bt_0, bt_1, bit1_u, Bool.true_eq_false, Bool.false_eq_true, eq_self, Int32.or_zero, L_11, L_14, L_15, L_16, L_17, L_18, L_19, L_21, L_22, L_23, L_28, L_29, if_pos, if_neg, ite_self]
  unfold fn_X12_isTold sTo
  rw [zck_nI (by omega) (by omega), nI_clamp (by omega), w2, y2]
  by_cases e : l = P 7
  · rw [if_pos (by rw [e])]
    refine Eq.trans (z_find' (P 7) (fun m i => fn_X12_isTold_21 (nI w) D m 1 (nI i)) (fun b => !decide (gI D (120 + w) b = gI D (170 + b) 0)) (fun _ => some 0) (some 1) ?_ ?_ 0 zFU (Nat.zero_le _) (zfu_gt (by omega))) ?_
    · intro m i hi' hm
      obtain ⟨m, rfl⟩ : ∃ q, m = q + 1 := ⟨m - 1, by omega⟩
      show fn_X12_isTold_21 (nI w) D (m + 1 + 1) 1 (nI i) = if _ then _ else fn_X12_isTold_21 (nI w) D (m + 1) 1 (nI (i + 1))
      rw [fn_X12_isTold_21, y2, if_neg (nI_ge hi' (by omega)), if_neg (by decide), zck_nI (by omega) (by omega), zck_nI (by omega) (by omega), zck_nI (by omega) (by omega), nI_clamp (by omega), nI_clamp (by omega), nI_1, f0]
      by_cases g : gI D (120 + w) i = gI D (170 + i) 0
      · rw [if_pos g, if_neg (by simp [g])]
      · rw [if_neg g, if_pos (by simp [g])]
    · intro m
      show fn_X12_isTold_21 (nI w) D (m + 1) 1 (nI (P 7)) = _
      rw [fn_X12_isTold_21, y2]
      simp (disch := omega) only [Option.bind_some, Option.map_some, zlet_eq, ↓reduceIte, L_2, L_3, L_4, L_5, L_6, L_7, L_8, L_9, L_10, L_12, L_13, L_20, L_24, L_25, L_26, L_27, L_30, L_32, L_33, L_34, L_40, L_48, L_57, L_58, L_60, L_64, L_90, L_93, L_97, L_99, L_100, L_122, L_144, L_255, L_364, L_480, L_500, L_800, L_1000, L_100000, L_4096, L_1023, L_1024, nLe, nLt, nEq, nI_1, nI_add, pk_mul, nSn, nDn, nCl, zck_nI, zdv_nI, nNeg, nLe0, n0Lt, nEq0, nM1, m1N, m1Lt, nLm1, zcb_0, zcb_1, i10, i01, nEq1, n1Eq, nLt1, gI_eq, gI_nb, gI_na, x_badF, x_badT1, x_badT2, bt_0, bt_1, bit1_u, Bool.true_eq_false, Bool.false_eq_true, eq_self, Int32.or_zero, L_11, L_14, L_15, L_16, L_17, L_18, L_19, L_21, L_22, L_23, L_28, L_29, if_pos, if_neg]
    · rw [Nat.sub_zero]
      unfold sSp zal
      by_cases g : zff (fun b => !decide (gI D (120 + w) b = gI D (170 + b) 0)) (P 7) 0 < P 7
      · rw [if_pos g, if_neg (by simp [g])]
      · rw [if_neg g, if_pos (by simp [g, e])]
  · have hne : ¬ nI l = nI (P 7) := fun q => e ((nI_eq (by omega) (by omega)).mp q)
    rw [if_neg hne, if_neg (by simp [hne])]
    exact f0 4294967295 0
theorem pV_iv {E : zD} (h : iv P D) (g : agL pV D E) : iv P E := h.keep (g.1.mono (by unfold pV pcr pA pB pS pI pT; intros; omega)) (g.1.mono (by unfold pV pK; intros; omega)) (g.1.mono (by unfold pV pO; intros; omega))
theorem sGu_V {E : zD} (hP : P 7 ≤ 8) (g : agL pV D E) {b : Nat} (hb : b < P 7) (so : Int32) (s : Nat) : sGu P E so b s = sGu P D so b s :=
  sGu_cong' hb (fun o ho => ⟨g.1 _ _ (by unfold pV; omega), g.1 _ _ (by unfold pV; omega)⟩) (funext fun b => g.1 _ _ (by unfold pV; omega)) so s (g.1 _ _ (by unfold pV; omega))
theorem sAc_V {E : zD} (hP : P 7 ≤ 8) (g : agL pV D E) {b : Nat} (hb : b < P 7) (s : Nat) : sAc P E b s = sAc P D b s := zfo_cong fun k acc _ _ => by rw [sSee_cong hb fun o ho => ⟨g.1 _ _ (by unfold pV; omega), g.1 _ _ (by unfold pV; omega)⟩]
theorem sTo_V {E : zD} (hP : P 7 ≤ 8) (g : agL pV D E) {w : Nat} (hw : w < 8) : sTo P E w = sTo P D w := by
  unfold sTo sSp
  rw [g.1 109 w (by unfold pV; omega), zal_cong fun b hb => by rw [g.1 (120 + w) b (by unfold pV; omega), g.1 (170 + b) 0 (by unfold pV; omega)]]
/-- the words, behind what was guessed at 205 -/
theorem r_words98 (h : iv P D) (so : Int32) {s : Nat} (k53 : Int32 → zD → Option (Int32 × zD)) (hg : ∀ b, b < P 7 → gI D 205 b = sGu P D so b s) : fn_X12_voyage_98 so k53 zFU (nI s) 1 0 D = fn_X12_voyage_214 so k53 (nI s) (if sWk P D so s = true then 1 else 0) D := by
  have h' := h
  obtain ⟨⟨⟨hb, ⟨a0, a1, a2, a3⟩, ⟨b0, b1, b2, b3⟩, hs, hw⟩, ⟨hc, c1, c2, hcv⟩, ⟨hd, ⟨z0, z1, z2⟩, ⟨y0, y1, y2⟩, hp, ht⟩, ⟨hi, i0, i1, him⟩, ⟨hta, ta0, ta1, hpl, htb⟩⟩, hK, hO⟩ := h
  replace y0 : gI _ 102 34 = nI (P 5) := y0
  replace y1 : gI _ 102 35 = nI (P 6) := y1
  replace y2 : gI _ 102 36 = nI (P 7) := y2
  have f0 : ∀ m w, fn_X12_voyage_98 so k53 (m + 1) (nI s) 0 (nI w) D = fn_X12_voyage_214 so k53 (nI s) 0 D := by
    intro m w
    rw [fn_X12_voyage_98]
    simp (disch := omega) only [Option.bind_some, Option.map_some, zlet_eq, ↓reduceIte, L_2, L_3, L_4, L_5, L_6, L_7, L_8, L_9, L_10, L_12, L_13, L_20, L_24, L_25, L_26, L_27, L_30, L_32, L_33, L_34, L_40, L_48, L_57, L_58, L_60, L_64, L_90, L_93, L_97, L_99, L_100, L_122, L_144, L_255, L_364, L_480, L_500, L_800, L_1000, L_100000, L_4096, L_1023, L_1024, nLe, nLt, nEq, nI_1, nI_add, pk_mul, nSn, nDn, nCl, zck_nI, zdv_nI, nNeg, nLe0, n0Lt, nEq0, nM1, m1N, m1Lt, nLm1, zcb_0, zcb_1, i10, i01, nEq1, n1Eq, nLt1, gI_eq, gI_nb, gI_na, x_badF, x_badT1, x_badT2, bt_0, bt_1, bit1_u, Bool.true_eq_false, Bool.false_eq_true, eq_self, Int32.or_zero, L_11, L_14, L_15, L_16, L_17, L_18, L_19, L_21, L_22, L_23, L_28, L_29, if_pos, if_neg, ite_self]
  refine Eq.trans (z_find' (P 3) (fun n w => fn_X12_voyage_98 so k53 n (nI s) 1 (nI w) D) (fun w => !!(decide (gI D 109 w = nI (P 7)) && !sSp P D w && sMb P D so s w)) (fun _ => fn_X12_voyage_214 so k53 (nI s) 0 D) (fn_X12_voyage_214 so k53 (nI s) 1 D) ?_ ?_ 0 zFU (Nat.zero_le _) (zfu_gt (by omega))) ?_
  · intro n w hw3 hn
    obtain ⟨n, rfl⟩ : ∃ q, n = q + 1 := ⟨n - 1, by omega⟩
    show fn_X12_voyage_98 so k53 (n + 1 + 1) (nI s) 1 (nI w) D = if _ then _ else fn_X12_voyage_98 so k53 (n + 1) (nI s) 1 (nI (w + 1)) D
    obtain ⟨l, l1, l6, w1, w2, w3⟩ := hw w hw3
    have f1 : ∀ m b, fn_X12_voyage_136 so (fn_X12_voyage_98 so k53 (n + 1)) (m + 1) (nI s) (nI w) 0 (nI b) D = fn_X12_voyage_98 so k53 (n + 1) (nI s) 1 (nI (w + 1)) D := by
      intro m b
      rw [fn_X12_voyage_136]
      unfold fn_X12_voyage_187
      simp (disch := omega) only [Option.bind_some, Option.map_some, zlet_eq, ↓reduceIte, L_2, L_3, L_4, L_5, L_6, L_7, L_8, L_9, L_10, L_12, L_13, L_20, L_24, L_25, L_26, L_27, L_30, L_32, L_33, L_34, L_40, L_48, L_57, L_58, L_60, L_64, L_90, L_93, L_97, L_99, L_100, L_122, L_144, L_255, L_364, L_480, L_500, L_800, L_1000, L_100000, L_4096, L_1023, L_1024, nLe, nLt, nEq, nI_1, nI_add, pk_mul, nSn, nDn, nCl, zck_nI, zdv_nI, nNeg, nLe0, n0Lt, nEq0, nM1, m1N, m1Lt, nLm1, zcb_0, zcb_1, i10, i01, nEq1, n1Eq, nLt1, gI_eq, gI_nb, gI_na, x_badF, x_badT1, x_badT2, bt_0, bt_1, bit1_u, Bool.true_eq_false, Bool.false_eq_true, eq_self, Int32.or_zero, L_11, L_14, L_15, L_16, L_17, L_18, L_19, L_21, L_22, L_23, L_28, L_29, if_pos, if_neg, ite_self]
    rw [fn_X12_voyage_98, b3, if_neg (nI_ge hw3 (by omega)), if_neg (by decide), zck_nI (by omega) (by omega), nI_clamp (by omega), w2, y2]
    by_cases e : l = P 7
    · have hst : sTo P D w = sSp P D w := by unfold sTo; rw [w2, e, decide_eq_true rfl, Bool.true_and]
      rw [if_pos (by rw [e])]
      have em := z_find' (P 7) (fun m b => fn_X12_voyage_136 so (fn_X12_voyage_98 so k53 (n + 1)) m (nI s) (nI w) 1 (nI b) D) (fun b => !bt (sGu P D so b s) (un (gI D (120 + w) b))) (fun _ => fn_X12_voyage_98 so k53 (n + 1) (nI s) 1 (nI (w + 1)) D) (fn_X12_voyage_187 so (fn_X12_voyage_98 so k53 (n + 1)) (nI s) (nI w) 1 D) ?_ ?_ 0 zFU (Nat.zero_le _) (zfu_gt (by omega))
      · refine Eq.trans em ?_
        rw [Nat.sub_zero, e]
        have hsm : sMb P D so s w = decide (¬ zff (fun b => !bt (sGu P D so b s) (un (gI D (120 + w) b))) (P 7) 0 < P 7) := rfl
        by_cases g : zff (fun b => !bt (sGu P D so b s) (un (gI D (120 + w) b))) (P 7) 0 < P 7
        · rw [if_pos g, if_neg (by rw [hsm, decide_eq_false (not_not_intro g)]; simp)]
        · rw [if_neg g, hsm, decide_eq_true g]
          unfold fn_X12_voyage_187
          rw [if_neg (by decide), r_isTold h' hw3, Option.bind_some, hst, nI_1]
          cases hS : sSp P D w
          · rw [if_neg (show ¬ (false = true) by decide), if_pos rfl, f0, if_pos (by simp)]
          · rw [if_pos rfl, if_neg (by decide), if_neg (by simp)]
      · intro m b hb7 hm
        obtain ⟨m, rfl⟩ : ∃ q, m = q + 1 := ⟨m - 1, by omega⟩
        show fn_X12_voyage_136 so (fn_X12_voyage_98 so k53 (n + 1)) (m + 1 + 1) (nI s) (nI w) 1 (nI b) D = if _ then _ else fn_X12_voyage_136 so (fn_X12_voyage_98 so k53 (n + 1)) (m + 1) (nI s) (nI w) 1 (nI (b + 1)) D
        obtain ⟨m2, hm2, w4, w5⟩ := w3 b (by omega)
        rw [fn_X12_voyage_136, y2, if_neg (nI_ge hb7 (by omega)), if_neg (by decide), zck_nI (by omega) (by omega), zck_nI (by omega) (by omega), zck_nI (by omega) (by omega), nI_clamp (by omega), nI_clamp (by omega), nI_1, f1, hg b hb7, w5, un_nI (by omega)]
        cases hB : bt (sGu P D so b s) m2
        · rw [if_neg (fun q => by have := (bt_1 _ _ (by omega)).mp q; rw [hB] at this; cases this), if_pos (by decide)]
        · rw [if_pos ((bt_1 _ _ (by omega)).mpr hB), if_neg (by decide)]
      · intro m
        show fn_X12_voyage_136 so (fn_X12_voyage_98 so k53 (n + 1)) (m + 1) (nI s) (nI w) 1 (nI (P 7)) D = _
        rw [fn_X12_voyage_136, y2, if_pos (nI_le (Nat.le_refl _) (by omega))]
    · have hne : ¬ nI l = nI (P 7) := fun q => e ((nI_eq (by omega) (by omega)).mp q)
      rw [if_neg hne, show fn_X12_voyage_136 so (fn_X12_voyage_98 so k53 (n + 1)) zFU (nI s) (nI w) 0 0 D = _ from f1 4294967295 0, if_neg (by simp [hne])]
  · intro n
    show fn_X12_voyage_98 so k53 (n + 1) (nI s) 1 (nI (P 3)) D = _
    rw [fn_X12_voyage_98, b3]
    simp (disch := omega) only [Option.bind_some, Option.map_some, zlet_eq, ↓reduceIte, L_2, L_3, L_4, L_5, L_6, L_7, L_8, L_9, L_10, L_12, L_13, L_20, L_24, L_25, L_26, L_27, L_30, L_32, L_33, L_34, L_40, L_48, L_57, L_58, L_60, L_64, L_90, L_93, L_97, L_99, L_100, L_122, L_144, L_255, L_364, L_480, L_500, L_800, L_1000, L_100000, L_4096, L_1023, L_1024, nLe, nLt, nEq, nI_1, nI_add, pk_mul, nSn, nDn, nCl, zck_nI, zdv_nI, nNeg, nLe0, n0Lt, nEq0, nM1, m1N, m1Lt, nLm1, zcb_0, zcb_1, i10, i01, nEq1, n1Eq, nLt1, gI_eq, gI_nb, gI_na, x_badF, x_badT1, x_badT2, bt_0, bt_1, bit1_u, Bool.true_eq_false, Bool.false_eq_true, eq_self, Int32.or_zero, L_11, L_14, L_15, L_16, L_17, L_18, L_19, L_21, L_22, L_23, L_28, L_29, if_pos, if_neg]
  · rw [Nat.sub_zero]
    unfold sWk zal
    by_cases g : zff (fun w => !!(decide (gI D 109 w = nI (P 7)) && !sSp P D w && sMb P D so s w)) (P 3) 0 < P 3
    · rw [if_pos g, if_neg (by simpa using g)]
    · rw [if_neg g, if_pos (by simpa using g)]
theorem sWk_V {E : zD} (hP : P 7 ≤ 8) (hP3 : P 3 ≤ 8) (g : agL pV D E) (so : Int32) (s : Nat) : sWk P E so s = sWk P D so s := zal_cong fun w hw => by
  rw [g.1 109 w (by unfold pV; omega), show sSp P E w = sSp P D w from zal_cong fun b hb => by rw [g.1 (120 + w) b (by unfold pV; omega), g.1 (170 + b) 0 (by unfold pV; omega)], show sMb P E so s w = sMb P D so s w from zal_cong fun b hb => by rw [sGu_V hP g hb, g.1 (120 + w) b (by unfold pV; omega)]]
theorem r_voyage53 (h : iv P D) (so : Int32) (h0 : ∀ b, b < 8 → gI D 204 b = 0) : zok (fn_X12_voyage_53 so zFU 0 D) fun r => r.1 = (sFst fun s => sWk P D so s) ∧ agL pV D r.2 := by
  have hP := h.1.2.2.1.1.2.2
  have hP3 : P 3 ≤ 8 := h.1.1.1.2.2.2.2.2
  refine z_inv 100 (fun n i (E : zD) => fn_X12_voyage_53 so n (nI i) E) (fun i E => agL pV D E ∧ (so ≠ 0 → ∀ b, b < P 7 → gI E 204 b = sAc P D b i) ∧ ∀ k, k < i → sWk P D so k = false) _ ?_ ?_ 0 zFU D (by omega) (zfu_gt (by omega)) ⟨agL.refl, fun _ b hb => h0 b (by omega), fun k hk => by omega⟩
  · intro n i E hi ⟨g1, g2, g3⟩ ih
    show zok (fn_X12_voyage_53 so (n + 1) (nI i) E) _
    rw [fn_X12_voyage_53]
    simp (disch := omega) only [Option.bind_some, Option.map_some, zlet_eq, ↓reduceIte, L_2, L_3, L_4, L_5, L_6, L_7, L_8, L_9, L_10, L_12, L_13, L_20, L_24, L_25, L_26, L_27, L_30, L_32, L_33, L_34, L_40, L_48, L_57, L_58, L_60, L_64, L_90, L_93, L_97, L_99, L_100, L_122, L_144, L_255, L_364, L_480, L_500, L_800, L_1000, L_100000, L_4096, L_1023, L_1024, nLe, nLt, nEq, nI_1, nI_add, pk_mul, nSn, nDn, nCl, zck_nI, zdv_nI, nNeg, nLe0, n0Lt, nEq0, nM1, m1N, m1Lt, nLm1, zcb_0, zcb_1, i10, i01, nEq1, n1Eq, nLt1, gI_eq, gI_nb, gI_na, x_badF, x_badT1, x_badT2, bt_0, bt_1, bit1_u, Bool.true_eq_false, Bool.false_eq_true, eq_self, Int32.or_zero, L_11, L_14, L_15, L_16, L_17, L_18, L_19, L_21, L_22, L_23, L_28, L_29, if_pos, if_neg]
    refine z_inv (P 7) (fun m b (E : zD) => fn_X12_voyage_62 so (fn_X12_voyage_53 so n) m (nI i) (nI b) E) (fun b E => agL pV D E ∧ (so ≠ 0 → ∀ c, c < P 7 → gI E 204 c = sAc P D c (if c < b then i + 1 else i)) ∧ ∀ c, c < b → gI E 205 c = sGu P D so c i) _ ?_ ?_ 0 zFU E (by omega) (zfu_gt (by omega)) ⟨g1, fun q c hc => by rw [if_neg (by omega)]; exact g2 q c hc, fun c hc => by omega⟩
    · intro m b E hb ⟨k2, k3, k4⟩ ih2
      have y2 : gI E 102 36 = nI (P 7) := by rw [k2.1 _ _ (by unfold pV; omega)]; exact h.1.2.2.1.2.2.1.2.2
      show zok (fn_X12_voyage_62 so (fn_X12_voyage_53 so n) (m + 1) (nI i) (nI b) E) _
      rw [fn_X12_voyage_62, y2]
      simp (disch := omega) only [Option.bind_some, Option.map_some, zlet_eq, ↓reduceIte, L_2, L_3, L_4, L_5, L_6, L_7, L_8, L_9, L_10, L_12, L_13, L_20, L_24, L_25, L_26, L_27, L_30, L_32, L_33, L_34, L_40, L_48, L_57, L_58, L_60, L_64, L_90, L_93, L_97, L_99, L_100, L_122, L_144, L_255, L_364, L_480, L_500, L_800, L_1000, L_100000, L_4096, L_1023, L_1024, nLe, nLt, nEq, nI_1, nI_add, pk_mul, nSn, nDn, nCl, zck_nI, zdv_nI, nNeg, nLe0, n0Lt, nEq0, nM1, m1N, m1Lt, nLm1, zcb_0, zcb_1, i10, i01, nEq1, n1Eq, nLt1, gI_eq, gI_nb, gI_na, x_badF, x_badT1, x_badT2, bt_0, bt_1, bit1_u, Bool.true_eq_false, Bool.false_eq_true, eq_self, Int32.or_zero, L_11, L_14, L_15, L_16, L_17, L_18, L_19, L_21, L_22, L_23, L_28, L_29, if_pos, if_neg]
      refine (r_guessNow (pV_iv h k2) hb hi so (fun q => by rw [sAc_V hP k2 hb]; have := k3 q b hb; rw [if_neg (by omega)] at this; exact this)).bind fun q ⟨e1, e2, e3, e4⟩ => ?_
      rw [sGu_V hP k2 hb] at e1
      rw [sAc_V hP k2 hb] at e2
      have e4' : agL pV E q.2 := e4.mono (by unfold pV pY; intros; omega)
      refine ih2 _ ⟨agL_sI (k2.trans e4') (by unfold pV; omega), fun hso c hc => ?_, fun c hc => ?_⟩
      · rw [gI_na (by omega)]
        by_cases qq : c = b
        · subst qq
          rw [if_pos (by omega)]
          exact e2 hso
        · rw [e3 c qq]
          have := k3 hso c hc
          rw [this]
          congr 1
          by_cases q2 : c < b
          · rw [if_pos q2, if_pos (by omega)]
          · rw [if_neg q2, if_neg (by omega)]
      · by_cases qq : c = b
        · subst qq
          rw [gI_eq, e1]
        · rw [gI_nb qq, e4.1 _ _ (by unfold pY; omega)]
          exact k4 c (by omega)
    · intro m E ⟨k2, k3, k4⟩
      have y2 : gI E 102 36 = nI (P 7) := by rw [k2.1 _ _ (by unfold pV; omega)]; exact h.1.2.2.1.2.2.1.2.2
      show zok (fn_X12_voyage_62 so (fn_X12_voyage_53 so n) (m + 1) (nI i) (nI (P 7)) E) _
      rw [fn_X12_voyage_62, y2, if_pos (nI_le (Nat.le_refl _) (by omega)), show fn_X12_voyage_98 so (fn_X12_voyage_53 so n) zFU (nI i) 1 0 E = _ from r_words98 (pV_iv h k2) so _ (fun b hb => by rw [k4 b hb, sGu_V hP k2 hb]), sWk_V hP hP3 k2]
      unfold fn_X12_voyage_214
      cases hm : sWk P D so i
      · rw [if_neg (show ¬ (false = true) by decide), if_pos rfl, nI_1]
        exact ih _ ⟨k2, fun hso b hb => by have := k3 hso b hb; rw [if_pos hb] at this; exact this, fun k hk => by
          by_cases q : k = i
          · subst q; exact hm
          · exact g3 k (by omega)⟩
      · rw [if_pos rfl, if_neg (by decide), zok_some]
        exact ⟨by rw [sFst_at (p := fun s => sWk P D so s) hi hm g3], k2⟩
  · intro n E ⟨g1, g2, g3⟩
    show zok (fn_X12_voyage_53 so (n + 1) (nI 100) E) _
    rw [fn_X12_voyage_53]
    simp (disch := omega) only [Option.bind_some, Option.map_some, zlet_eq, ↓reduceIte, L_2, L_3, L_4, L_5, L_6, L_7, L_8, L_9, L_10, L_12, L_13, L_20, L_24, L_25, L_26, L_27, L_30, L_32, L_33, L_34, L_40, L_48, L_57, L_58, L_60, L_64, L_90, L_93, L_97, L_99, L_100, L_122, L_144, L_255, L_364, L_480, L_500, L_800, L_1000, L_100000, L_4096, L_1023, L_1024, nLe, nLt, nEq, nI_1, nI_add, pk_mul, nSn, nDn, nCl, zck_nI, zdv_nI, nNeg, nLe0, n0Lt, nEq0, nM1, m1N, m1Lt, nLm1, zcb_0, zcb_1, i10, i01, nEq1, n1Eq, nLt1, gI_eq, gI_nb, gI_na, x_badF, x_badT1, x_badT2, bt_0, bt_1, bit1_u, Bool.true_eq_false, Bool.false_eq_true, eq_self, Int32.or_zero, L_11, L_14, L_15, L_16, L_17, L_18, L_19, L_21, L_22, L_23, L_28, L_29, if_pos, if_neg, zok_some]
    exact ⟨by rw [sFst_no (p := fun s => sWk P D so s) g3], g1⟩
theorem r_voyage (h : iv P D) (so : Int32) : zok (fn_X12_voyage_9 so zFU 0 0 D) fun r => r.1 = sVo P D so ∧ agL pV D r.2 := by
  have h' := h
  have hP := h.1.2.2.1.1.2.2
  have hP3 : P 3 ≤ 8 := h.1.1.1.2.2.2.2.2
  obtain ⟨⟨⟨hb, ⟨a0, a1, a2, a3⟩, ⟨b0, b1, b2, b3⟩, hs, hw⟩, ⟨hc, c1, c2, hcv⟩, ⟨hd, ⟨z0, z1, z2⟩, ⟨y0, y1, y2⟩, hp, ht⟩, ⟨hi, i0, i1, him⟩, ⟨hta, ta0, ta1, hpl, htb⟩⟩, hK, hO⟩ := h
  replace y0 : gI _ 102 34 = nI (P 5) := y0
  replace y1 : gI _ 102 35 = nI (P 6) := y1
  replace y2 : gI _ 102 36 = nI (P 7) := y2
  have e := z_fori (P 3) (fun n w (f : Bool) => fn_X12_voyage_9 so n (if f = true then 1 else 0) (nI w) D) (fun w f => f || sTo P D w) (fun f => fn_X12_voyage_41 so (if f = true then 1 else 0) D) (fun w f => f = !zal (fun w => !sTo P D w) w) ?_ ?_ 0 zFU false (Nat.zero_le _) (zfu_gt (by omega)) rfl
  · rw [show fn_X12_voyage_9 so zFU 0 0 D = _ from e, Nat.sub_zero]
    have hf : zfo (fun w f => f || sTo P D w) (P 3) 0 false = !zal (fun w => !sTo P D w) (P 3) := by
      refine zfo_inv (N := P 3) (fun w f => f = !zal (fun w => !sTo P D w) w) (fun w f hw3 hf => ?_) (by omega) rfl
      rw [hf]
      cases hT : sTo P D w
      · rw [Bool.or_false]
        congr 1
        cases hz : zal (fun w => !sTo P D w) w
        · cases hz2 : zal (fun w => !sTo P D w) (w + 1)
          · rfl
          · rw [zal_iff.mpr fun c hc => zal_iff.mp hz2 c (by omega)] at hz
            cases hz
        · exact (zal_iff.mpr fun c hc => by
            by_cases qq : c = w
            · subst qq; rw [hT]; rfl
            · exact zal_iff.mp hz c (by omega)).symm
      · rw [Bool.or_true, zal_no (b := w) (by omega) (by rw [hT]; rfl)]
        rfl
    rw [hf]
    unfold fn_X12_voyage_41 sVo
    cases hz : zal (fun w => !sTo P D w) (P 3)
    · rw [if_pos (show (!false) = true from rfl), if_neg (by decide), if_neg (show ¬ (false = true) by decide)]
      refine (r_layNone _).bind fun F ⟨f1, f2⟩ => ?_
      have f2' : agL pV D F := f2.mono (by unfold pV pY; intros; omega)
      refine (r_voyage53 (pV_iv h' f2') so f1).mono fun r ⟨k1, k2⟩ => ⟨?_, f2'.trans k2⟩
      rw [k1]
      congr 1
      funext s
      exact sWk_V hP hP3 f2' so s
    · rw [if_neg (show ¬ ((!true) = true) by decide), if_pos rfl, if_pos rfl, zok_some]
      exact ⟨rfl, agL.refl⟩
  · intro n w f hw3 hf
    refine ⟨?_, ?_⟩
    · show fn_X12_voyage_9 so (n + 1) (if f = true then 1 else 0) (nI w) D = fn_X12_voyage_9 so n (if (f || sTo P D w) = true then 1 else 0) (nI (w + 1)) D
      rw [fn_X12_voyage_9, b3, if_neg (nI_ge hw3 (by omega)), nI_1]
      cases f
      · rw [if_neg (show ¬ (false = true) by decide), if_pos rfl, r_isTold h' hw3, Option.bind_some, Bool.false_or]
        cases hT : sTo P D w
        · rw [if_neg (show ¬ (false = true) by decide), if_pos rfl]
        · rw [if_pos rfl, if_neg (by decide)]
      · rw [if_pos rfl, if_neg (by decide), Bool.true_or, if_pos rfl]
    · rw [hf]
      cases hT : sTo P D w
      · rw [Bool.or_false]
        congr 1
        cases hz : zal (fun w => !sTo P D w) w
        · cases hz2 : zal (fun w => !sTo P D w) (w + 1)
          · rfl
          · rw [zal_iff.mpr fun c hc => zal_iff.mp hz2 c (by omega)] at hz
            cases hz
        · exact (zal_iff.mpr fun c hc => by
            by_cases qq : c = w
            · subst qq; rw [hT]; rfl
            · exact zal_iff.mp hz c (by omega)).symm
      · rw [Bool.or_true, zal_no (b := w) (by omega) (by rw [hT]; rfl)]
        rfl
  · intro n f _
    show fn_X12_voyage_9 so (n + 1) (if f = true then 1 else 0) (nI (P 3)) D = _
    rw [fn_X12_voyage_9, b3, if_pos (nI_le (Nat.le_refl _) (by omega))]
theorem tk_voyage (h : iv P D) (so : Int32) : duo (fn_X11_voyage so) (fn_X12_voyage so) D := by
  have hP := h.1.2.2.1.1.2.2
  have hP3 : P 3 ≤ 8 := h.1.1.1.2.2.2.2.2
  refine (c_voyage h so).mono fun q ⟨e3, e4, e5⟩ => ?_
  have hiE := e4.thr 0
  unfold fn_X12_voyage
  rw [zlet_eq]
  refine (r_voyage hiE so).mono fun r ⟨k1, k2⟩ => ⟨⟨P, pV_iv hiE k2⟩, ?_⟩
  rw [k1, e3]
  have f2 : agL pY (sI q.2 102 0 0) (sI q.2 102 0 0) := agL.refl
  have g : ∀ {a b : Nat}, a ≠ 204 → a ≠ 102 → (a < 98 ∨ 100 < a) → gI (sI q.2 102 0 0) a b = gI D a b := fun q1 q2 q3 => gF e5 f2 q1 q2 q3
  have hSp : ∀ w, w < P 3 → sSp P (sI q.2 102 0 0) w = sSp P D w := fun w hw3 => zal_cong fun b hb => by rw [g (a := 120 + w) (by omega) (by omega) (by omega), g (a := 170 + b) (by omega) (by omega) (by omega)]
  have h109 : ∀ w, gI (sI q.2 102 0 0) 109 w = gI D 109 w := fun w => g (by omega) (by omega) (by omega)
  unfold sVo
  rw [zal_cong (p := fun w => !sTo P (sI q.2 102 0 0) w) (q := fun w => !sTo P D w) fun w hw3 => by unfold sTo; rw [hSp w hw3, h109]]
  congr 1
  congr 1
  funext s
  refine zal_cong fun w hw3 => ?_
  rw [hSp w hw3, h109, show sMb P (sI q.2 102 0 0) so s w = sMb P D so s w from zal_cong fun b hb => by
    rw [g (a := 120 + w) (by omega) (by omega) (by omega), sGu_cong' hb (fun o ho => ⟨g (by omega) (by omega) (by omega), g (by omega) (by omega) (by omega)⟩) (funext fun b => g (by omega) (by omega) (by omega)) so s (g (by omega) (by omega) (by omega))]]
end M66
