/-! THE MATHEMATICS: all, voyage -/
def zal (p : Nat → Bool) (n : Nat) : Bool := decide (¬ zff (fun b => !p b) n 0 < n)
theorem zal_iff {p : Nat → Bool} {n : Nat} : zal p n = true ↔ ∀ b, b < n → p b = true := by
  unfold zal
  rw [decide_eq_true_eq]
  constructor
  · intro h b hb
    have := zff_no (fun b => !p b) n 0 b (by omega) (by omega)
    simpa using this
  · intro h
    rw [zff_none fun j _ hj => by rw [h j (by omega)]; rfl]
    omega
theorem zal_no {p : Nat → Bool} {n b : Nat} (hb : b < n) (h : p b = false) : zal p n = false := by
  cases e : zal p n
  · rfl
  · rw [zal_iff.mp e b hb] at h
    cases h
theorem zal_cong {p q : Nat → Bool} {n : Nat} (h : ∀ b, b < n → p b = q b) : zal p n = zal q n := by
  unfold zal
  rw [zff_cong fun b _ hb => by rw [h b (by omega)]]
theorem agL.mono {p q : Nat → Nat → Prop} {D E : zD} (h : agL p D E) (k : ∀ a b, q a b → p a b) : agL q D E := ⟨h.1.mono k, h.2⟩
section M65
variable {D : zD} {P : Nat → Nat}
def sAl (P : Nat → Nat) (D : zD) (so : Int32) (s : Nat) : Bool := zal (fun b => sKb P D so b s) (P 7)
theorem c_all (h : iv P D) (so : Int32) : zok (fn_X11_all so D) fun r => r.1 = (sFst fun s => sAl P D so s) ∧ iv P r.2 ∧ ag pX D r.2 := by
  have hP := h.1.2.2.1.1.2.2
  refine z_inv 100 (fun n i (E : zD) => fn_X11_all_2 so n (nI i) E) (fun i E => iv P E ∧ ag pX D E ∧ ∀ k, k < i → sAl P D so k = false) _ ?_ ?_ 0 zFU D (by omega) (zfu_gt (by omega)) ⟨h, ag.refl, fun k hk => by omega⟩
  · intro n i E hi ⟨g1, g2, g3⟩ ih
    show zok (fn_X11_all_2 so (n + 1) (nI i) E) _
    rw [fn_X11_all_2]
    simp (disch := omega) only [Option.bind_some, Option.map_some, zlet_eq, ↓reduceIte, L_2, L_3, L_4, L_5, L_6, L_7, L_8, L_9, L_10, L_12, L_13, L_20, L_24, L_25, L_26, L_27, L_30, L_32, L_33, L_34, L_40, L_48, L_57, L_58, L_60, L_64, L_90, L_93, L_97, L_99, L_100, L_122, L_144, L_255, L_364, L_480, L_500, L_800, L_1000, L_100000, L_4096, L_1023, L_1024, nLe, nLt, nEq, nI_1, nI_add, pk_mul, nSn, nDn, nCl, zck_nI, zdv_nI, nNeg, nLe0, n0Lt, nEq0, nM1, m1N, m1Lt, nLm1, zcb_0, zcb_1, i10, i01, nEq1, n1Eq, nLt1, gI_eq, gI_nb, gI_na, x_badF, x_badT1, x_badT2, bt_0, bt_1, bit1_u, Bool.true_eq_false, Bool.false_eq_true, eq_self, Int32.or_zero, L_11, L_14, L_15, L_16, L_17, L_18, L_19, L_21, L_22, L_23, L_28, L_29, if_pos, if_neg]
    refine z_inv (P 7) (fun m b (E : zD) => fn_X11_all_10 so (fn_X11_all_2 so n) m (nI i) (nI b) E) (fun b E => iv P E ∧ ag pX D E ∧ ∀ c, c < b → sKb P D so c i = true) _ ?_ ?_ 0 zFU E (by omega) (zfu_gt (by omega)) ⟨g1, g2, fun c hc => by omega⟩
    · intro m b E hb ⟨k1, k2, k3⟩ ih2
      have z2 : gI E 57 2 = nI (P 7) := k1.1.2.2.1.2.1.2.2
      show zok (fn_X11_all_10 so (fn_X11_all_2 so n) (m + 1) (nI i) (nI b) E) _
      rw [fn_X11_all_10, z2]
      simp (disch := omega) only [Option.bind_some, Option.map_some, zlet_eq, ↓reduceIte, L_2, L_3, L_4, L_5, L_6, L_7, L_8, L_9, L_10, L_12, L_13, L_20, L_24, L_25, L_26, L_27, L_30, L_32, L_33, L_34, L_40, L_48, L_57, L_58, L_60, L_64, L_90, L_93, L_97, L_99, L_100, L_122, L_144, L_255, L_364, L_480, L_500, L_800, L_1000, L_100000, L_4096, L_1023, L_1024, nLe, nLt, nEq, nI_1, nI_add, pk_mul, nSn, nDn, nCl, zck_nI, zdv_nI, nNeg, nLe0, n0Lt, nEq0, nM1, m1N, m1Lt, nLm1, zcb_0, zcb_1, i10, i01, nEq1, n1Eq, nLt1, gI_eq, gI_nb, gI_na, x_badF, x_badT1, x_badT2, bt_0, bt_1, bit1_u, Bool.true_eq_false, Bool.false_eq_true, eq_self, Int32.or_zero, L_11, L_14, L_15, L_16, L_17, L_18, L_19, L_21, L_22, L_23, L_28, L_29, if_pos, if_neg]
      refine (c_isKnown k1 hb hi so).bind fun q ⟨e1, e2, e3⟩ => ?_
      rw [sKb_cong k2] at e1
      have z2' : gI q.2 57 2 = nI (P 7) := e2.1.2.2.1.2.1.2.2
      cases hK : sKb P D so b i
      · rw [hK] at e1
        rw [e1, if_neg (show ¬ (false = true) by decide), if_pos rfl]
        unfold fn_X11_all_37
        rw [z2', if_neg (fun q => by have := (nI_eq (by omega) (by omega)).mp q; omega), nI_1]
        exact ih _ ⟨e2, k2.trans e3, fun k hk => by
          by_cases q : k = i
          · subst q; exact zal_no hb hK
          · exact g3 k (by omega)⟩
      · rw [hK] at e1
        rw [e1, if_pos rfl, if_neg (by decide)]
        exact ih2 _ ⟨e2, k2.trans e3, fun c hc => by
          by_cases q : c = b
          · subst q; exact hK
          · exact k3 c (by omega)⟩
    · intro m E ⟨k1, k2, k3⟩
      have z2 : gI E 57 2 = nI (P 7) := k1.1.2.2.1.2.1.2.2
      show zok (fn_X11_all_10 so (fn_X11_all_2 so n) (m + 1) (nI i) (nI (P 7)) E) _
      rw [fn_X11_all_10, z2]
      unfold fn_X11_all_37
      simp (disch := omega) only [Option.bind_some, Option.map_some, zlet_eq, ↓reduceIte, L_2, L_3, L_4, L_5, L_6, L_7, L_8, L_9, L_10, L_12, L_13, L_20, L_24, L_25, L_26, L_27, L_30, L_32, L_33, L_34, L_40, L_48, L_57, L_58, L_60, L_64, L_90, L_93, L_97, L_99, L_100, L_122, L_144, L_255, L_364, L_480, L_500, L_800, L_1000, L_100000, L_4096, L_1023, L_1024, nLe, nLt, nEq, nI_1, nI_add, pk_mul, nSn, nDn, nCl, zck_nI, zdv_nI, nNeg, nLe0, n0Lt, nEq0, nM1, m1N, m1Lt, nLm1, zcb_0, zcb_1, i10, i01, nEq1, n1Eq, nLt1, gI_eq, gI_nb, gI_na, x_badF, x_badT1, x_badT2, bt_0, bt_1, bit1_u, Bool.true_eq_false, Bool.false_eq_true, eq_self, Int32.or_zero, L_11, L_14, L_15, L_16, L_17, L_18, L_19, L_21, L_22, L_23, L_28, L_29, if_pos, if_neg, z2, zok_some]
      exact ⟨by rw [sFst_at (p := fun s => sAl P D so s) hi (show sAl P D so i = true from zal_iff.mpr k3) g3], k1, k2⟩
  · intro n E ⟨g1, g2, g3⟩
    show zok (fn_X11_all_2 so (n + 1) (nI 100) E) _
    rw [fn_X11_all_2]
    simp (disch := omega) only [Option.bind_some, Option.map_some, zlet_eq, ↓reduceIte, L_2, L_3, L_4, L_5, L_6, L_7, L_8, L_9, L_10, L_12, L_13, L_20, L_24, L_25, L_26, L_27, L_30, L_32, L_33, L_34, L_40, L_48, L_57, L_58, L_60, L_64, L_90, L_93, L_97, L_99, L_100, L_122, L_144, L_255, L_364, L_480, L_500, L_800, L_1000, L_100000, L_4096, L_1023, L_1024, nLe, nLt, nEq, nI_1, nI_add, pk_mul, nSn, nDn, nCl, zck_nI, zdv_nI, nNeg, nLe0, n0Lt, nEq0, nM1, m1N, m1Lt, nLm1, zcb_0, zcb_1, i10, i01, nEq1, n1Eq, nLt1, gI_eq, gI_nb, gI_na, x_badF, x_badT1, x_badT2, bt_0, bt_1, bit1_u, Bool.true_eq_false, Bool.false_eq_true, eq_self, Int32.or_zero, L_11, L_14, L_15, L_16, L_17, L_18, L_19, L_21, L_22, L_23, L_28, L_29, if_pos, if_neg, zok_some]
    exact ⟨by rw [sFst_no g3], g1, g2⟩
theorem r_all (h : iv P D) (so : Int32) (h0 : ∀ b, b < 8 → gI D 204 b = 0) : zok (fn_X12_all_11 so zFU 0 D) fun r => r.1 = (sFst fun s => sAl P D so s) ∧ agL pY D r.2 := by
  have hP := h.1.2.2.1.1.2.2
  have hP2 : P 2 ≤ 12 := h.1.1.1.2.2.2.2.1
  refine z_inv 100 (fun n i (E : zD) => fn_X12_all_11 so n (nI i) E) (fun i E => agL pY D E ∧ (so ≠ 0 → ∀ b, b < P 7 → gI E 204 b = sAc P D b i) ∧ ∀ k, k < i → sAl P D so k = false) _ ?_ ?_ 0 zFU D (by omega) (zfu_gt (by omega)) ⟨agL.refl, fun _ b hb => h0 b (by omega), fun k hk => by omega⟩
  · intro n i E hi ⟨g1, g2, g3⟩ ih
    show zok (fn_X12_all_11 so (n + 1) (nI i) E) _
    rw [fn_X12_all_11]
    simp (disch := omega) only [Option.bind_some, Option.map_some, zlet_eq, ↓reduceIte, L_2, L_3, L_4, L_5, L_6, L_7, L_8, L_9, L_10, L_12, L_13, L_20, L_24, L_25, L_26, L_27, L_30, L_32, L_33, L_34, L_40, L_48, L_57, L_58, L_60, L_64, L_90, L_93, L_97, L_99, L_100, L_122, L_144, L_255, L_364, L_480, L_500, L_800, L_1000, L_100000, L_4096, L_1023, L_1024, nLe, nLt, nEq, nI_1, nI_add, pk_mul, nSn, nDn, nCl, zck_nI, zdv_nI, nNeg, nLe0, n0Lt, nEq0, nM1, m1N, m1Lt, nLm1, zcb_0, zcb_1, i10, i01, nEq1, n1Eq, nLt1, gI_eq, gI_nb, gI_na, x_badF, x_badT1, x_badT2, bt_0, bt_1, bit1_u, Bool.true_eq_false, Bool.false_eq_true, eq_self, Int32.or_zero, L_11, L_14, L_15, L_16, L_17, L_18, L_19, L_21, L_22, L_23, L_28, L_29, if_pos, if_neg]
    refine z_inv (P 7) (fun m b (s : Int32 × zD) => fn_X12_all_22 so (fn_X12_all_11 so n) m (nI i) s.1 (nI b) s.2) (fun b s => s.1 = (if zal (fun c => sKb P D so c i) b = true then 1 else 0) ∧ agL pY D s.2 ∧ (so ≠ 0 → ∀ c, c < P 7 → gI s.2 204 c = sAc P D c (if c < b then i + 1 else i))) _ ?_ ?_ 0 zFU (1, E) (by omega) (zfu_gt (by omega)) ⟨rfl, g1, fun q c hc => by rw [if_neg (by omega)]; exact g2 q c hc⟩
    · rintro m b ⟨f, E⟩ hb ⟨k1, k2, k3⟩ ih2
      have y2 : gI E 102 36 = nI (P 7) := by rw [k2.1 _ _ (by unfold pY; omega)]; exact h.1.2.2.1.2.2.1.2.2
      show zok (fn_X12_all_22 so (fn_X12_all_11 so n) (m + 1) (nI i) f (nI b) E) _
      rw [fn_X12_all_22, y2]
      simp (disch := omega) only [Option.bind_some, Option.map_some, zlet_eq, ↓reduceIte, L_2, L_3, L_4, L_5, L_6, L_7, L_8, L_9, L_10, L_12, L_13, L_20, L_24, L_25, L_26, L_27, L_30, L_32, L_33, L_34, L_40, L_48, L_57, L_58, L_60, L_64, L_90, L_93, L_97, L_99, L_100, L_122, L_144, L_255, L_364, L_480, L_500, L_800, L_1000, L_100000, L_4096, L_1023, L_1024, nLe, nLt, nEq, nI_1, nI_add, pk_mul, nSn, nDn, nCl, zck_nI, zdv_nI, nNeg, nLe0, n0Lt, nEq0, nM1, m1N, m1Lt, nLm1, zcb_0, zcb_1, i10, i01, nEq1, n1Eq, nLt1, gI_eq, gI_nb, gI_na, x_badF, x_badT1, x_badT2, bt_0, bt_1, bit1_u, Bool.true_eq_false, Bool.false_eq_true, eq_self, Int32.or_zero, L_11, L_14, L_15, L_16, L_17, L_18, L_19, L_21, L_22, L_23, L_28, L_29, if_pos, if_neg]
      refine (r_guessNow (pY_iv h k2) hb hi so (fun q => by rw [sAc_cong hP k2 hb]; have := k3 q b hb; rw [if_neg (by omega)] at this; exact this)).bind fun q ⟨e1, e2, e3, e4⟩ => ?_
      rw [sGu_Y hP k2 hb] at e1
      rw [sAc_cong hP k2 hb] at e2
      obtain ⟨sg, hsg, _, _, _, f170⟩ := iv_st h hb
      have e5 : gI q.2 (170 + b) 0 = nI sg := by rw [e4.1 _ _ (by unfold pY; omega), k2.1 _ _ (by unfold pY; omega), f170]
      simp (disch := omega) only [Option.bind_some, Option.map_some, zlet_eq, ↓reduceIte, L_2, L_3, L_4, L_5, L_6, L_7, L_8, L_9, L_10, L_12, L_13, L_20, L_24, L_25, L_26, L_27, L_30, L_32, L_33, L_34, L_40, L_48, L_57, L_58, L_60, L_64, L_90, L_93, L_97, L_99, L_100, L_122, L_144, L_255, L_364, L_480, L_500, L_800, L_1000, L_100000, L_4096, L_1023, L_1024, nLe, nLt, nEq, nI_1, nI_add, pk_mul, nSn, nDn, nCl, zck_nI, zdv_nI, nNeg, nLe0, n0Lt, nEq0, nM1, m1N, m1Lt, nLm1, zcb_0, zcb_1, i10, i01, nEq1, n1Eq, nLt1, gI_eq, gI_nb, gI_na, x_badF, x_badT1, x_badT2, bt_0, bt_1, bit1_u, Bool.true_eq_false, Bool.false_eq_true, eq_self, Int32.or_zero, L_11, L_14, L_15, L_16, L_17, L_18, L_19, L_21, L_22, L_23, L_28, L_29, if_pos, if_neg, e5]
      rw [e1]
      have hK : sKb P D so b i = decide (sGu P D so b i = bit1 sg) := by unfold sKb; rw [f170, un_nI (by omega)]
      have hacc : so ≠ 0 → ∀ c, c < P 7 → gI q.2 204 c = sAc P D c (if c < b + 1 then i + 1 else i) := by
        intro hso c hc
        by_cases qq : c = b
        · subst qq
          rw [if_pos (by omega)]
          exact e2 hso
        · rw [e3 c qq]
          have := k3 hso c hc
          rw [this]
          congr 1
          by_cases q2 : c < b
          · rw [if_pos q2, if_pos (by omega)]
          · rw [if_neg q2, if_neg (by omega)]
      have hz : ∀ v, sKb P D so b i = v → zal (fun c => sKb P D so c i) (b + 1) = (v && zal (fun c => sKb P D so c i) b) := by
        intro v hv
        cases v
        · exact zal_no (by omega) hv
        · rw [Bool.true_and]
          cases hb2 : zal (fun c => sKb P D so c i) b
          · cases hb3 : zal (fun c => sKb P D so c i) (b + 1)
            · rfl
            · rw [zal_iff.mpr fun c hc => zal_iff.mp hb3 c (by omega)] at hb2
              cases hb2
          · exact zal_iff.mpr fun c hc => by
              by_cases qq : c = b
              · subst qq; exact hv
              · exact zal_iff.mp hb2 c (by omega)
      by_cases g : sGu P D so b i = bit1 sg
      · rw [if_pos g]
        have hv := hz true (by rw [hK]; exact decide_eq_true g)
        rw [Bool.true_and] at hv
        have hf : f = if zal (fun c => sKb P D so c i) b = true then 1 else 0 := k1
        cases hb2 : zal (fun c => sKb P D so c i) b
        · rw [hb2] at hf hv
          rw [hf, if_neg (show ¬ (false = true) by decide), if_pos rfl]
          exact ih2 (0, q.2) ⟨by rw [hv]; rfl, k2.trans e4, hacc⟩
        · rw [hb2] at hf hv
          rw [hf, if_pos rfl, if_neg (by decide)]
          exact ih2 (1, q.2) ⟨by rw [hv]; rfl, k2.trans e4, hacc⟩
      · rw [if_neg g]
        have hv := hz false (by rw [hK]; exact decide_eq_false g)
        rw [Bool.false_and] at hv
        exact ih2 (0, q.2) ⟨by rw [hv]; rfl, k2.trans e4, hacc⟩
    · rintro m ⟨f, E⟩ ⟨k1, k2, k3⟩
      have y2 : gI E 102 36 = nI (P 7) := by rw [k2.1 _ _ (by unfold pY; omega)]; exact h.1.2.2.1.2.2.1.2.2
      show zok (fn_X12_all_22 so (fn_X12_all_11 so n) (m + 1) (nI i) f (nI (P 7)) E) _
      rw [fn_X12_all_22, y2]
      unfold fn_X12_all_69
      have hf : f = if zal (fun c => sKb P D so c i) (P 7) = true then 1 else 0 := k1
      cases hb2 : zal (fun c => sKb P D so c i) (P 7)
      · rw [hb2] at hf
        simp (disch := omega) only [Option.bind_some, Option.map_some, zlet_eq, ↓reduceIte, L_2, L_3, L_4, L_5, L_6, L_7, L_8, L_9, L_10, L_12, L_13, L_20, L_24, L_25, L_26, L_27, L_30, L_32, L_33, L_34, L_40, L_48, L_57, L_58, L_60, L_64, L_90, L_93, L_97, L_99, L_100, L_122, L_144, L_255, L_364, L_480, L_500, L_800, L_1000, L_100000, L_4096, L_1023, L_1024, nLe, nLt, nEq, nI_1, nI_add, pk_mul, nSn, nDn, nCl, zck_nI, zdv_nI, nNeg, nLe0, n0Lt, nEq0, nM1, m1N, m1Lt, nLm1, zcb_0, zcb_1, i10, i01, nEq1, n1Eq, nLt1, gI_eq, gI_nb, gI_na, x_badF, x_badT1, x_badT2, bt_0, bt_1, bit1_u, Bool.true_eq_false, Bool.false_eq_true, eq_self, Int32.or_zero, L_11, L_14, L_15, L_16, L_17, L_18, L_19, L_21, L_22, L_23, L_28, L_29, if_pos, if_neg, hf]
        exact ih _ ⟨k2, fun hso b hb => by have := k3 hso b hb; rw [if_pos hb] at this; exact this, fun k hk => by
          by_cases q : k = i
          · subst q; exact hb2
          · exact g3 k (by omega)⟩
      · rw [hb2] at hf
        simp (disch := omega) only [Option.bind_some, Option.map_some, zlet_eq, ↓reduceIte, L_2, L_3, L_4, L_5, L_6, L_7, L_8, L_9, L_10, L_12, L_13, L_20, L_24, L_25, L_26, L_27, L_30, L_32, L_33, L_34, L_40, L_48, L_57, L_58, L_60, L_64, L_90, L_93, L_97, L_99, L_100, L_122, L_144, L_255, L_364, L_480, L_500, L_800, L_1000, L_100000, L_4096, L_1023, L_1024, nLe, nLt, nEq, nI_1, nI_add, pk_mul, nSn, nDn, nCl, zck_nI, zdv_nI, nNeg, nLe0, n0Lt, nEq0, nM1, m1N, m1Lt, nLm1, zcb_0, zcb_1, i10, i01, nEq1, n1Eq, nLt1, gI_eq, gI_nb, gI_na, x_badF, x_badT1, x_badT2, bt_0, bt_1, bit1_u, Bool.true_eq_false, Bool.false_eq_true, eq_self, Int32.or_zero, L_11, L_14, L_15, L_16, L_17, L_18, L_19, L_21, L_22, L_23, L_28, L_29, if_pos, if_neg, hf, zok_some]
        exact ⟨by rw [sFst_at hi hb2 g3], k2⟩
  · intro n E ⟨g1, g2, g3⟩
    show zok (fn_X12_all_11 so (n + 1) (nI 100) E) _
    rw [fn_X12_all_11]
    simp (disch := omega) only [Option.bind_some, Option.map_some, zlet_eq, ↓reduceIte, L_2, L_3, L_4, L_5, L_6, L_7, L_8, L_9, L_10, L_12, L_13, L_20, L_24, L_25, L_26, L_27, L_30, L_32, L_33, L_34, L_40, L_48, L_57, L_58, L_60, L_64, L_90, L_93, L_97, L_99, L_100, L_122, L_144, L_255, L_364, L_480, L_500, L_800, L_1000, L_100000, L_4096, L_1023, L_1024, nLe, nLt, nEq, nI_1, nI_add, pk_mul, nSn, nDn, nCl, zck_nI, zdv_nI, nNeg, nLe0, n0Lt, nEq0, nM1, m1N, m1Lt, nLm1, zcb_0, zcb_1, i10, i01, nEq1, n1Eq, nLt1, gI_eq, gI_nb, gI_na, x_badF, x_badT1, x_badT2, bt_0, bt_1, bit1_u, Bool.true_eq_false, Bool.false_eq_true, eq_self, Int32.or_zero, L_11, L_14, L_15, L_16, L_17, L_18, L_19, L_21, L_22, L_23, L_28, L_29, if_pos, if_neg, zok_some]
    exact ⟨by rw [sFst_no g3], g1⟩
/-- the reference's scene behind the class's columns and the reset number -/
theorem gF {E F : zD} (e5 : ag pX D E) (f2 : agL pY (sI E 102 0 0) F) {a b : Nat} (q1 : a ≠ 204) (q2 : a ≠ 102) (q3 : a < 98 ∨ 100 < a) : gI F a b = gI D a b := by
  rw [f2.1 _ _ (by unfold pY; omega), gI_na q2]
  exact e5 _ _ q3
theorem sKb_F {E F : zD} (hP : P 7 ≤ 8) (e5 : ag pX D E) (f2 : agL pY (sI E 102 0 0) F) (so : Int32) {b : Nat} (hb : b < P 7) (s : Nat) : sKb P F so b s = sKb P D so b s := by
  unfold sKb
  rw [sGu_cong' hb (fun o ho => ⟨gF e5 f2 (by omega) (by omega) (by omega), gF e5 f2 (by omega) (by omega) (by omega)⟩) (funext fun b => gF e5 f2 (by omega) (by omega) (by omega)) so s (gF e5 f2 (by omega) (by omega) (by omega)), gF e5 f2 (a := 170 + b) (by omega) (by omega) (by omega)]
theorem tk_all (h : iv P D) (so : Int32) : duo (fn_X11_all so) (fn_X12_all so) D := by
  have hP := h.1.2.2.1.1.2.2
  refine (c_all h so).mono fun q ⟨e3, e4, e5⟩ => ?_
  have hiE := e4.thr 0
  unfold fn_X12_all
  rw [zlet_eq]
  refine (r_layNone _).bind fun F ⟨f1, f2⟩ => ?_
  refine (r_all (pY_iv hiE f2) so f1).mono fun r ⟨k1, k2⟩ => ?_
  refine ⟨⟨P, pY_iv (pY_iv hiE f2) k2⟩, ?_⟩
  rw [k1, e3]
  congr 1
  funext s
  exact zal_cong fun b hb => sKb_F hP e5 f2 so hb s
end M65
