/-! THE MATHEMATICS: rule, the call -/
section M9zi
variable {D : zD} {P : Nat → Nat} {n : Nat} {B : Nat → Int32}
theorem t_rule (h : iv P D) (v : Int32) : twin (wk1 1) (fn_X11_rule v D) (fn_X12_rule v) := by
  have h' := h
  obtain ⟨⟨⟨hb, ⟨a0, a1, a2, a3⟩, ⟨b0, b1, b2, b3⟩, hs, hw⟩, ⟨hc, c1, c2, hcv⟩, ⟨hd, ⟨z0, z1, z2⟩, ⟨y0, y1, y2⟩, hp, ht⟩, ⟨hi, i0, i1, him⟩, ⟨hta, ta0, ta1, hpl, htb⟩⟩, hK, hO⟩ := h
  replace y0 : gI _ 102 34 = nI (P 5) := y0
  replace y1 : gI _ 102 35 = nI (P 6) := y1
  replace y2 : gI _ 102 36 = nI (P 7) := y2
  unfold fn_X11_rule fn_X11_needBytes
  rw [ta0]
  rcases x_inK (v := v) (n := P 9) (by omega) with ⟨e, g⟩ | ⟨e, n, hj, rfl⟩
  · refine twin_tt h' (e := 1) (t := 1) rfl (by decide) (by rw [y_outK g (by omega)]; rfl) fun E hE he => ?_
    rw [gE he] at ta1
    unfold fn_X12_rule fn_X12_rule_23
    simp (disch := omega) only [Option.bind_some, Option.map_some, zlet_eq, ↓reduceIte, L_2, L_3, L_4, L_5, L_6, L_7, L_8, L_9, L_10, L_12, L_13, L_20, L_24, L_25, L_26, L_27, L_30, L_32, L_33, L_34, L_40, L_48, L_57, L_58, L_60, L_64, L_90, L_93, L_97, L_99, L_100, L_122, L_144, L_255, L_364, L_480, L_500, L_800, L_1000, L_100000, L_4096, L_1023, L_1024, nLe, nLt, nEq, nI_1, nI_add, pk_mul, nSn, nDn, nCl, zck_nI, zdv_nI, nNeg, nLe0, n0Lt, nEq0, nM1, m1N, m1Lt, nLm1, zcb_0, zcb_1, i10, i01, nEq1, n1Eq, nLt1, gI_eq, gI_nb, gI_na, x_badF, x_badT1, x_badT2, bt_0, bt_1, bit1_u, Bool.true_eq_false, Bool.false_eq_true, eq_self, Int32.or_zero, L_11, L_14, L_15, L_16, L_17, L_18, L_19, L_21, L_22, L_23, L_28, L_29, if_pos, if_neg, ta1, e]
  · rw [if_neg (nI_pos (by omega)), if_pos (nI_le (by omega) (by omega)), Option.bind_some, if_pos rfl]
    unfold fn_X8_begin
    rw [zlet_eq, zlet_eq, zlet_eq, zlet_eq, Option.bind_some, zlet_eq]
    have hz : zmx 0 (zmn (nI n) (Int32.ofNat 500)) = nI n := by
      rw [show Int32.ofNat 500 = nI 500 from rfl, zmn_n _ _ (by omega) (by omega), show (0 : Int32) = nI 0 from rfl, zmx_n _ _ (by omega) (by omega)]
      congr 1
      omega
    rw [hz]
    generalize hX : sI (sI (sI (sI (sI D 2 1 (nI n)) 2 2 0) 2 3 0) 2 4 (-1)) 0 17 0 = X
    have kX : ag (fun a b => a ≠ 2 ∧ ¬ (a = 0 ∧ b = 17)) D X := by
      rw [← hX]
      exact ((((ag.refl.sI (by omega)).sI (by omega)).sI (by omega)).sI (by omega)).sI (by omega)
    have x17 : gI X 0 17 = 0 := by rw [← hX]; simp (disch := omega) only [Option.bind_some, Option.map_some, zlet_eq, ↓reduceIte, L_2, L_3, L_4, L_5, L_6, L_7, L_8, L_9, L_10, L_12, L_13, L_20, L_24, L_25, L_26, L_27, L_30, L_32, L_33, L_34, L_40, L_48, L_57, L_58, L_60, L_64, L_90, L_93, L_97, L_99, L_100, L_122, L_144, L_255, L_364, L_480, L_500, L_800, L_1000, L_100000, L_4096, L_1023, L_1024, nLe, nLt, nEq, nI_1, nI_add, pk_mul, nSn, nDn, nCl, zck_nI, zdv_nI, nNeg, nLe0, n0Lt, nEq0, nM1, m1N, m1Lt, nLm1, zcb_0, zcb_1, i10, i01, nEq1, n1Eq, nLt1, gI_eq, gI_nb, gI_na, x_badF, x_badT1, x_badT2, bt_0, bt_1, bit1_u, Bool.true_eq_false, Bool.false_eq_true, eq_self, Int32.or_zero, L_11, L_14, L_15, L_16, L_17, L_18, L_19, L_21, L_22, L_23, L_28, L_29]
    have x21 : gI X 102 1 = nI (P 9) := by rw [← hX]; simp (disch := omega) only [Option.bind_some, Option.map_some, zlet_eq, ↓reduceIte, L_2, L_3, L_4, L_5, L_6, L_7, L_8, L_9, L_10, L_12, L_13, L_20, L_24, L_25, L_26, L_27, L_30, L_32, L_33, L_34, L_40, L_48, L_57, L_58, L_60, L_64, L_90, L_93, L_97, L_99, L_100, L_122, L_144, L_255, L_364, L_480, L_500, L_800, L_1000, L_100000, L_4096, L_1023, L_1024, nLe, nLt, nEq, nI_1, nI_add, pk_mul, nSn, nDn, nCl, zck_nI, zdv_nI, nNeg, nLe0, n0Lt, nEq0, nM1, m1N, m1Lt, nLm1, zcb_0, zcb_1, i10, i01, nEq1, n1Eq, nLt1, gI_eq, gI_nb, gI_na, x_badF, x_badT1, x_badT2, bt_0, bt_1, bit1_u, Bool.true_eq_false, Bool.false_eq_true, eq_self, Int32.or_zero, L_11, L_14, L_15, L_16, L_17, L_18, L_19, L_21, L_22, L_23, L_28, L_29, ta1]
    have hcX : cS n (gI D 103) 0 X := by
      rw [← hX]
      refine ⟨⟨by omega, by simp (disch := omega) only [Option.bind_some, Option.map_some, zlet_eq, ↓reduceIte, L_2, L_3, L_4, L_5, L_6, L_7, L_8, L_9, L_10, L_12, L_13, L_20, L_24, L_25, L_26, L_27, L_30, L_32, L_33, L_34, L_40, L_48, L_57, L_58, L_60, L_64, L_90, L_93, L_97, L_99, L_100, L_122, L_144, L_255, L_364, L_480, L_500, L_800, L_1000, L_100000, L_4096, L_1023, L_1024, nLe, nLt, nEq, nI_1, nI_add, pk_mul, nSn, nDn, nCl, zck_nI, zdv_nI, nNeg, nLe0, n0Lt, nEq0, nM1, m1N, m1Lt, nLm1, zcb_0, zcb_1, i10, i01, nEq1, n1Eq, nLt1, gI_eq, gI_nb, gI_na, x_badF, x_badT1, x_badT2, bt_0, bt_1, bit1_u, Bool.true_eq_false, Bool.false_eq_true, eq_self, Int32.or_zero, L_11, L_14, L_15, L_16, L_17, L_18, L_19, L_21, L_22, L_23, L_28, L_29], fun i hi => ?_⟩, Nat.zero_le _, by simp (disch := omega) only [Option.bind_some, Option.map_some, zlet_eq, ↓reduceIte, L_2, L_3, L_4, L_5, L_6, L_7, L_8, L_9, L_10, L_12, L_13, L_20, L_24, L_25, L_26, L_27, L_30, L_32, L_33, L_34, L_40, L_48, L_57, L_58, L_60, L_64, L_90, L_93, L_97, L_99, L_100, L_122, L_144, L_255, L_364, L_480, L_500, L_800, L_1000, L_100000, L_4096, L_1023, L_1024, nLe, nLt, nEq, nI_1, nI_add, pk_mul, nSn, nDn, nCl, zck_nI, zdv_nI, nNeg, nLe0, n0Lt, nEq0, nM1, m1N, m1Lt, nLm1, zcb_0, zcb_1, i10, i01, nEq1, n1Eq, nLt1, gI_eq, gI_nb, gI_na, x_badF, x_badT1, x_badT2, bt_0, bt_1, bit1_u, Bool.true_eq_false, Bool.false_eq_true, eq_self, Int32.or_zero, L_11, L_14, L_15, L_16, L_17, L_18, L_19, L_21, L_22, L_23, L_28, L_29]; rfl, by simp (disch := omega) only [Option.bind_some, Option.map_some, zlet_eq, ↓reduceIte, L_2, L_3, L_4, L_5, L_6, L_7, L_8, L_9, L_10, L_12, L_13, L_20, L_24, L_25, L_26, L_27, L_30, L_32, L_33, L_34, L_40, L_48, L_57, L_58, L_60, L_64, L_90, L_93, L_97, L_99, L_100, L_122, L_144, L_255, L_364, L_480, L_500, L_800, L_1000, L_100000, L_4096, L_1023, L_1024, nLe, nLt, nEq, nI_1, nI_add, pk_mul, nSn, nDn, nCl, zck_nI, zdv_nI, nNeg, nLe0, n0Lt, nEq0, nM1, m1N, m1Lt, nLm1, zcb_0, zcb_1, i10, i01, nEq1, n1Eq, nLt1, gI_eq, gI_nb, gI_na, x_badF, x_badT1, x_badT2, bt_0, bt_1, bit1_u, Bool.true_eq_false, Bool.false_eq_true, eq_self, Int32.or_zero, L_11, L_14, L_15, L_16, L_17, L_18, L_19, L_21, L_22, L_23, L_28, L_29], by simp (disch := omega) only [Option.bind_some, Option.map_some, zlet_eq, ↓reduceIte, L_2, L_3, L_4, L_5, L_6, L_7, L_8, L_9, L_10, L_12, L_13, L_20, L_24, L_25, L_26, L_27, L_30, L_32, L_33, L_34, L_40, L_48, L_57, L_58, L_60, L_64, L_90, L_93, L_97, L_99, L_100, L_122, L_144, L_255, L_364, L_480, L_500, L_800, L_1000, L_100000, L_4096, L_1023, L_1024, nLe, nLt, nEq, nI_1, nI_add, pk_mul, nSn, nDn, nCl, zck_nI, zdv_nI, nNeg, nLe0, n0Lt, nEq0, nM1, m1N, m1Lt, nLm1, zcb_0, zcb_1, i10, i01, nEq1, n1Eq, nLt1, gI_eq, gI_nb, gI_na, x_badF, x_badT1, x_badT2, bt_0, bt_1, bit1_u, Bool.true_eq_false, Bool.false_eq_true, eq_self, Int32.or_zero, L_11, L_14, L_15, L_16, L_17, L_18, L_19, L_21, L_22, L_23, L_28, L_29]⟩
      simp (disch := omega) only [Option.bind_some, Option.map_some, zlet_eq, ↓reduceIte, L_2, L_3, L_4, L_5, L_6, L_7, L_8, L_9, L_10, L_12, L_13, L_20, L_24, L_25, L_26, L_27, L_30, L_32, L_33, L_34, L_40, L_48, L_57, L_58, L_60, L_64, L_90, L_93, L_97, L_99, L_100, L_122, L_144, L_255, L_364, L_480, L_500, L_800, L_1000, L_100000, L_4096, L_1023, L_1024, nLe, nLt, nEq, nI_1, nI_add, pk_mul, nSn, nDn, nCl, zck_nI, zdv_nI, nNeg, nLe0, n0Lt, nEq0, nM1, m1N, m1Lt, nLm1, zcb_0, zcb_1, i10, i01, nEq1, n1Eq, nLt1, gI_eq, gI_nb, gI_na, x_badF, x_badT1, x_badT2, bt_0, bt_1, bit1_u, Bool.true_eq_false, Bool.false_eq_true, eq_self, Int32.or_zero, L_11, L_14, L_15, L_16, L_17, L_18, L_19, L_21, L_22, L_23, L_28, L_29]
      exact htb i (by omega)
    clear hX
    have hbt : ∀ i, i < n → ∃ b, b < 256 ∧ gI D 103 i = nI b := fun i hi => cB_lt hcX.1 hi
    rw [kX 3 0 (by omega), kX 3 1 (by omega), a0, a1]
    -- the reference up to its rule
    have ref : ∀ (E : zD) (Q : Int32 × zD → Prop), (∀ a b, 102 ≤ a → ¬ (a = 102 ∧ b = 0) → a ≠ 206 → gI E a b = gI D a b) → (∀ G, rR n (gI D 103) 0 0 0 (P 0) (P 1) 0 G → agL (fun a b => pKr a b ∨ a < 102) E G → gI G 102 0 = 0 → gI G 102 1 = 0 → zok ((fn_X12_orsT G).bind fun D7 => (fn_X12_blanks D7).bind fun D8 => (if (gI D8 102 5) = 0 then ((if (gI D8 102 2) ≤ (gI D8 102 4) then ((fn_X12_rule_72 (nI n) D8)) else ((fn_X12_wrong (1 : Int32) (gI D8 102 4) D8).bind fun D29 => (fn_X12_rule_72 (nI n) D29)))) else ((fn_X12_rule_72 (nI n) D8)))) Q) → zok (fn_X12_rule (nI n) E) Q := by
      intro E Q hE k
      unfold fn_X12_rule fn_X12_rule_23
      rw [zlet_eq, gI_nb (by omega), hE 102 1 (by omega) (by omega) (by omega), ta1, e, Option.bind_some, if_neg (by decide), x_badF, Option.bind_some, if_pos rfl]
      refine (r_begin (n := n) (B := gI D 103) ⟨by omega, fun i hi => ⟨by rw [gI_na (by omega)]; exact hE 103 i (by omega) (by omega) (by omega), hbt i hi⟩⟩).bind fun F ⟨f1, f2, f8, f33, f27, f3, f4⟩ => ?_
      refine k F ⟨f1, f8, f27, ?_, ?_, f33⟩ ?_ ?_ f3
      · rw [f4.1 _ _ (by omega), gI_nb (by omega), hE _ _ (by omega) (by omega) (by omega), b0]
      · rw [f4.1 _ _ (by omega), gI_nb (by omega), hE _ _ (by omega) (by omega) (by omega), b1]
      · refine (agL_sI agL.refl ?_).trans (f4.mono fun a b q => ?_)
        · unfold pKr; omega
        · unfold pKr at q; omega
      · rw [f4.1 _ _ (by omega)]; simp (disch := omega) only [Option.bind_some, Option.map_some, zlet_eq, ↓reduceIte, L_2, L_3, L_4, L_5, L_6, L_7, L_8, L_9, L_10, L_12, L_13, L_20, L_24, L_25, L_26, L_27, L_30, L_32, L_33, L_34, L_40, L_48, L_57, L_58, L_60, L_64, L_90, L_93, L_97, L_99, L_100, L_122, L_144, L_255, L_364, L_480, L_500, L_800, L_1000, L_100000, L_4096, L_1023, L_1024, nLe, nLt, nEq, nI_1, nI_add, pk_mul, nSn, nDn, nCl, zck_nI, zdv_nI, nNeg, nLe0, n0Lt, nEq0, nM1, m1N, m1Lt, nLm1, zcb_0, zcb_1, i10, i01, nEq1, n1Eq, nLt1, gI_eq, gI_nb, gI_na, x_badF, x_badT1, x_badT2, bt_0, bt_1, bit1_u, Bool.true_eq_false, Bool.false_eq_true, eq_self, Int32.or_zero, L_11, L_14, L_15, L_16, L_17, L_18, L_19, L_21, L_22, L_23, L_28, L_29]
    have pRK : ∀ {E F : zD}, agL (pRl 0) E F → agL (fun a b => pKr a b ∨ a < 102) E F := fun g => g.mono (by unfold pKr pRl; intros; omega)
    refine (c_rule7 (W := P 0) (h := P 1) hcX (by omega)).bind fun q ⟨k1, k2, k3, o⟩ => ?_
    have kc : ag (fun a b => a ≠ 2 ∧ ¬ (a = 0 ∧ b = 17) ∧ ¬ (22 ≤ a ∧ a ≤ 56)) D q.2 := (kX.mono fun a b q => ⟨q.1, q.2.1⟩).trans (k1.mono fun a b q => ⟨q.1, q.2.2⟩)
    have kq : ag pKr D q.2 := kc.mono (by unfold pKr; intros; omega)
    have q17 : gI q.2 0 17 = 0 := by rw [k3, x17]
    have e3 : ∀ {E F : zD}, agL (fun a b => pKr a b ∨ a < 102) E F → ag pKr E F := fun g => g.1.mono fun _ _ r => Or.inl r
    rcases o with ⟨x1, f, x2, x3⟩ | ⟨x1, l, ok, lp, x2, x4, x3⟩
    · rw [x1, if_pos rfl]
      refine zok_some.mpr fun E hE => ?_
      have hE' : ∀ a b, gI E a b = gI q.2 a b := fun a b => by show E.2 a b = q.2.2 a b; rw [hE]
      have kE : ag pKr D E := fun a b r => by rw [← kq a b r, hE']
      refine ref E _ (fun a b h1 h2 h3 => by rw [hE', kc _ _ (by omega)]) fun G g1 g4 g5 g6 => ?_
      refine x3 G (nI n) _ g1 fun F f1 f2 => ?_
      unfold fn_X12_rule_95
      rw [zlet_eq, gI_nb (by omega), if_neg (rdF_ne f2), zok_some]
      have kF : ag pKr D (sI F 102 3 (gI F 102 6)) := ((kE.trans (e3 g4)).trans (e3 (pRK f1))).sI (by unfold pKr; omega)
      refine ⟨⟨pset P 9 0, ?_⟩, ⟨?_, ?_⟩, ?_⟩
      · obtain ⟨⟨hal, hco, hsc, him2, hta2⟩, hK2, hO2⟩ := h'
        refine ⟨⟨?_, ?_, ?_, ?_, ?_⟩, ?_, ?_⟩
        · exact iv_al.q rfl rfl rfl rfl ((kF.mono (by unfold pKr pA; intros; omega)).al hal)
        · exact iv_co.q rfl rfl rfl ((kF.mono (by unfold pKr pB; intros; omega)).co hco)
        · exact iv_sc.q rfl rfl rfl rfl ((kF.mono (by unfold pKr pS; intros; omega)).sc hsc)
        · exact iv_im.q rfl rfl ((kF.mono (by unfold pKr pI; intros; omega)).im him2)
        · refine ⟨Nat.zero_le _, ?_, ?_, ?_, fun k hk => absurd hk (Nat.not_lt_zero _)⟩
          · rw [gI_na (by omega), f1.1 _ _ (by unfold pRl; omega), g4.1 _ _ (by omega), hE', q17]; rfl
          · rw [gI_nb (by omega), f1.1 _ _ (by unfold pRl; omega), g6]; rfl
          · rw [gI_na (by omega), f1.1 _ _ (by unfold pRl; omega), g4.1 _ _ (by omega), hE', x2.2, gI_eq, f2.2.1]
        · exact (kF.mono (by unfold pKr pK; intros; omega)).K (kF.mono (by unfold pKr pA; intros; omega)) (kF.mono (by unfold pKr pB; intros; omega)) hK2
        · exact (kF.mono (by unfold pKr pO; intros; omega)).O (kF.mono (by unfold pKr pS; intros; omega)) hsc.1.2.2 hO2
      · rw [gI_nb (by omega), f1.1 _ _ (by unfold pRl; omega), g5]
      · show gI (sI F 102 3 (gI F 102 6)) 102 5 - 10 = gI q.2 2 3 - 10
        rw [gI_nb (by omega), f2.1, x2.1]
      · show gL F 206 0 = _
        rw [f1.l, g4.l]
    · rw [x1, if_neg (show ¬ (1 : Int32) = 0 by decide)]
      have lo := ok.1
      unfold fn_X7_result
      rw [show fn_X7_at 0 q.2 = some (27 + 2 * 0) from c_at7 (k := 0) (by omega) q.2, Option.bind_some, Option.bind_some]
      refine (c_take27 x2 lo).bind fun C ⟨c1, c2, c3⟩ => ?_
      refine (c_sort ⟨lp, lo⟩ c1).bind fun S ⟨s1, s2, s3⟩ => ?_
      rw [zlet_eq, renew_eq, Option.bind_some]
      generalize hY : sI (zfill (sI S 57 1 0) 101 34 (-1000000)) 0 16 0 = Y
      have sq : ∀ a b, a ≠ 20 → a ≠ 21 → gI S a b = gI q.2 a b := fun a b h1 h2 => by rw [s3 _ _ h2, c3 _ _ (by omega)]
      have y20 : gI Y 20 1 = nI l.length := by rw [← hY]; simp (disch := omega) only [Option.bind_some, Option.map_some, zlet_eq, ↓reduceIte, L_2, L_3, L_4, L_5, L_6, L_7, L_8, L_9, L_10, L_12, L_13, L_20, L_24, L_25, L_26, L_27, L_30, L_32, L_33, L_34, L_40, L_48, L_57, L_58, L_60, L_64, L_90, L_93, L_97, L_99, L_100, L_122, L_144, L_255, L_364, L_480, L_500, L_800, L_1000, L_100000, L_4096, L_1023, L_1024, nLe, nLt, nEq, nI_1, nI_add, pk_mul, nSn, nDn, nCl, zck_nI, zdv_nI, nNeg, nLe0, n0Lt, nEq0, nM1, m1N, m1Lt, nLm1, zcb_0, zcb_1, i10, i01, nEq1, n1Eq, nLt1, gI_eq, gI_nb, gI_na, x_badF, x_badT1, x_badT2, bt_0, bt_1, bit1_u, Bool.true_eq_false, Bool.false_eq_true, eq_self, Int32.or_zero, L_11, L_14, L_15, L_16, L_17, L_18, L_19, L_21, L_22, L_23, L_28, L_29, gIz]; rw [s3 _ _ (by omega), c1]
      have y21 : ∀ i, gI Y 21 i = gI S 21 i := fun i => by rw [← hY]; simp (disch := omega) only [Option.bind_some, Option.map_some, zlet_eq, ↓reduceIte, L_2, L_3, L_4, L_5, L_6, L_7, L_8, L_9, L_10, L_12, L_13, L_20, L_24, L_25, L_26, L_27, L_30, L_32, L_33, L_34, L_40, L_48, L_57, L_58, L_60, L_64, L_90, L_93, L_97, L_99, L_100, L_122, L_144, L_255, L_364, L_480, L_500, L_800, L_1000, L_100000, L_4096, L_1023, L_1024, nLe, nLt, nEq, nI_1, nI_add, pk_mul, nSn, nDn, nCl, zck_nI, zdv_nI, nNeg, nLe0, n0Lt, nEq0, nM1, m1N, m1Lt, nLm1, zcb_0, zcb_1, i10, i01, nEq1, n1Eq, nLt1, gI_eq, gI_nb, gI_na, x_badF, x_badT1, x_badT2, bt_0, bt_1, bit1_u, Bool.true_eq_false, Bool.false_eq_true, eq_self, Int32.or_zero, L_11, L_14, L_15, L_16, L_17, L_18, L_19, L_21, L_22, L_23, L_28, L_29, gIz]
      have y57 : gI Y 57 1 = 0 ∧ gI Y 0 16 = 0 := by rw [← hY]; refine ⟨?_, ?_⟩ <;> simp (disch := omega) only [Option.bind_some, Option.map_some, zlet_eq, ↓reduceIte, L_2, L_3, L_4, L_5, L_6, L_7, L_8, L_9, L_10, L_12, L_13, L_20, L_24, L_25, L_26, L_27, L_30, L_32, L_33, L_34, L_40, L_48, L_57, L_58, L_60, L_64, L_90, L_93, L_97, L_99, L_100, L_122, L_144, L_255, L_364, L_480, L_500, L_800, L_1000, L_100000, L_4096, L_1023, L_1024, nLe, nLt, nEq, nI_1, nI_add, pk_mul, nSn, nDn, nCl, zck_nI, zdv_nI, nNeg, nLe0, n0Lt, nEq0, nM1, m1N, m1Lt, nLm1, zcb_0, zcb_1, i10, i01, nEq1, n1Eq, nLt1, gI_eq, gI_nb, gI_na, x_badF, x_badT1, x_badT2, bt_0, bt_1, bit1_u, Bool.true_eq_false, Bool.false_eq_true, eq_self, Int32.or_zero, L_11, L_14, L_15, L_16, L_17, L_18, L_19, L_21, L_22, L_23, L_28, L_29, gIz]
      have y101 : ∀ b, b < 34 → gI Y 101 b = -1000000 := fun b hb => by rw [← hY, gI_na (by omega)]; exact if_pos ⟨rfl, hb⟩
      have yo : ag (fun a b => ¬ (a = 20 ∧ b = 1) ∧ a ≠ 21 ∧ ¬ (a = 57 ∧ b = 1) ∧ a ≠ 101 ∧ ¬ (a = 0 ∧ b = 16)) q.2 Y := by
        rw [← hY]
        exact (((c3.mono fun a b q => ⟨q.1, q.2.1⟩).trans (s3.mono fun a b q => q.2.1)).trans (((ag.refl.sI (by omega)).zfill (fun b => by omega)).sI (by omega)))
      clear hY
      refine zok_some.mpr fun E hE => ?_
      have hE' : ∀ a b, gI E a b = gI Y a b := fun a b => by show E.2 a b = Y.2 a b; rw [hE]
      refine ref E _ (fun a b h1 h2 h3 => by rw [hE', yo _ _ (by omega), kc _ _ (by omega)]) fun G g1 g4 g5 g6 => ?_
      refine x3 G (nI n) _ g1 fun F f1 f2 f3 f4 => ?_
      refine r_rule95 f2 f3 f4 ⟨lp, lo⟩ (nI n) fun R r1 r2 r3 r4 r5 r6 => ?_
      have low : ∀ a b, a < 102 → gI R a b = gI Y a b := fun a b h1 => by
        rw [r1.1 _ _ (by unfold pR95; omega), f1.1 _ _ (by unfold pRl; omega), g4.1 _ _ (by omega), hE']
      have kY : ag (fun a b => pKr a b ∧ ¬ (a = 57 ∧ b = 1) ∧ a ≠ 101 ∧ ¬ (a = 0 ∧ b = 16) ∧ ¬ (a = 20 ∧ b = 1) ∧ a ≠ 21) D E := fun a b r => by
        rw [hE', yo _ _ (by omega), kq _ _ r.1]
      have kR : ag (fun a b => pKr a b ∧ ¬ (a = 57 ∧ b = 1) ∧ a ≠ 101 ∧ ¬ (a = 0 ∧ b = 16) ∧ ¬ (a = 20 ∧ b = 1) ∧ a ≠ 21 ∧ ¬ (a = 102 ∧ (b = 26 ∨ b = 35)) ∧ a ≠ 128) D R := by
        refine ((kY.mono fun a b r => ⟨r.1, r.2.1, r.2.2.1, r.2.2.2.1, r.2.2.2.2.1, r.2.2.2.2.2.1⟩).trans ((e3 g4).mono fun a b r => r.1)).trans (((e3 (pRK f1)).mono fun a b r => r.1).trans (r1.1.mono fun a b r => ?_))
        have := r.1
        have := r.2.2.2.2.2.2
        unfold pKr at *
        unfold pR95
        omega
      have eqs : ∀ i, i < l.length → gI R 21 i = gI R 128 i := fun i hi => by
        rw [low _ _ (by omega), y21]
        refine srt_uni l.length (fun y => ?_) s1 r5 i hi
        rw [s2 y, r6 y]
        exact cnt_cong fun k hk => c2 k hk
      have mem : ∀ i, i < l.length → un (gI R 128 i) < 2 ^ (P 0 * P 1) := fun i hi => by
        have := cnt_one (f := gI R 128) hi
        rw [r6] at this
        obtain ⟨j, j1, j2⟩ := cnt_pos _ this
        replace j2 : l.getD j 0 = gI R 128 i := j2
        rw [← j2]
        exact okl_at ok j1
      refine ⟨⟨fun k => if k = 4 then l.length else if k = 6 then 0 else if k = 9 then 0 else P k, ?_⟩, ⟨?_, ?_⟩, ?_⟩
      · obtain ⟨⟨hal, hco, hsc, him2, hta2⟩, hK2, hO2⟩ := h'
        refine ⟨⟨?_, ?_, ?_, ?_, ?_⟩, ?_, ?_⟩
        · exact iv_al.q rfl rfl rfl rfl ((kR.mono (by unfold pKr pA; intros; omega)).al hal)
        · exact ⟨⟨lp, lo⟩, by rw [low _ _ (by omega)]; exact y20, r3, fun k hk => ⟨eqs k hk, mem k hk⟩⟩
        · refine sc_scal hsc (kR.mono (by unfold pKr pS'; intros; omega)) rfl (by show P 5 ≤ 3; omega) (Nat.zero_le _) (Nat.le_refl _) ?_ ?_ ?_ ?_ ?_ ?_
          · show _ = nI (P 5)
            rw [kR _ _ (by unfold pKr; omega), z0]
          · show _ = nI 0
            rw [low _ _ (by omega), y57.1]; rfl
          · show _ = nI (P 7)
            rw [kR _ _ (by unfold pKr; omega), z2]
          · show _ = nI (P 5)
            rw [kR _ _ (by unfold pKr; omega), y0]
          · show _ = nI 0
            rw [r4]; rfl
          · show _ = nI (P 7)
            rw [kR _ _ (by unfold pKr; omega), y2]
        · exact iv_im.q rfl rfl ((kR.mono (by unfold pKr pI; intros; omega)).im him2)
        · refine ⟨Nat.zero_le _, ?_, ?_, ?_, fun k hk => absurd hk (Nat.not_lt_zero _)⟩
          · rw [low _ _ (by omega), yo _ _ (by omega), q17]; rfl
          · rw [r1.1 _ _ (by unfold pR95; omega), f1.1 _ _ (by unfold pRl; omega), g6]; rfl
          · rw [low _ _ (by omega), yo _ _ (by omega), r2]; exact x4
        · refine iv_K.new (by show P 2 ≤ 12; omega) (fun b hb34 => ?_) ?_
          · rw [low _ _ (by omega)]; exact y101 b hb34
          · rw [low _ _ (by omega)]; exact y57.2
        · refine iv_O.q rfl rfl (ag.O' (kR.mono (by unfold pKr pO; intros; omega)) (fun o b ho => kR _ _ (by unfold pKr; omega)) hsc.1.2.2 hO2)
      · rw [r1.1 _ _ (by unfold pR95; omega), f1.1 _ _ (by unfold pRl; omega), g5]
      · show nI l.length = gI Y 20 1
        rw [y20]
      · show gL R 206 0 = _
        rw [r1.l, f1.l, g4.l]
end M9zi
