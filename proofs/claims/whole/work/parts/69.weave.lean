/-! THE MATHEMATICS: the class's pairs: woven, one cell changed, counted -/
theorem ite_iff {α : Type} {p q : Prop} [Decidable p] [Decidable q] (h : p ↔ q) {a b : α} : (if p then a else b) = if q then a else b := by
  by_cases g : p
  · rw [if_pos g, if_pos (h.mp g)]
  · rw [if_neg g, if_neg fun r => g (h.mpr r)]
section M69
variable {D : zD} {P : Nat → Nat} {nc e c ns : Nat} {cv : Nat → Int32}
def offd (nc : Nat) (cv : Nat → Int32) (e : Nat) (pt : Nat → Int32) : Nat → Nat → Bool := fun s o => !decide (o = s) && cfp nc cv e pt s o
theorem offd_sym (pt : Nat → Int32) (i j : Nat) : offd nc cv e pt i j = offd nc cv e pt j i := by
  unfold offd
  rw [cfp_sym pt i j]
  congr 2
  exact decide_eq_decide.mpr eq_comm
theorem offd_d (pt : Nat → Int32) (s : Nat) : offd nc cv e pt s s = false := by unfold offd; simp
theorem offd_prs (pt : Nat → Int32) : prs ns (offd nc cv e pt) = prA ns nc cv e pt := pst_ind fun i j _ hj => by unfold offd; rw [decide_eq_false (by omega)]; rfl
theorem tg_of {a : Nat} {pt : Nat → Int32} (h : tgs a c ns nc cv e pt (offd nc cv e pt) (fun _ _ => True) D) : tg a c ns nc cv e pt D := by
  obtain ⟨⟨h1, h2, h3, h4⟩, h5, h6, h7⟩ := h
  refine ⟨h1, h2, h3, by rw [h4, offd_prs], h5, fun s hs o ho => ?_, fun s o hs ho ne i hi => h7 s o hs ho ne trivial i hi⟩
  rw [h6 s hs o ho]
  unfold offd
  rw [Bool.and_assoc]
theorem tg_to {a : Nat} {pt : Nat → Int32} (h : tg a c ns nc cv e pt D) : tgs a c ns nc cv e pt (offd nc cv e pt) (fun _ _ => True) D := by
  obtain ⟨h1, h2, h3, h4, h5, h6, h7⟩ := h
  refine ⟨⟨h1, h2, h3, by rw [h4, offd_prs]⟩, h5, fun s hs o ho => ?_, fun s o hs ho ne _ i hi => h7 s o hs ho ne i hi⟩
  rw [h6 s hs o ho]
  unfold offd
  rw [Bool.and_assoc]
def Fw (nc : Nat) (cv : Nat → Int32) (e : Nat) (pt : Nat → Int32) (m k : Nat) : Nat → Nat → Bool := fun i j => decide (i ≠ j ∧ (min i j < m ∨ (min i j = m ∧ max i j < k))) && cfp nc cv e pt i j
theorem Fw_sym (pt : Nat → Int32) (m k i j : Nat) : Fw nc cv e pt m k i j = Fw nc cv e pt m k j i := by
  unfold Fw
  have q : (i ≠ j ∧ (min i j < m ∨ (min i j = m ∧ max i j < k))) ↔ (j ≠ i ∧ (min j i < m ∨ (min j i = m ∧ max j i < k))) := by omega
  rw [cfp_sym pt i j, decide_eq_decide.mpr q]
theorem Fw_eq {pt : Nat → Int32} {m k m2 k2 i j : Nat} (h : (i ≠ j ∧ (min i j < m ∨ (min i j = m ∧ max i j < k))) ↔ (i ≠ j ∧ (min i j < m2 ∨ (min i j = m2 ∧ max i j < k2)))) : Fw nc cv e pt m k i j = Fw nc cv e pt m2 k2 i j := by
  unfold Fw
  rw [decide_eq_decide.mpr h]
/-- all pairs are settled, one < other -/
theorem c_weave73 {a : Nat} {pt : Nat → Int32} {v2 : Int32} {a1 : Nat} (ha : 22 ≤ a) (hc : hcv nc c cv D) (hc30 : c < 31) (he : e < 100) (hn : ns ≤ 12) (hpt : ∀ s, s < ns → un (pt s) < 2 ^ c) (h : tgs a c ns nc cv e pt (fun _ _ => false) (fun _ _ => False) D) : zok (fn_X10_weave_73 a a1 v2 zFU 0 D) fun E => tg a c ns nc cv e pt E ∧ ag (pOut a) D E := by
  refine z_inv ns (fun n m (E : zD) => fn_X10_weave_73 a a1 v2 n (nI m) E) (fun m E => tgs a c ns nc cv e pt (Fw nc cv e pt m 0) (fun i j => min i j < m) E ∧ ag (pOut a) D E) _ ?_ ?_ 0 zFU D (by omega) (zfu_gt (by omega)) ⟨h.cong (fun i j _ _ => by unfold Fw; rw [decide_eq_false (by omega)]; rfl) (fun i j _ _ _ q => by omega), ag.refl⟩
  · intro n m E hm ⟨g1, g2⟩ ih
    show zok (fn_X10_weave_73 a a1 v2 (n + 1) (nI m) E) _
    rw [fn_X10_weave_73, g1.1.1]
    simp (disch := omega) only [Option.bind_some, Option.map_some, zlet_eq, ↓reduceIte, L_2, L_3, L_4, L_5, L_6, L_7, L_8, L_9, L_10, L_12, L_13, L_20, L_24, L_25, L_26, L_27, L_30, L_32, L_33, L_34, L_40, L_48, L_57, L_58, L_60, L_64, L_90, L_93, L_97, L_99, L_100, L_122, L_144, L_255, L_364, L_480, L_500, L_800, L_1000, L_100000, L_4096, L_1023, L_1024, nLe, nLt, nEq, nI_1, nI_add, pk_mul, nSn, nDn, nCl, zck_nI, zdv_nI, nNeg, nLe0, n0Lt, nEq0, nM1, m1N, m1Lt, nLm1, zcb_0, zcb_1, i10, i01, nEq1, n1Eq, nLt1, gI_eq, gI_nb, gI_na, x_badF, x_badT1, x_badT2, bt_0, bt_1, bit1_u, Bool.true_eq_false, Bool.false_eq_true, eq_self, Int32.or_zero, L_11, L_14, L_15, L_16, L_17, L_18, L_19, L_21, L_22, L_23, L_28, L_29, if_pos, if_neg]
    refine z_inv ns (fun q k (E : zD) => fn_X10_weave_86 a a1 v2 (fn_X10_weave_73 a a1 v2 n) q (nI m) (nI k) E) (fun k E => m + 1 ≤ k ∧ tgs a c ns nc cv e pt (Fw nc cv e pt m k) (fun i j => min i j < m ∨ (min i j = m ∧ max i j < k)) E ∧ ag (pOut a) D E) _ ?_ ?_ (m + 1) zFU E (by omega) (zfu_gt (by omega)) ⟨by omega, g1.cong (fun i j _ _ => Fw_eq (by omega)) (fun i j _ _ ne q => by omega), g2⟩
    · intro q k E hk ⟨k0, k1, k2⟩ ih2
      show zok (fn_X10_weave_86 a a1 v2 (fn_X10_weave_73 a a1 v2 n) (q + 1) (nI m) (nI k) E) _
      rw [fn_X10_weave_86, k1.1.1]
      simp (disch := omega) only [Option.bind_some, Option.map_some, zlet_eq, ↓reduceIte, L_2, L_3, L_4, L_5, L_6, L_7, L_8, L_9, L_10, L_12, L_13, L_20, L_24, L_25, L_26, L_27, L_30, L_32, L_33, L_34, L_40, L_48, L_57, L_58, L_60, L_64, L_90, L_93, L_97, L_99, L_100, L_122, L_144, L_255, L_364, L_480, L_500, L_800, L_1000, L_100000, L_4096, L_1023, L_1024, nLe, nLt, nEq, nI_1, nI_add, pk_mul, nSn, nDn, nCl, zck_nI, zdv_nI, nNeg, nLe0, n0Lt, nEq0, nM1, m1N, m1Lt, nLm1, zcb_0, zcb_1, i10, i01, nEq1, n1Eq, nLt1, gI_eq, gI_nb, gI_na, x_badF, x_badT1, x_badT2, bt_0, bt_1, bit1_u, Bool.true_eq_false, Bool.false_eq_true, eq_self, Int32.or_zero, L_11, L_14, L_15, L_16, L_17, L_18, L_19, L_21, L_22, L_23, L_28, L_29, if_pos, if_neg]
      refine (c_settle ha (hc.keep k2 ha) hc30 he hn hpt (Fw_sym pt m k) hm hk (show m ≠ k by omega) k1).bind fun F ⟨f1, f2⟩ => ih2 F ⟨by omega, f1.cong (fun i j hi hj => ?_) (fun i j _ _ ne q => by omega), k2.trans f2⟩
      unfold pairUpd
      split
      · rename_i q
        rcases q with ⟨rfl, rfl⟩ | ⟨rfl, rfl⟩
        · unfold Fw
          rw [decide_eq_true (by omega), Bool.true_and]
        · unfold Fw
          rw [decide_eq_true (by omega), Bool.true_and, cfp_sym]
      · exact Fw_eq (by omega)
    · intro q E ⟨k0, k1, k2⟩
      show zok (fn_X10_weave_86 a a1 v2 (fn_X10_weave_73 a a1 v2 n) (q + 1) (nI m) (nI ns) E) _
      rw [fn_X10_weave_86, k1.1.1]
      simp (disch := omega) only [Option.bind_some, Option.map_some, zlet_eq, ↓reduceIte, L_2, L_3, L_4, L_5, L_6, L_7, L_8, L_9, L_10, L_12, L_13, L_20, L_24, L_25, L_26, L_27, L_30, L_32, L_33, L_34, L_40, L_48, L_57, L_58, L_60, L_64, L_90, L_93, L_97, L_99, L_100, L_122, L_144, L_255, L_364, L_480, L_500, L_800, L_1000, L_100000, L_4096, L_1023, L_1024, nLe, nLt, nEq, nI_1, nI_add, pk_mul, nSn, nDn, nCl, zck_nI, zdv_nI, nNeg, nLe0, n0Lt, nEq0, nM1, m1N, m1Lt, nLm1, zcb_0, zcb_1, i10, i01, nEq1, n1Eq, nLt1, gI_eq, gI_nb, gI_na, x_badF, x_badT1, x_badT2, bt_0, bt_1, bit1_u, Bool.true_eq_false, Bool.false_eq_true, eq_self, Int32.or_zero, L_11, L_14, L_15, L_16, L_17, L_18, L_19, L_21, L_22, L_23, L_28, L_29, if_pos, if_neg]
      exact ih E ⟨k1.cong (fun i j _ _ => Fw_eq (by omega)) (fun i j _ _ ne q => by omega), k2⟩
  · intro n E ⟨g1, g2⟩
    show zok (fn_X10_weave_73 a a1 v2 (n + 1) (nI ns) E) _
    rw [fn_X10_weave_73, g1.1.1]
    simp (disch := omega) only [Option.bind_some, Option.map_some, zlet_eq, ↓reduceIte, L_2, L_3, L_4, L_5, L_6, L_7, L_8, L_9, L_10, L_12, L_13, L_20, L_24, L_25, L_26, L_27, L_30, L_32, L_33, L_34, L_40, L_48, L_57, L_58, L_60, L_64, L_90, L_93, L_97, L_99, L_100, L_122, L_144, L_255, L_364, L_480, L_500, L_800, L_1000, L_100000, L_4096, L_1023, L_1024, nLe, nLt, nEq, nI_1, nI_add, pk_mul, nSn, nDn, nCl, zck_nI, zdv_nI, nNeg, nLe0, n0Lt, nEq0, nM1, m1N, m1Lt, nLm1, zcb_0, zcb_1, i10, i01, nEq1, n1Eq, nLt1, gI_eq, gI_nb, gI_na, x_badF, x_badT1, x_badT2, bt_0, bt_1, bit1_u, Bool.true_eq_false, Bool.false_eq_true, eq_self, Int32.or_zero, L_11, L_14, L_15, L_16, L_17, L_18, L_19, L_21, L_22, L_23, L_28, L_29, if_pos, if_neg, zok_some]
    refine ⟨tg_of (g1.cong (fun i j hi hj => ?_) (fun i j hi hj ne _ => by omega)), g2⟩
    unfold Fw offd
    have q : (i ≠ j ∧ (min i j < ns ∨ (min i j = ns ∧ max i j < 0))) ↔ ¬ (j = i) := by omega
    rw [decide_eq_decide.mpr q, decide_not]
theorem iv_hcv (h : iv P D) : hcv (P 4) (P 0 * P 1) (gI D 128) D := by
  obtain ⟨⟨⟨hb, ⟨a0, a1, a2, a3⟩, ⟨b0, b1, b2, b3⟩, hs, hw⟩, ⟨hc, c1, c2, hcv⟩, ⟨hd, ⟨z0, z1, z2⟩, ⟨y0, y1, y2⟩, hp, ht⟩, ⟨hi, i0, i1, him⟩, ⟨hta, ta0, ta1, hpl, htb⟩⟩, hK, hO⟩ := h
  replace y0 : gI _ 102 34 = nI (P 5) := y0
  replace y1 : gI _ 102 35 = nI (P 6) := y1
  replace y2 : gI _ 102 36 = nI (P 7) := y2
  exact ⟨hc.2, c1, fun k hk => (hcv k hk).1, fun k hk => (hcv k hk).2⟩
theorem c_weave (h : iv P D) : zok (fn_X10_weave 81 3 (nI (2 * P 5)) D) fun E => tg 81 (P 0 * P 1) (P 2) (P 4) (gI D 128) (2 * P 5) (gI D 105) E ∧ ag (pOut 81) D E := by
  have h' := h
  have hcc := iv_hcv h
  obtain ⟨⟨⟨hb, ⟨a0, a1, a2, a3⟩, ⟨b0, b1, b2, b3⟩, hs, hw⟩, ⟨hc, c1, c2, hcv⟩, ⟨hd, ⟨z0, z1, z2⟩, ⟨y0, y1, y2⟩, hp, ht⟩, ⟨hi, i0, i1, him⟩, ⟨hta, ta0, ta1, hpl, htb⟩⟩, hK, hO⟩ := h
  replace y0 : gI _ 102 34 = nI (P 5) := y0
  replace y1 : gI _ 102 35 = nI (P 6) := y1
  replace y2 : gI _ 102 36 = nI (P 7) := y2
  have h30 := wh_le (w := P 0) (h := P 1) (by omega) (by omega)
  unfold fn_X10_weave fn_X0_cells
  simp (disch := omega) only [Option.bind_some, Option.map_some, zlet_eq, ↓reduceIte, L_2, L_3, L_4, L_5, L_6, L_7, L_8, L_9, L_10, L_12, L_13, L_20, L_24, L_25, L_26, L_27, L_30, L_32, L_33, L_34, L_40, L_48, L_57, L_58, L_60, L_64, L_90, L_93, L_97, L_99, L_100, L_122, L_144, L_255, L_364, L_480, L_500, L_800, L_1000, L_100000, L_4096, L_1023, L_1024, nLe, nLt, nEq, nI_1, nI_add, pk_mul, nSn, nDn, nCl, zck_nI, zdv_nI, nNeg, nLe0, n0Lt, nEq0, nM1, m1N, m1Lt, nLm1, zcb_0, zcb_1, i10, i01, nEq1, n1Eq, nLt1, gI_eq, gI_nb, gI_na, x_badF, x_badT1, x_badT2, bt_0, bt_1, bit1_u, Bool.true_eq_false, Bool.false_eq_true, eq_self, Int32.or_zero, L_11, L_14, L_15, L_16, L_17, L_18, L_19, L_21, L_22, L_23, L_28, L_29, if_pos, if_neg, a0, a1, a2, zmn_n, Nat.min_eq_left hb.2.2.2.2.1]
  refine z_inv (P 2) (fun n i (E : zD) => fn_X10_weave_33 81 3 (nI (2 * P 5)) n (nI i) E) (fun i E => (gI E 81 4 = nI (P 2) ∧ gI E 81 5 = nI (P 0 * P 1) ∧ gI E 81 6 = nI (2 * P 5) ∧ gI E 81 7 = 0) ∧ (∀ s, s < i → gI E 82 s = gI D 105 s ∧ gI E 83 s = 0) ∧ ag (pOut 81) D E) _ ?_ ?_ 0 zFU _ (by omega) (zfu_gt (by omega)) ⟨⟨by simp (disch := omega) only [Option.bind_some, Option.map_some, zlet_eq, ↓reduceIte, L_2, L_3, L_4, L_5, L_6, L_7, L_8, L_9, L_10, L_12, L_13, L_20, L_24, L_25, L_26, L_27, L_30, L_32, L_33, L_34, L_40, L_48, L_57, L_58, L_60, L_64, L_90, L_93, L_97, L_99, L_100, L_122, L_144, L_255, L_364, L_480, L_500, L_800, L_1000, L_100000, L_4096, L_1023, L_1024, nLe, nLt, nEq, nI_1, nI_add, pk_mul, nSn, nDn, nCl, zck_nI, zdv_nI, nNeg, nLe0, n0Lt, nEq0, nM1, m1N, m1Lt, nLm1, zcb_0, zcb_1, i10, i01, nEq1, n1Eq, nLt1, gI_eq, gI_nb, gI_na, x_badF, x_badT1, x_badT2, bt_0, bt_1, bit1_u, Bool.true_eq_false, Bool.false_eq_true, eq_self, Int32.or_zero, L_11, L_14, L_15, L_16, L_17, L_18, L_19, L_21, L_22, L_23, L_28, L_29, if_pos, if_neg], by simp (disch := omega) only [Option.bind_some, Option.map_some, zlet_eq, ↓reduceIte, L_2, L_3, L_4, L_5, L_6, L_7, L_8, L_9, L_10, L_12, L_13, L_20, L_24, L_25, L_26, L_27, L_30, L_32, L_33, L_34, L_40, L_48, L_57, L_58, L_60, L_64, L_90, L_93, L_97, L_99, L_100, L_122, L_144, L_255, L_364, L_480, L_500, L_800, L_1000, L_100000, L_4096, L_1023, L_1024, nLe, nLt, nEq, nI_1, nI_add, pk_mul, nSn, nDn, nCl, zck_nI, zdv_nI, nNeg, nLe0, n0Lt, nEq0, nM1, m1N, m1Lt, nLm1, zcb_0, zcb_1, i10, i01, nEq1, n1Eq, nLt1, gI_eq, gI_nb, gI_na, x_badF, x_badT1, x_badT2, bt_0, bt_1, bit1_u, Bool.true_eq_false, Bool.false_eq_true, eq_self, Int32.or_zero, L_11, L_14, L_15, L_16, L_17, L_18, L_19, L_21, L_22, L_23, L_28, L_29, if_pos, if_neg], by simp (disch := omega) only [Option.bind_some, Option.map_some, zlet_eq, ↓reduceIte, L_2, L_3, L_4, L_5, L_6, L_7, L_8, L_9, L_10, L_12, L_13, L_20, L_24, L_25, L_26, L_27, L_30, L_32, L_33, L_34, L_40, L_48, L_57, L_58, L_60, L_64, L_90, L_93, L_97, L_99, L_100, L_122, L_144, L_255, L_364, L_480, L_500, L_800, L_1000, L_100000, L_4096, L_1023, L_1024, nLe, nLt, nEq, nI_1, nI_add, pk_mul, nSn, nDn, nCl, zck_nI, zdv_nI, nNeg, nLe0, n0Lt, nEq0, nM1, m1N, m1Lt, nLm1, zcb_0, zcb_1, i10, i01, nEq1, n1Eq, nLt1, gI_eq, gI_nb, gI_na, x_badF, x_badT1, x_badT2, bt_0, bt_1, bit1_u, Bool.true_eq_false, Bool.false_eq_true, eq_self, Int32.or_zero, L_11, L_14, L_15, L_16, L_17, L_18, L_19, L_21, L_22, L_23, L_28, L_29, if_pos, if_neg], by simp (disch := omega) only [Option.bind_some, Option.map_some, zlet_eq, ↓reduceIte, L_2, L_3, L_4, L_5, L_6, L_7, L_8, L_9, L_10, L_12, L_13, L_20, L_24, L_25, L_26, L_27, L_30, L_32, L_33, L_34, L_40, L_48, L_57, L_58, L_60, L_64, L_90, L_93, L_97, L_99, L_100, L_122, L_144, L_255, L_364, L_480, L_500, L_800, L_1000, L_100000, L_4096, L_1023, L_1024, nLe, nLt, nEq, nI_1, nI_add, pk_mul, nSn, nDn, nCl, zck_nI, zdv_nI, nNeg, nLe0, n0Lt, nEq0, nM1, m1N, m1Lt, nLm1, zcb_0, zcb_1, i10, i01, nEq1, n1Eq, nLt1, gI_eq, gI_nb, gI_na, x_badF, x_badT1, x_badT2, bt_0, bt_1, bit1_u, Bool.true_eq_false, Bool.false_eq_true, eq_self, Int32.or_zero, L_11, L_14, L_15, L_16, L_17, L_18, L_19, L_21, L_22, L_23, L_28, L_29, if_pos, if_neg]⟩, fun s hs => by omega, (((ag.refl.sI (by unfold pOut; omega)).sI (by unfold pOut; omega)).sI (by unfold pOut; omega)).sI (by unfold pOut; omega)⟩
  · intro n i E hi' ⟨⟨g1, g2, g3, g4⟩, g5, g6⟩ ih
    show zok (fn_X10_weave_33 81 3 (nI (2 * P 5)) (n + 1) (nI i) E) _
    have hp : fn_X0_paintOf 3 (nI i) E = some (gI D 105 i) := by
      rw [v_paint (ns := P 2) (by rw [g6 _ _ (by unfold pOut; omega), a2]) hi' (by omega), g6 _ _ (by unfold pOut; omega), (hs i hi').1]
    rw [fn_X10_weave_33, g1]
    simp (disch := omega) only [Option.bind_some, Option.map_some, zlet_eq, ↓reduceIte, L_2, L_3, L_4, L_5, L_6, L_7, L_8, L_9, L_10, L_12, L_13, L_20, L_24, L_25, L_26, L_27, L_30, L_32, L_33, L_34, L_40, L_48, L_57, L_58, L_60, L_64, L_90, L_93, L_97, L_99, L_100, L_122, L_144, L_255, L_364, L_480, L_500, L_800, L_1000, L_100000, L_4096, L_1023, L_1024, nLe, nLt, nEq, nI_1, nI_add, pk_mul, nSn, nDn, nCl, zck_nI, zdv_nI, nNeg, nLe0, n0Lt, nEq0, nM1, m1N, m1Lt, nLm1, zcb_0, zcb_1, i10, i01, nEq1, n1Eq, nLt1, gI_eq, gI_nb, gI_na, x_badF, x_badT1, x_badT2, bt_0, bt_1, bit1_u, Bool.true_eq_false, Bool.false_eq_true, eq_self, Int32.or_zero, L_11, L_14, L_15, L_16, L_17, L_18, L_19, L_21, L_22, L_23, L_28, L_29, if_pos, if_neg, hp]
    refine ih _ ⟨⟨by simp (disch := omega) only [Option.bind_some, Option.map_some, zlet_eq, ↓reduceIte, L_2, L_3, L_4, L_5, L_6, L_7, L_8, L_9, L_10, L_12, L_13, L_20, L_24, L_25, L_26, L_27, L_30, L_32, L_33, L_34, L_40, L_48, L_57, L_58, L_60, L_64, L_90, L_93, L_97, L_99, L_100, L_122, L_144, L_255, L_364, L_480, L_500, L_800, L_1000, L_100000, L_4096, L_1023, L_1024, nLe, nLt, nEq, nI_1, nI_add, pk_mul, nSn, nDn, nCl, zck_nI, zdv_nI, nNeg, nLe0, n0Lt, nEq0, nM1, m1N, m1Lt, nLm1, zcb_0, zcb_1, i10, i01, nEq1, n1Eq, nLt1, gI_eq, gI_nb, gI_na, x_badF, x_badT1, x_badT2, bt_0, bt_1, bit1_u, Bool.true_eq_false, Bool.false_eq_true, eq_self, Int32.or_zero, L_11, L_14, L_15, L_16, L_17, L_18, L_19, L_21, L_22, L_23, L_28, L_29, if_pos, if_neg, g1], by simp (disch := omega) only [Option.bind_some, Option.map_some, zlet_eq, ↓reduceIte, L_2, L_3, L_4, L_5, L_6, L_7, L_8, L_9, L_10, L_12, L_13, L_20, L_24, L_25, L_26, L_27, L_30, L_32, L_33, L_34, L_40, L_48, L_57, L_58, L_60, L_64, L_90, L_93, L_97, L_99, L_100, L_122, L_144, L_255, L_364, L_480, L_500, L_800, L_1000, L_100000, L_4096, L_1023, L_1024, nLe, nLt, nEq, nI_1, nI_add, pk_mul, nSn, nDn, nCl, zck_nI, zdv_nI, nNeg, nLe0, n0Lt, nEq0, nM1, m1N, m1Lt, nLm1, zcb_0, zcb_1, i10, i01, nEq1, n1Eq, nLt1, gI_eq, gI_nb, gI_na, x_badF, x_badT1, x_badT2, bt_0, bt_1, bit1_u, Bool.true_eq_false, Bool.false_eq_true, eq_self, Int32.or_zero, L_11, L_14, L_15, L_16, L_17, L_18, L_19, L_21, L_22, L_23, L_28, L_29, if_pos, if_neg, g2], by simp (disch := omega) only [Option.bind_some, Option.map_some, zlet_eq, ↓reduceIte, L_2, L_3, L_4, L_5, L_6, L_7, L_8, L_9, L_10, L_12, L_13, L_20, L_24, L_25, L_26, L_27, L_30, L_32, L_33, L_34, L_40, L_48, L_57, L_58, L_60, L_64, L_90, L_93, L_97, L_99, L_100, L_122, L_144, L_255, L_364, L_480, L_500, L_800, L_1000, L_100000, L_4096, L_1023, L_1024, nLe, nLt, nEq, nI_1, nI_add, pk_mul, nSn, nDn, nCl, zck_nI, zdv_nI, nNeg, nLe0, n0Lt, nEq0, nM1, m1N, m1Lt, nLm1, zcb_0, zcb_1, i10, i01, nEq1, n1Eq, nLt1, gI_eq, gI_nb, gI_na, x_badF, x_badT1, x_badT2, bt_0, bt_1, bit1_u, Bool.true_eq_false, Bool.false_eq_true, eq_self, Int32.or_zero, L_11, L_14, L_15, L_16, L_17, L_18, L_19, L_21, L_22, L_23, L_28, L_29, if_pos, if_neg, g3], by simp (disch := omega) only [Option.bind_some, Option.map_some, zlet_eq, ↓reduceIte, L_2, L_3, L_4, L_5, L_6, L_7, L_8, L_9, L_10, L_12, L_13, L_20, L_24, L_25, L_26, L_27, L_30, L_32, L_33, L_34, L_40, L_48, L_57, L_58, L_60, L_64, L_90, L_93, L_97, L_99, L_100, L_122, L_144, L_255, L_364, L_480, L_500, L_800, L_1000, L_100000, L_4096, L_1023, L_1024, nLe, nLt, nEq, nI_1, nI_add, pk_mul, nSn, nDn, nCl, zck_nI, zdv_nI, nNeg, nLe0, n0Lt, nEq0, nM1, m1N, m1Lt, nLm1, zcb_0, zcb_1, i10, i01, nEq1, n1Eq, nLt1, gI_eq, gI_nb, gI_na, x_badF, x_badT1, x_badT2, bt_0, bt_1, bit1_u, Bool.true_eq_false, Bool.false_eq_true, eq_self, Int32.or_zero, L_11, L_14, L_15, L_16, L_17, L_18, L_19, L_21, L_22, L_23, L_28, L_29, if_pos, if_neg, g4]⟩, fun s hs => ?_, (g6.sI (by unfold pOut; omega)).sI (by unfold pOut; omega)⟩
    by_cases q : s = i
    · subst q
      exact ⟨by simp (disch := omega) only [Option.bind_some, Option.map_some, zlet_eq, ↓reduceIte, L_2, L_3, L_4, L_5, L_6, L_7, L_8, L_9, L_10, L_12, L_13, L_20, L_24, L_25, L_26, L_27, L_30, L_32, L_33, L_34, L_40, L_48, L_57, L_58, L_60, L_64, L_90, L_93, L_97, L_99, L_100, L_122, L_144, L_255, L_364, L_480, L_500, L_800, L_1000, L_100000, L_4096, L_1023, L_1024, nLe, nLt, nEq, nI_1, nI_add, pk_mul, nSn, nDn, nCl, zck_nI, zdv_nI, nNeg, nLe0, n0Lt, nEq0, nM1, m1N, m1Lt, nLm1, zcb_0, zcb_1, i10, i01, nEq1, n1Eq, nLt1, gI_eq, gI_nb, gI_na, x_badF, x_badT1, x_badT2, bt_0, bt_1, bit1_u, Bool.true_eq_false, Bool.false_eq_true, eq_self, Int32.or_zero, L_11, L_14, L_15, L_16, L_17, L_18, L_19, L_21, L_22, L_23, L_28, L_29, if_pos, if_neg], by simp (disch := omega) only [Option.bind_some, Option.map_some, zlet_eq, ↓reduceIte, L_2, L_3, L_4, L_5, L_6, L_7, L_8, L_9, L_10, L_12, L_13, L_20, L_24, L_25, L_26, L_27, L_30, L_32, L_33, L_34, L_40, L_48, L_57, L_58, L_60, L_64, L_90, L_93, L_97, L_99, L_100, L_122, L_144, L_255, L_364, L_480, L_500, L_800, L_1000, L_100000, L_4096, L_1023, L_1024, nLe, nLt, nEq, nI_1, nI_add, pk_mul, nSn, nDn, nCl, zck_nI, zdv_nI, nNeg, nLe0, n0Lt, nEq0, nM1, m1N, m1Lt, nLm1, zcb_0, zcb_1, i10, i01, nEq1, n1Eq, nLt1, gI_eq, gI_nb, gI_na, x_badF, x_badT1, x_badT2, bt_0, bt_1, bit1_u, Bool.true_eq_false, Bool.false_eq_true, eq_self, Int32.or_zero, L_11, L_14, L_15, L_16, L_17, L_18, L_19, L_21, L_22, L_23, L_28, L_29, if_pos, if_neg]⟩
    · exact ⟨by simp (disch := omega) only [Option.bind_some, Option.map_some, zlet_eq, ↓reduceIte, L_2, L_3, L_4, L_5, L_6, L_7, L_8, L_9, L_10, L_12, L_13, L_20, L_24, L_25, L_26, L_27, L_30, L_32, L_33, L_34, L_40, L_48, L_57, L_58, L_60, L_64, L_90, L_93, L_97, L_99, L_100, L_122, L_144, L_255, L_364, L_480, L_500, L_800, L_1000, L_100000, L_4096, L_1023, L_1024, nLe, nLt, nEq, nI_1, nI_add, pk_mul, nSn, nDn, nCl, zck_nI, zdv_nI, nNeg, nLe0, n0Lt, nEq0, nM1, m1N, m1Lt, nLm1, zcb_0, zcb_1, i10, i01, nEq1, n1Eq, nLt1, gI_eq, gI_nb, gI_na, x_badF, x_badT1, x_badT2, bt_0, bt_1, bit1_u, Bool.true_eq_false, Bool.false_eq_true, eq_self, Int32.or_zero, L_11, L_14, L_15, L_16, L_17, L_18, L_19, L_21, L_22, L_23, L_28, L_29, if_pos, if_neg, (g5 s (by omega)).1], by simp (disch := omega) only [Option.bind_some, Option.map_some, zlet_eq, ↓reduceIte, L_2, L_3, L_4, L_5, L_6, L_7, L_8, L_9, L_10, L_12, L_13, L_20, L_24, L_25, L_26, L_27, L_30, L_32, L_33, L_34, L_40, L_48, L_57, L_58, L_60, L_64, L_90, L_93, L_97, L_99, L_100, L_122, L_144, L_255, L_364, L_480, L_500, L_800, L_1000, L_100000, L_4096, L_1023, L_1024, nLe, nLt, nEq, nI_1, nI_add, pk_mul, nSn, nDn, nCl, zck_nI, zdv_nI, nNeg, nLe0, n0Lt, nEq0, nM1, m1N, m1Lt, nLm1, zcb_0, zcb_1, i10, i01, nEq1, n1Eq, nLt1, gI_eq, gI_nb, gI_na, x_badF, x_badT1, x_badT2, bt_0, bt_1, bit1_u, Bool.true_eq_false, Bool.false_eq_true, eq_self, Int32.or_zero, L_11, L_14, L_15, L_16, L_17, L_18, L_19, L_21, L_22, L_23, L_28, L_29, if_pos, if_neg, (g5 s (by omega)).2]⟩
  · intro n E ⟨⟨g1, g2, g3, g4⟩, g5, g6⟩
    show zok (fn_X10_weave_33 81 3 (nI (2 * P 5)) (n + 1) (nI (P 2)) E) _
    rw [fn_X10_weave_33, g1]
    simp (disch := omega) only [Option.bind_some, Option.map_some, zlet_eq, ↓reduceIte, L_2, L_3, L_4, L_5, L_6, L_7, L_8, L_9, L_10, L_12, L_13, L_20, L_24, L_25, L_26, L_27, L_30, L_32, L_33, L_34, L_40, L_48, L_57, L_58, L_60, L_64, L_90, L_93, L_97, L_99, L_100, L_122, L_144, L_255, L_364, L_480, L_500, L_800, L_1000, L_100000, L_4096, L_1023, L_1024, nLe, nLt, nEq, nI_1, nI_add, pk_mul, nSn, nDn, nCl, zck_nI, zdv_nI, nNeg, nLe0, n0Lt, nEq0, nM1, m1N, m1Lt, nLm1, zcb_0, zcb_1, i10, i01, nEq1, n1Eq, nLt1, gI_eq, gI_nb, gI_na, x_badF, x_badT1, x_badT2, bt_0, bt_1, bit1_u, Bool.true_eq_false, Bool.false_eq_true, eq_self, Int32.or_zero, L_11, L_14, L_15, L_16, L_17, L_18, L_19, L_21, L_22, L_23, L_28, L_29, if_pos, if_neg]
    refine (c_weave73 (by omega) (hcc.keep g6 (by omega)) (by omega) (by omega) (by omega) (fun s hs' => (hs s hs').2.2.1) ⟨⟨g1, g2, g3, ?_⟩, fun s hs' => (g5 s hs').1, fun s hs' o ho => ?_, fun s o hs ho ne q => q.elim⟩).mono fun F ⟨f1, f2⟩ => ⟨f1, g6.trans f2⟩
    · rw [g4, prs_zero.mpr fun i j _ _ => rfl]
      rfl
    · show bt (gI E 83 s) o = _
      rw [(g5 s hs').2, b_0, Bool.and_false]
/-- one cell of one sign is changed -/
def Ff (nc : Nat) (cv : Nat → Int32) (e : Nat) (pt qt : Nat → Int32) (s o : Nat) : Nat → Nat → Bool := fun i j => !decide (j = i) && (if (i = s ∧ j < o) ∨ (j = s ∧ i < o) then cfp nc cv e qt i j else cfp nc cv e pt i j)
theorem Ff_sym (pt qt : Nat → Int32) (s o i j : Nat) : Ff nc cv e pt qt s o i j = Ff nc cv e pt qt s o j i := by
  unfold Ff
  rw [cfp_sym pt i j, cfp_sym qt i j, decide_eq_decide.mpr (@eq_comm _ j i)]
  by_cases q : (i = s ∧ j < o) ∨ (j = s ∧ i < o)
  · rw [if_pos q, if_pos q.symm]
  · rw [if_neg q, if_neg fun r => q r.symm]
theorem un_bit1 {i c : Nat} (hi : i < c) (hc : c < 32) : un (bit1 i) < 2 ^ c := by
  rw [bit1_eq i (by omega), un_nI (Nat.lt_of_lt_of_le (Nat.pow_lt_pow_right (by decide) (show i < 32 by omega)) (by decide))]
  exact Nat.pow_lt_pow_right (by decide) hi
theorem flp_un {pt : Nat → Int32} {s i : Nat} (hi : i < c) (hc : c < 31) (hpt : ∀ s, s < ns → un (pt s) < 2 ^ c) : ∀ t, t < ns → un (flp pt s i t) < 2 ^ c := by
  intro t ht
  unfold flp
  split
  · exact un_xor (by omega) (hpt t ht) (un_bit1 hi (by omega))
  · exact hpt t ht
theorem c_flip {a : Nat} {pt : Nat → Int32} (ha : 22 ≤ a) (hc : hcv nc c cv D) (hc30 : c < 31) (he : e < 100) (hn : ns ≤ 12) (hpt : ∀ s, s < ns → un (pt s) < 2 ^ c) {s i : Nat} (hs : s < ns) (hi : i < c) (h : tg a c ns nc cv e pt D) : zok (fn_X10_flip a (nI s) (nI i) D) fun E => tg a c ns nc cv e (flp pt s i) E ∧ ag (pOut a) D E := by
  obtain ⟨⟨h1, h2, h3, h4⟩, h5, h6, h7⟩ := tg_to h
  have isS : fn_X10_isSign a (nI s) D = some 1 := by
    unfold fn_X10_isSign
    rw [h1]
    simp (disch := omega) only [Option.bind_some, Option.map_some, zlet_eq, ↓reduceIte, L_2, L_3, L_4, L_5, L_6, L_7, L_8, L_9, L_10, L_12, L_13, L_20, L_24, L_25, L_26, L_27, L_30, L_32, L_33, L_34, L_40, L_48, L_57, L_58, L_60, L_64, L_90, L_93, L_97, L_99, L_100, L_122, L_144, L_255, L_364, L_480, L_500, L_800, L_1000, L_100000, L_4096, L_1023, L_1024, nLe, nLt, nEq, nI_1, nI_add, pk_mul, nSn, nDn, nCl, zck_nI, zdv_nI, nNeg, nLe0, n0Lt, nEq0, nM1, m1N, m1Lt, nLm1, zcb_0, zcb_1, i10, i01, nEq1, n1Eq, nLt1, gI_eq, gI_nb, gI_na, x_badF, x_badT1, x_badT2, bt_0, bt_1, bit1_u, Bool.true_eq_false, Bool.false_eq_true, eq_self, Int32.or_zero, L_11, L_14, L_15, L_16, L_17, L_18, L_19, L_21, L_22, L_23, L_28, L_29, if_pos, if_neg]
  unfold fn_X10_flip
  rw [isS, Option.bind_some, if_neg (by decide), zck_nI (by omega) (by omega), zck_nI (by omega) (by omega), nI_clamp (by omega), h5 s hs, zlet_eq, bit1_u]
  have hflp : ∀ t, t ≠ s → flp pt s i t = pt t := fun t ht => if_neg ht
  have hfs : flp pt s i s = pt s ^^^ bit1 i := if_pos rfl
  refine z_inv ns (fun n o (E : zD) => fn_X10_flip_23 a (nI s) (nI i) n (nI o) E) (fun o E => tgs a c ns nc cv e (flp pt s i) (Ff nc cv e pt (flp pt s i) s o) (fun x y => (x ≠ s ∧ y ≠ s) ∨ (x = s ∧ y < o) ∨ (y = s ∧ x < o)) E ∧ ag (pOut a) D E) _ ?_ ?_ 0 zFU _ (by omega) (zfu_gt (by omega)) ⟨⟨⟨?_, ?_, ?_, ?_⟩, fun t ht => ?_, fun t ht o ho => ?_, fun t o ht ho hne hgd j hj => ?_⟩, ag.refl.sI (by unfold pOut; omega)⟩
  · intro n o E ho ⟨g1, g2⟩ ih
    show zok (fn_X10_flip_23 a (nI s) (nI i) (n + 1) (nI o) E) _
    rw [fn_X10_flip_23, g1.1.1]
    by_cases q : o = s
    · subst q
      simp (disch := omega) only [Option.bind_some, Option.map_some, zlet_eq, ↓reduceIte, L_2, L_3, L_4, L_5, L_6, L_7, L_8, L_9, L_10, L_12, L_13, L_20, L_24, L_25, L_26, L_27, L_30, L_32, L_33, L_34, L_40, L_48, L_57, L_58, L_60, L_64, L_90, L_93, L_97, L_99, L_100, L_122, L_144, L_255, L_364, L_480, L_500, L_800, L_1000, L_100000, L_4096, L_1023, L_1024, nLe, nLt, nEq, nI_1, nI_add, pk_mul, nSn, nDn, nCl, zck_nI, zdv_nI, nNeg, nLe0, n0Lt, nEq0, nM1, m1N, m1Lt, nLm1, zcb_0, zcb_1, i10, i01, nEq1, n1Eq, nLt1, gI_eq, gI_nb, gI_na, x_badF, x_badT1, x_badT2, bt_0, bt_1, bit1_u, Bool.true_eq_false, Bool.false_eq_true, eq_self, Int32.or_zero, L_11, L_14, L_15, L_16, L_17, L_18, L_19, L_21, L_22, L_23, L_28, L_29, if_pos, if_neg]
      refine ih E ⟨g1.cong (fun x y _ _ => ?_) (fun x y _ _ ne q => by omega), g2⟩
      unfold Ff
      by_cases q1 : y = x
      · simp [q1]
      · have q2 : ((x = o ∧ y < o) ∨ (y = o ∧ x < o)) ↔ ((x = o ∧ y < o + 1) ∨ (y = o ∧ x < o + 1)) := by omega
        rw [ite_iff q2]
    · simp (disch := omega) only [Option.bind_some, Option.map_some, zlet_eq, ↓reduceIte, L_2, L_3, L_4, L_5, L_6, L_7, L_8, L_9, L_10, L_12, L_13, L_20, L_24, L_25, L_26, L_27, L_30, L_32, L_33, L_34, L_40, L_48, L_57, L_58, L_60, L_64, L_90, L_93, L_97, L_99, L_100, L_122, L_144, L_255, L_364, L_480, L_500, L_800, L_1000, L_100000, L_4096, L_1023, L_1024, nLe, nLt, nEq, nI_1, nI_add, pk_mul, nSn, nDn, nCl, zck_nI, zdv_nI, nNeg, nLe0, n0Lt, nEq0, nM1, m1N, m1Lt, nLm1, zcb_0, zcb_1, i10, i01, nEq1, n1Eq, nLt1, gI_eq, gI_nb, gI_na, x_badF, x_badT1, x_badT2, bt_0, bt_1, bit1_u, Bool.true_eq_false, Bool.false_eq_true, eq_self, Int32.or_zero, L_11, L_14, L_15, L_16, L_17, L_18, L_19, L_21, L_22, L_23, L_28, L_29, if_pos, if_neg]
      refine (c_settle ha (hc.keep g2 ha) hc30 he hn (flp_un hi hc30 hpt) (Ff_sym pt (flp pt s i) s o) hs ho (show s ≠ o by omega) g1).bind fun F ⟨f1, f2⟩ => ih F ⟨f1.cong (fun x y _ _ => ?_) (fun x y _ _ ne q => by omega), g2.trans f2⟩
      unfold pairUpd
      split
      · rename_i r
        rcases r with ⟨rfl, rfl⟩ | ⟨rfl, rfl⟩
        · unfold Ff
          rw [decide_eq_false (by omega), if_pos (by omega)]
          rfl
        · unfold Ff
          rw [decide_eq_false (by omega), if_pos (by omega), cfp_sym]
          rfl
      · unfold Ff
        have q2 : ((x = s ∧ y < o) ∨ (y = s ∧ x < o)) ↔ ((x = s ∧ y < o + 1) ∨ (y = s ∧ x < o + 1)) := by omega
        rw [ite_iff q2]
  · intro n E ⟨g1, g2⟩
    show zok (fn_X10_flip_23 a (nI s) (nI i) (n + 1) (nI ns) E) _
    rw [fn_X10_flip_23, g1.1.1]
    simp (disch := omega) only [Option.bind_some, Option.map_some, zlet_eq, ↓reduceIte, L_2, L_3, L_4, L_5, L_6, L_7, L_8, L_9, L_10, L_12, L_13, L_20, L_24, L_25, L_26, L_27, L_30, L_32, L_33, L_34, L_40, L_48, L_57, L_58, L_60, L_64, L_90, L_93, L_97, L_99, L_100, L_122, L_144, L_255, L_364, L_480, L_500, L_800, L_1000, L_100000, L_4096, L_1023, L_1024, nLe, nLt, nEq, nI_1, nI_add, pk_mul, nSn, nDn, nCl, zck_nI, zdv_nI, nNeg, nLe0, n0Lt, nEq0, nM1, m1N, m1Lt, nLm1, zcb_0, zcb_1, i10, i01, nEq1, n1Eq, nLt1, gI_eq, gI_nb, gI_na, x_badF, x_badT1, x_badT2, bt_0, bt_1, bit1_u, Bool.true_eq_false, Bool.false_eq_true, eq_self, Int32.or_zero, L_11, L_14, L_15, L_16, L_17, L_18, L_19, L_21, L_22, L_23, L_28, L_29, if_pos, if_neg, zok_some]
    refine ⟨tg_of (g1.cong (fun x y hx hy => ?_) (fun x y hx hy ne _ => by omega)), g2⟩
    unfold Ff offd
    by_cases q : (x = s ∧ y < ns) ∨ (y = s ∧ x < ns)
    · rw [if_pos q]
    · rw [if_neg q]
      unfold cfp
      rw [hflp x (by omega), hflp y (by omega)]
  · rw [gI_na (by omega), h1]
  · rw [gI_na (by omega), h2]
  · rw [gI_na (by omega), h3]
  · rw [gI_na (by omega), h4]
    congr 1
    refine pst_ind fun x y hx hy => ?_
    unfold Ff offd
    rw [if_neg (by omega)]
  · rw [gI_if]
    by_cases q : t = s
    · subst q; rw [if_pos rfl, hfs]
    · rw [if_neg q, hflp t q, h5 t ht]
  · rw [gI_na (by omega), h6 t ht o ho]
    unfold Ff offd
    rw [if_neg (by omega)]
  · rw [gI_na (by omega), hflp t (by omega), hflp o (by omega)]
    exact h7 t o ht ho hne trivial j hj
theorem c_degree {a : Nat} {pt : Nat → Int32} (hn : ns ≤ 12) (h : tg a c ns nc cv e pt D) {s : Nat} (hs : s < ns) : fn_X10_degree a (nI s) D = some (nI (fb_ct (offd nc cv e pt s) ns)) := by
  obtain ⟨⟨h1, h2, h3, h4⟩, h5, h6, h7⟩ := tg_to h
  have isS : fn_X10_isSign a (nI s) D = some 1 := by
    unfold fn_X10_isSign
    rw [h1]
    simp (disch := omega) only [Option.bind_some, Option.map_some, zlet_eq, ↓reduceIte, L_2, L_3, L_4, L_5, L_6, L_7, L_8, L_9, L_10, L_12, L_13, L_20, L_24, L_25, L_26, L_27, L_30, L_32, L_33, L_34, L_40, L_48, L_57, L_58, L_60, L_64, L_90, L_93, L_97, L_99, L_100, L_122, L_144, L_255, L_364, L_480, L_500, L_800, L_1000, L_100000, L_4096, L_1023, L_1024, nLe, nLt, nEq, nI_1, nI_add, pk_mul, nSn, nDn, nCl, zck_nI, zdv_nI, nNeg, nLe0, n0Lt, nEq0, nM1, m1N, m1Lt, nLm1, zcb_0, zcb_1, i10, i01, nEq1, n1Eq, nLt1, gI_eq, gI_nb, gI_na, x_badF, x_badT1, x_badT2, bt_0, bt_1, bit1_u, Bool.true_eq_false, Bool.false_eq_true, eq_self, Int32.or_zero, L_11, L_14, L_15, L_16, L_17, L_18, L_19, L_21, L_22, L_23, L_28, L_29, if_pos, if_neg]
  unfold fn_X10_degree
  rw [isS, Option.bind_some, if_neg (by decide), zck_nI (by omega) (by omega), nI_clamp (by omega), pc_bit, Option.bind_some]
  congr 2
  unfold pc
  rw [show 32 = ns + (32 - ns) by omega, fb_ct_split, fb_ct_zero (p := fun k => bt (gI D (a + 2) s) (ns + k)) |>.mpr fun k hk => by rw [h6 s hs _ (by omega), decide_eq_false (by omega)]; rfl]
  exact fb_ct_cong fun k hk => by rw [h6 s hs k (by omega), decide_eq_true hk]; rfl
/-- the class has its pairs woven -/
def pW (a b : Nat) : Prop := (a < 81 ∨ 84 < a) ∧ ¬ (a = 0 ∧ b = 16)
theorem c_wv (h : iv P D) : zok (fn_X11_weave D) fun E => iv P E ∧ tg 81 (P 0 * P 1) (P 2) (P 4) (gI D 128) (2 * P 5) (gI D 105) E ∧ ag pW D E := by
  have h' := h
  obtain ⟨⟨⟨hb, ⟨a0, a1, a2, a3⟩, ⟨b0, b1, b2, b3⟩, hs, hw⟩, ⟨hc, c1, c2, hcv⟩, ⟨hd, ⟨z0, z1, z2⟩, ⟨y0, y1, y2⟩, hp, ht⟩, ⟨hi, i0, i1, him⟩, ⟨hta, ta0, ta1, hpl, htb⟩⟩, hK, hO⟩ := h
  replace y0 : gI _ 102 34 = nI (P 5) := y0
  replace y1 : gI _ 102 35 = nI (P 6) := y1
  replace y2 : gI _ 102 36 = nI (P 7) := y2
  unfold fn_X11_weave
  by_cases q : gI D 0 16 = 0
  · simp (disch := omega) only [Option.bind_some, Option.map_some, zlet_eq, ↓reduceIte, L_2, L_3, L_4, L_5, L_6, L_7, L_8, L_9, L_10, L_12, L_13, L_20, L_24, L_25, L_26, L_27, L_30, L_32, L_33, L_34, L_40, L_48, L_57, L_58, L_60, L_64, L_90, L_93, L_97, L_99, L_100, L_122, L_144, L_255, L_364, L_480, L_500, L_800, L_1000, L_100000, L_4096, L_1023, L_1024, nLe, nLt, nEq, nI_1, nI_add, pk_mul, nSn, nDn, nCl, zck_nI, zdv_nI, nNeg, nLe0, n0Lt, nEq0, nM1, m1N, m1Lt, nLm1, zcb_0, zcb_1, i10, i01, nEq1, n1Eq, nLt1, gI_eq, gI_nb, gI_na, x_badF, x_badT1, x_badT2, bt_0, bt_1, bit1_u, Bool.true_eq_false, Bool.false_eq_true, eq_self, Int32.or_zero, L_11, L_14, L_15, L_16, L_17, L_18, L_19, L_21, L_22, L_23, L_28, L_29, if_pos, if_neg, q, z0]
    refine (c_weave h').bind fun E ⟨e1, e2⟩ => ?_
    have hag : ag pW D (sI E 0 16 1) := fun a b r => by
      rw [show gI (sI E 0 16 1) a b = gI E a b from if_neg r.2]
      exact e2 a b (by unfold pOut; unfold pW at r; omega)
    have htg : tg 81 (P 0 * P 1) (P 2) (P 4) (gI D 128) (2 * P 5) (gI D 105) (sI E 0 16 1) := tg.keep (fun k j k1 k2 => gI_na (by omega)) e1
    rw [zok_some]
    refine ⟨⟨agC.C (hag.mono (by unfold pW pcr pA pB pS pI pT; intros; omega)) h'.1, ?_, (hag.mono (by unfold pW pO; intros; omega)).O (hag.mono (by unfold pW pS; intros; omega)) hd.2.2 h'.2.2⟩, htg, hag⟩
    obtain ⟨k0, k1, k2, k3, k4, k5, k6, k7⟩ := hK
    have f105 : gI (sI E 0 16 1) 105 = gI D 105 := funext fun b => hag _ _ (by unfold pW; omega)
    have f128 : gI (sI E 0 16 1) 128 = gI D 128 := funext fun b => hag _ _ (by unfold pW; omega)
    have f101 : gI (sI E 0 16 1) 101 = gI D 101 := funext fun b => hag _ _ (by unfold pW; omega)
    unfold iv_K
    rw [f105, f128, f101]
    exact ⟨Or.inr ⟨gI_eq, htg⟩, k1, k2, k3, k4, k5, k6, k7⟩
  · simp (disch := omega) only [Option.bind_some, Option.map_some, zlet_eq, ↓reduceIte, L_2, L_3, L_4, L_5, L_6, L_7, L_8, L_9, L_10, L_12, L_13, L_20, L_24, L_25, L_26, L_27, L_30, L_32, L_33, L_34, L_40, L_48, L_57, L_58, L_60, L_64, L_90, L_93, L_97, L_99, L_100, L_122, L_144, L_255, L_364, L_480, L_500, L_800, L_1000, L_100000, L_4096, L_1023, L_1024, nLe, nLt, nEq, nI_1, nI_add, pk_mul, nSn, nDn, nCl, zck_nI, zdv_nI, nNeg, nLe0, n0Lt, nEq0, nM1, m1N, m1Lt, nLm1, zcb_0, zcb_1, i10, i01, nEq1, n1Eq, nLt1, gI_eq, gI_nb, gI_na, x_badF, x_badT1, x_badT2, bt_0, bt_1, bit1_u, Bool.true_eq_false, Bool.false_eq_true, eq_self, Int32.or_zero, L_11, L_14, L_15, L_16, L_17, L_18, L_19, L_21, L_22, L_23, L_28, L_29, if_pos, if_neg, q, zok_some]
    rcases hK.1 with k | k
    · exact absurd k q
    · exact ⟨h', k.2, ag.refl⟩
theorem c_confusions (h : iv P D) : zok (fn_X11_confusions D) fun q => q.1 = nI (prA (P 2) (P 4) (gI D 128) (2 * P 5) (gI D 105)) ∧ iv P q.2 ∧ ag pW D q.2 := by
  unfold fn_X11_confusions
  refine (c_wv h).bind fun E ⟨e1, e2, e3⟩ => ?_
  rw [zok_some]
  exact ⟨e2.2.2.2.1, e1, e3⟩
end M69
