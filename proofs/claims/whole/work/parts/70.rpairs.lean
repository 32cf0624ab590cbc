/-! THE MATHEMATICS: the reference's pairs -/
def pN (a _b : Nat) : Prop := a ≠ 195
def pR (a _b : Nat) : Prop := a < 183 ∨ 194 < a
def pRN (a _b : Nat) : Prop := a < 183 ∨ 195 < a
section M70
variable {D : zD} {P : Nat → Nat} {nc d c ns : Nat} {cv : Nat → Int32}
/-- what the reference looks at -/
def rcv (ns nc d : Nat) (cv : Nat → Int32) (D : zD) : Prop := (ns ≤ 12 ∧ nc ≤ 500 ∧ d < 50) ∧ gI D 102 16 = nI ns ∧ gI D 102 26 = nI nc ∧ gI D 102 34 = nI d ∧ gI D 128 = cv
theorem rcv.keep {E : zD} {p : Nat → Nat → Prop} (h : rcv ns nc d cv D) (g : agL p D E) (k : ∀ a b, (a = 102 ∧ (b = 16 ∨ b = 26 ∨ b = 34)) ∨ a = 128 → p a b) : rcv ns nc d cv E :=
  ⟨h.1, by rw [g.1 _ _ (k _ _ (by omega))]; exact h.2.1, by rw [g.1 _ _ (k _ _ (by omega))]; exact h.2.2.1, by rw [g.1 _ _ (k _ _ (by omega))]; exact h.2.2.2.1, by rw [← h.2.2.2.2]; exact funext fun b => g.1 _ _ (k _ _ (by omega))⟩
theorem iv_rcv (h : iv P D) : rcv (P 2) (P 4) (P 5) (gI D 128) D := by
  obtain ⟨⟨⟨hb, ⟨a0, a1, a2, a3⟩, ⟨b0, b1, b2, b3⟩, hs, hw⟩, ⟨hc, c1, c2, hcv⟩, ⟨hd, ⟨z0, z1, z2⟩, ⟨y0, y1, y2⟩, hp, ht⟩, ⟨hi, i0, i1, him⟩, ⟨hta, ta0, ta1, hpl, htb⟩⟩, hK, hO⟩ := h
  replace y0 : gI _ 102 34 = nI (P 5) := y0
  replace y1 : gI _ 102 35 = nI (P 6) := y1
  replace y2 : gI _ 102 36 = nI (P 7) := y2
  exact ⟨⟨by omega, by omega, by omega⟩, b2, c2, y0, rfl⟩
theorem r_layNow (hc : rcv ns nc d cv D) : zok (fn_X12_layNow D) fun E => (∀ s, s < ns → gI E 195 s = gI D 105 s) ∧ agL pN D E := by
  obtain ⟨⟨hn, _, _⟩, h16, _⟩ := hc
  refine z_inv ns (fun n i (E : zD) => fn_X12_layNow_2 n (nI i) E) (fun i E => (∀ s, s < i → gI E 195 s = gI D 105 s) ∧ agL pN D E) _ ?_ ?_ 0 zFU D (by omega) (zfu_gt (by omega)) ⟨fun s hs => by omega, agL.refl⟩
  · intro n i E hi ⟨g1, g2⟩ ih
    show zok (fn_X12_layNow_2 (n + 1) (nI i) E) _
    have e16 : gI E 102 16 = nI ns := by rw [g2.1 _ _ (by unfold pN; omega), h16]
    rw [fn_X12_layNow_2, e16]
    simp (disch := omega) only [Option.bind_some, Option.map_some, zlet_eq, ↓reduceIte, L_2, L_3, L_4, L_5, L_6, L_7, L_8, L_9, L_10, L_12, L_13, L_20, L_24, L_25, L_26, L_27, L_30, L_32, L_33, L_34, L_40, L_48, L_57, L_58, L_60, L_64, L_90, L_93, L_97, L_99, L_100, L_122, L_144, L_255, L_364, L_480, L_500, L_800, L_1000, L_100000, L_4096, L_1023, L_1024, nLe, nLt, nEq, nI_1, nI_add, pk_mul, nSn, nDn, nCl, zck_nI, zdv_nI, nNeg, nLe0, n0Lt, nEq0, nM1, m1N, m1Lt, nLm1, zcb_0, zcb_1, i10, i01, nEq1, n1Eq, nLt1, gI_eq, gI_nb, gI_na, x_badF, x_badT1, x_badT2, bt_0, bt_1, bit1_u, Bool.true_eq_false, Bool.false_eq_true, eq_self, Int32.or_zero, L_11, L_14, L_15, L_16, L_17, L_18, L_19, L_21, L_22, L_23, L_28, L_29, if_pos, if_neg]
    refine ih _ ⟨fun s hs => ?_, agL_sI g2 (by unfold pN; omega)⟩
    by_cases q : s = i
    · subst q
      rw [gI_eq, g2.1 _ _ (by unfold pN; omega)]
    · rw [gI_nb q]
      exact g1 s (by omega)
  · intro n E hE
    show zok (fn_X12_layNow_2 (n + 1) (nI ns) E) _
    have e16 : gI E 102 16 = nI ns := by rw [hE.2.1 _ _ (by unfold pN; omega), h16]
    rw [fn_X12_layNow_2, e16]
    simp (disch := omega) only [Option.bind_some, Option.map_some, zlet_eq, ↓reduceIte, L_2, L_3, L_4, L_5, L_6, L_7, L_8, L_9, L_10, L_12, L_13, L_20, L_24, L_25, L_26, L_27, L_30, L_32, L_33, L_34, L_40, L_48, L_57, L_58, L_60, L_64, L_90, L_93, L_97, L_99, L_100, L_122, L_144, L_255, L_364, L_480, L_500, L_800, L_1000, L_100000, L_4096, L_1023, L_1024, nLe, nLt, nEq, nI_1, nI_add, pk_mul, nSn, nDn, nCl, zck_nI, zdv_nI, nNeg, nLe0, n0Lt, nEq0, nM1, m1N, m1Lt, nLm1, zcb_0, zcb_1, i10, i01, nEq1, n1Eq, nLt1, gI_eq, gI_nb, gI_na, x_badF, x_badT1, x_badT2, bt_0, bt_1, bit1_u, Bool.true_eq_false, Bool.false_eq_true, eq_self, Int32.or_zero, L_11, L_14, L_15, L_16, L_17, L_18, L_19, L_21, L_22, L_23, L_28, L_29, if_pos, if_neg, zok_some]
    exact hE
def bI (b : Bool) : Int32 := if b = true then 1 else 0
/-- row and column s are laid anew -/
theorem r_layPairsOf {pt : Nat → Int32} (hc : rcv ns nc d cv D) (hp : ∀ s, s < ns → gI D 195 s = pt s) {s : Nat} (hs : s < ns) : zok (fn_X12_layPairsOf (nI s) D) fun E => (∀ i j, i < ns → j < ns → gI E (183 + i) j = if i = s ∨ j = s then bI (offd nc cv (2 * d) pt i j) else gI D (183 + i) j) ∧ agL pR D E := by
  obtain ⟨⟨hn, hnc, hd50⟩, h16, h26, h34, h128⟩ := hc
  refine z_inv ns (fun n o (E : zD) => fn_X12_layPairsOf_2 (nI s) n (nI o) E) (fun o E => (∀ i j, i < ns → j < ns → gI E (183 + i) j = if (i = s ∧ j < o) ∨ (j = s ∧ i < o) then bI (offd nc cv (2 * d) pt i j) else gI D (183 + i) j) ∧ agL pR D E) _ ?_ ?_ 0 zFU D (by omega) (zfu_gt (by omega)) ⟨fun i j _ _ => by rw [if_neg (by omega)], agL.refl⟩
  · intro n o E ho ⟨g1, g2⟩ ih
    show zok (fn_X12_layPairsOf_2 (nI s) (n + 1) (nI o) E) _
    have e16 : gI E 102 16 = nI ns := by rw [g2.1 _ _ (by unfold pR; omega), h16]
    have main : ∀ w, w = bI (offd nc cv (2 * d) pt s o) → zok (fn_X12_layPairsOf_40 (nI s) (fn_X12_layPairsOf_2 (nI s) n) (nI o) w E) fun E => (∀ i j, i < ns → j < ns → gI E (183 + i) j = if i = s ∨ j = s then bI (offd nc cv (2 * d) pt i j) else gI D (183 + i) j) ∧ agL pR D E := by
      intro w hw
      have hzc : ∀ {α : Type} (a : Option α), zcb w a = a := by
        intro α a
        rw [hw]
        unfold bI
        cases offd nc cv (2 * d) pt s o
        · exact zcb_0
        · exact zcb_1
      unfold fn_X12_layPairsOf_40
      rw [zck_nI (by omega) (by omega), zck_nI (by omega) (by omega), hzc, zlet_eq, zck_nI (by omega) (by omega), zck_nI (by omega) (by omega), hzc, zlet_eq, nI_clamp (by omega), nI_clamp (by omega), nI_1]
      refine ih _ ⟨fun i j hi hj => ?_, agL_sI (agL_sI g2 (by unfold pR; omega)) (by unfold pR; omega)⟩
      by_cases q1 : i = o ∧ j = s
      · obtain ⟨rfl, rfl⟩ := q1
        rw [gI_eq, if_pos (by omega), hw, offd_sym]
      · have e1 : gI (sI (sI E (183 + s) o w) (183 + o) s w) (183 + i) j = gI (sI E (183 + s) o w) (183 + i) j := if_neg (by omega)
        rw [e1]
        by_cases q2 : i = s ∧ j = o
        · obtain ⟨rfl, rfl⟩ := q2
          rw [gI_eq, if_pos (by omega), hw]
        · have e2 : gI (sI E (183 + s) o w) (183 + i) j = gI E (183 + i) j := if_neg (by omega)
          rw [e2, g1 i j hi hj]
          exact ite_iff (by omega)
    rw [fn_X12_layPairsOf_2, e16, if_neg (nI_ge ho (by omega))]
    by_cases q : s = o
    · subst q
      rw [if_pos rfl]
      unfold fn_X12_layPairsOf_39
      exact main 0 (by rw [offd_d]; rfl)
    · rw [if_neg (fun r => q ((nI_eq (by omega) (by omega)).mp r)), zck_nI (by omega) (by omega), zck_nI (by omega) (by omega), nI_clamp (by omega), nI_clamp (by omega), g2.1 _ _ (by unfold pR; omega), g2.1 _ _ (by unfold pR; omega), hp s hs, hp o ho, r_first (nc := nc) (by rw [g2.1 _ _ (by unfold pR; omega), h26]) hnc _ _ hd50 (by rw [g2.1 _ _ (by unfold pR; omega), h34]), Option.bind_some, show gI E 128 = cv from by rw [← h128]; exact funext fun b => g2.1 _ _ (by unfold pR; omega)]
      have hcf := sFi_cfx (nc := nc) (cv := cv) (e := 2 * d) (x := pt s ^^^ pt o) hnc
      have hof : offd nc cv (2 * d) pt s o = cfx nc cv (2 * d) (pt s ^^^ pt o) := by unfold offd; rw [decide_eq_false (by omega)]; rfl
      by_cases g : sFi nc cv (2 * d) (pt s ^^^ pt o) = -1
      · rw [if_pos g]
        unfold fn_X12_layPairsOf_39
        exact main 0 (by rw [hof, hcf.1.mp g]; rfl)
      · rw [if_neg g]
        exact main 1 (by rw [hof, hcf.2.mp g]; rfl)
  · intro n E ⟨g1, g2⟩
    show zok (fn_X12_layPairsOf_2 (nI s) (n + 1) (nI ns) E) _
    have e16 : gI E 102 16 = nI ns := by rw [g2.1 _ _ (by unfold pR; omega), h16]
    rw [fn_X12_layPairsOf_2, e16]
    simp (disch := omega) only [Option.bind_some, Option.map_some, zlet_eq, ↓reduceIte, L_2, L_3, L_4, L_5, L_6, L_7, L_8, L_9, L_10, L_12, L_13, L_20, L_24, L_25, L_26, L_27, L_30, L_32, L_33, L_34, L_40, L_48, L_57, L_58, L_60, L_64, L_90, L_93, L_97, L_99, L_100, L_122, L_144, L_255, L_364, L_480, L_500, L_800, L_1000, L_100000, L_4096, L_1023, L_1024, nLe, nLt, nEq, nI_1, nI_add, pk_mul, nSn, nDn, nCl, zck_nI, zdv_nI, nNeg, nLe0, n0Lt, nEq0, nM1, m1N, m1Lt, nLm1, zcb_0, zcb_1, i10, i01, nEq1, n1Eq, nLt1, gI_eq, gI_nb, gI_na, x_badF, x_badT1, x_badT2, bt_0, bt_1, bit1_u, Bool.true_eq_false, Bool.false_eq_true, eq_self, Int32.or_zero, L_11, L_14, L_15, L_16, L_17, L_18, L_19, L_21, L_22, L_23, L_28, L_29, if_pos, if_neg, zok_some]
    exact ⟨fun i j hi hj => by rw [g1 i j hi hj]; exact ite_iff (by omega), g2⟩
theorem r_pairs {f : Nat → Nat → Bool} (h16 : gI D 102 16 = nI ns) (hn : ns ≤ 12) (hf : ∀ i j, i < ns → j < ns → gI D (183 + i) j = bI (f i j)) : fn_X12_pairs D = some (nI (prs ns f)) := by
  have e := z_fori ns (fun n s (k : Nat) => fn_X12_pairs_4 D n (nI k) (nI s)) (fun s k => k + fb_ct (fun o => f s o) s) (fun k => some (nI k)) (fun s k => k = fb_sm (fun i => fb_ct (fun o => f i o) i) s) ?_ ?_ 0 zFU 0 (Nat.zero_le _) (zfu_gt (by omega)) rfl
  · unfold fn_X12_pairs
    refine Eq.trans e ?_
    congr 2
    exact zfo_inv (N := ns) (fun s k => k = fb_sm (fun i => fb_ct (fun o => f i o) i) s) (fun s k _ hk => by rw [hk]; rfl) (by omega) rfl
  · intro n s k hs hk
    refine ⟨?_, by rw [hk]; rfl⟩
    show fn_X12_pairs_4 D (n + 1) (nI k) (nI s) = fn_X12_pairs_4 D n (nI (k + fb_ct (fun o => f s o) s)) (nI (s + 1))
    rw [fn_X12_pairs_4, h16]
    simp (disch := omega) only [Option.bind_some, Option.map_some, zlet_eq, ↓reduceIte, L_2, L_3, L_4, L_5, L_6, L_7, L_8, L_9, L_10, L_12, L_13, L_20, L_24, L_25, L_26, L_27, L_30, L_32, L_33, L_34, L_40, L_48, L_57, L_58, L_60, L_64, L_90, L_93, L_97, L_99, L_100, L_122, L_144, L_255, L_364, L_480, L_500, L_800, L_1000, L_100000, L_4096, L_1023, L_1024, nLe, nLt, nEq, nI_1, nI_add, pk_mul, nSn, nDn, nCl, zck_nI, zdv_nI, nNeg, nLe0, n0Lt, nEq0, nM1, m1N, m1Lt, nLm1, zcb_0, zcb_1, i10, i01, nEq1, n1Eq, nLt1, gI_eq, gI_nb, gI_na, x_badF, x_badT1, x_badT2, bt_0, bt_1, bit1_u, Bool.true_eq_false, Bool.false_eq_true, eq_self, Int32.or_zero, L_11, L_14, L_15, L_16, L_17, L_18, L_19, L_21, L_22, L_23, L_28, L_29, if_pos, if_neg]
    have e2 := z_fori s (fun m o (q : Nat) => fn_X12_pairs_14 D (fn_X12_pairs_4 D n) m (nI q) (nI s) (nI o)) (fun o q => q + if f s o = true then 1 else 0) (fun q => fn_X12_pairs_4 D n (nI q) (nI (s + 1))) (fun o q => q = k + fb_ct (fun o => f s o) o) ?_ ?_ 0 zFU k (Nat.zero_le _) (zfu_gt (by omega)) rfl
    · refine Eq.trans e2 ?_
      congr 2
      exact zfo_inv (N := s) (fun o q => q = k + fb_ct (fun o => f s o) o) (fun o q _ hq => by rw [hq, fb_ct_succ]; omega) (by omega) rfl
    · intro m o q ho hq
      refine ⟨?_, by rw [hq, fb_ct_succ]; omega⟩
      show fn_X12_pairs_14 D (fn_X12_pairs_4 D n) (m + 1) (nI q) (nI s) (nI o) = fn_X12_pairs_14 D (fn_X12_pairs_4 D n) m (nI (q + if f s o = true then 1 else 0)) (nI s) (nI (o + 1))
      have hfo := hf s o hs (by omega)
      rw [fn_X12_pairs_14]
      unfold bI at hfo
      cases hB : f s o
      · rw [hB] at hfo
        simp (disch := omega) only [Option.bind_some, Option.map_some, zlet_eq, ↓reduceIte, L_2, L_3, L_4, L_5, L_6, L_7, L_8, L_9, L_10, L_12, L_13, L_20, L_24, L_25, L_26, L_27, L_30, L_32, L_33, L_34, L_40, L_48, L_57, L_58, L_60, L_64, L_90, L_93, L_97, L_99, L_100, L_122, L_144, L_255, L_364, L_480, L_500, L_800, L_1000, L_100000, L_4096, L_1023, L_1024, nLe, nLt, nEq, nI_1, nI_add, pk_mul, nSn, nDn, nCl, zck_nI, zdv_nI, nNeg, nLe0, n0Lt, nEq0, nM1, m1N, m1Lt, nLm1, zcb_0, zcb_1, i10, i01, nEq1, n1Eq, nLt1, gI_eq, gI_nb, gI_na, x_badF, x_badT1, x_badT2, bt_0, bt_1, bit1_u, Bool.true_eq_false, Bool.false_eq_true, eq_self, Int32.or_zero, L_11, L_14, L_15, L_16, L_17, L_18, L_19, L_21, L_22, L_23, L_28, L_29, if_pos, if_neg, hfo, Bool.false_eq_true, Nat.add_zero, Int32.add_zero]
      · rw [hB] at hfo
        simp (disch := omega) only [Option.bind_some, Option.map_some, zlet_eq, ↓reduceIte, L_2, L_3, L_4, L_5, L_6, L_7, L_8, L_9, L_10, L_12, L_13, L_20, L_24, L_25, L_26, L_27, L_30, L_32, L_33, L_34, L_40, L_48, L_57, L_58, L_60, L_64, L_90, L_93, L_97, L_99, L_100, L_122, L_144, L_255, L_364, L_480, L_500, L_800, L_1000, L_100000, L_4096, L_1023, L_1024, nLe, nLt, nEq, nI_1, nI_add, pk_mul, nSn, nDn, nCl, zck_nI, zdv_nI, nNeg, nLe0, n0Lt, nEq0, nM1, m1N, m1Lt, nLm1, zcb_0, zcb_1, i10, i01, nEq1, n1Eq, nLt1, gI_eq, gI_nb, gI_na, x_badF, x_badT1, x_badT2, bt_0, bt_1, bit1_u, Bool.true_eq_false, Bool.false_eq_true, eq_self, Int32.or_zero, L_11, L_14, L_15, L_16, L_17, L_18, L_19, L_21, L_22, L_23, L_28, L_29, if_pos, if_neg, hfo]
    · intro m q _
      show fn_X12_pairs_14 D (fn_X12_pairs_4 D n) (m + 1) (nI q) (nI s) (nI s) = _
      rw [fn_X12_pairs_14]
      simp (disch := omega) only [Option.bind_some, Option.map_some, zlet_eq, ↓reduceIte, L_2, L_3, L_4, L_5, L_6, L_7, L_8, L_9, L_10, L_12, L_13, L_20, L_24, L_25, L_26, L_27, L_30, L_32, L_33, L_34, L_40, L_48, L_57, L_58, L_60, L_64, L_90, L_93, L_97, L_99, L_100, L_122, L_144, L_255, L_364, L_480, L_500, L_800, L_1000, L_100000, L_4096, L_1023, L_1024, nLe, nLt, nEq, nI_1, nI_add, pk_mul, nSn, nDn, nCl, zck_nI, zdv_nI, nNeg, nLe0, n0Lt, nEq0, nM1, m1N, m1Lt, nLm1, zcb_0, zcb_1, i10, i01, nEq1, n1Eq, nLt1, gI_eq, gI_nb, gI_na, x_badF, x_badT1, x_badT2, bt_0, bt_1, bit1_u, Bool.true_eq_false, Bool.false_eq_true, eq_self, Int32.or_zero, L_11, L_14, L_15, L_16, L_17, L_18, L_19, L_21, L_22, L_23, L_28, L_29, if_pos, if_neg]
  · intro n k _
    show fn_X12_pairs_4 D (n + 1) (nI k) (nI ns) = _
    rw [fn_X12_pairs_4, h16]
    simp (disch := omega) only [Option.bind_some, Option.map_some, zlet_eq, ↓reduceIte, L_2, L_3, L_4, L_5, L_6, L_7, L_8, L_9, L_10, L_12, L_13, L_20, L_24, L_25, L_26, L_27, L_30, L_32, L_33, L_34, L_40, L_48, L_57, L_58, L_60, L_64, L_90, L_93, L_97, L_99, L_100, L_122, L_144, L_255, L_364, L_480, L_500, L_800, L_1000, L_100000, L_4096, L_1023, L_1024, nLe, nLt, nEq, nI_1, nI_add, pk_mul, nSn, nDn, nCl, zck_nI, zdv_nI, nNeg, nLe0, n0Lt, nEq0, nM1, m1N, m1Lt, nLm1, zcb_0, zcb_1, i10, i01, nEq1, n1Eq, nLt1, gI_eq, gI_nb, gI_na, x_badF, x_badT1, x_badT2, bt_0, bt_1, bit1_u, Bool.true_eq_false, Bool.false_eq_true, eq_self, Int32.or_zero, L_11, L_14, L_15, L_16, L_17, L_18, L_19, L_21, L_22, L_23, L_28, L_29, if_pos, if_neg]
theorem r_layPairs {pt : Nat → Int32} (hc : rcv ns nc d cv D) (hp : ∀ s, s < ns → gI D 195 s = pt s) : zok (fn_X12_layPairs D) fun q => q.1 = nI (prA ns nc cv (2 * d) pt) ∧ (∀ i j, i < ns → j < ns → gI q.2 (183 + i) j = bI (offd nc cv (2 * d) pt i j)) ∧ agL pR D q.2 := by
  have hc' := hc
  obtain ⟨⟨hn, hnc, hd50⟩, h16, h26, h34, h128⟩ := hc
  refine z_inv ns (fun n s (E : zD) => fn_X12_layPairs_2 n (nI s) E) (fun s E => (∀ i j, i < ns → j < ns → (i < s ∨ j < s) → gI E (183 + i) j = bI (offd nc cv (2 * d) pt i j)) ∧ agL pR D E) _ ?_ ?_ 0 zFU D (by omega) (zfu_gt (by omega)) ⟨fun i j _ _ q => by omega, agL.refl⟩
  · intro n s E hs ⟨g1, g2⟩ ih
    show zok (fn_X12_layPairs_2 (n + 1) (nI s) E) _
    have e16 : gI E 102 16 = nI ns := by rw [g2.1 _ _ (by unfold pR; omega), h16]
    rw [fn_X12_layPairs_2, e16]
    simp (disch := omega) only [Option.bind_some, Option.map_some, zlet_eq, ↓reduceIte, L_2, L_3, L_4, L_5, L_6, L_7, L_8, L_9, L_10, L_12, L_13, L_20, L_24, L_25, L_26, L_27, L_30, L_32, L_33, L_34, L_40, L_48, L_57, L_58, L_60, L_64, L_90, L_93, L_97, L_99, L_100, L_122, L_144, L_255, L_364, L_480, L_500, L_800, L_1000, L_100000, L_4096, L_1023, L_1024, nLe, nLt, nEq, nI_1, nI_add, pk_mul, nSn, nDn, nCl, zck_nI, zdv_nI, nNeg, nLe0, n0Lt, nEq0, nM1, m1N, m1Lt, nLm1, zcb_0, zcb_1, i10, i01, nEq1, n1Eq, nLt1, gI_eq, gI_nb, gI_na, x_badF, x_badT1, x_badT2, bt_0, bt_1, bit1_u, Bool.true_eq_false, Bool.false_eq_true, eq_self, Int32.or_zero, L_11, L_14, L_15, L_16, L_17, L_18, L_19, L_21, L_22, L_23, L_28, L_29, if_pos, if_neg]
    refine (r_layPairsOf (pt := pt) (hc'.keep g2 (by unfold pR; intros; omega)) (fun s hs => by rw [g2.1 _ _ (by unfold pR; omega)]; exact hp s hs) hs).bind fun F ⟨f1, f2⟩ => ih F ⟨fun i j hi hj q => ?_, g2.trans f2⟩
    rw [f1 i j hi hj]
    by_cases r : i = s ∨ j = s
    · rw [if_pos r]
    · rw [if_neg r]
      exact g1 i j hi hj (by omega)
  · intro n E ⟨g1, g2⟩
    show zok (fn_X12_layPairs_2 (n + 1) (nI ns) E) _
    have e16 : gI E 102 16 = nI ns := by rw [g2.1 _ _ (by unfold pR; omega), h16]
    rw [fn_X12_layPairs_2, e16, if_pos (nI_le (Nat.le_refl _) (by omega)), r_pairs e16 hn (fun i j hi hj => g1 i j hi hj (by omega)), Option.bind_some, zok_some]
    exact ⟨by rw [offd_prs], fun i j hi hj => g1 i j hi hj (by omega), g2⟩
theorem pRN_iv {E : zD} (h : iv P D) (g : agL pRN D E) : iv P E := h.keep (g.1.mono (by unfold pRN pcr pA pB pS pI pT; intros; omega)) (g.1.mono (by unfold pRN pK; intros; omega)) (g.1.mono (by unfold pRN pO; intros; omega))
/-- now and the pairs are laid -/
theorem r_lay (h : iv P D) : zok ((fn_X12_layNow D).bind fn_X12_layPairs) fun q => q.1 = nI (prA (P 2) (P 4) (gI D 128) (2 * P 5) (gI D 105)) ∧ (∀ s, s < P 2 → gI q.2 195 s = gI D 105 s) ∧ (∀ i j, i < P 2 → j < P 2 → gI q.2 (183 + i) j = bI (offd (P 4) (gI D 128) (2 * P 5) (gI D 105) i j)) ∧ agL pRN D q.2 := by
  have hc := iv_rcv h
  refine (r_layNow hc).bind fun E ⟨e1, e2⟩ => ?_
  refine (r_layPairs (pt := gI D 105) (hc.keep e2 (by unfold pN; intros; omega)) e1).mono fun q ⟨f1, f2, f3⟩ => ⟨f1, fun s hs => by rw [f3.1 _ _ (by unfold pR; omega)]; exact e1 s hs, f2, (e2.mono (by unfold pRN pN; intros; omega)).trans (f3.mono (by unfold pRN pR; intros; omega))⟩
theorem tk_confusions (h : iv P D) : duo fn_X11_confusions fn_X12_confusions D := by
  refine (c_confusions h).mono fun q ⟨e1, e2, e3⟩ => ?_
  have hi := e2.thr 0
  unfold fn_X12_confusions
  rw [zlet_eq]
  have m := r_lay hi
  rw [zok_bind] at m
  refine zok_bind.mpr (m.mono fun E hE => ?_)
  refine zok_bind.mpr (hE.mono fun r ⟨f1, _, _, f2⟩ => ?_)
  rw [zok_some]
  refine ⟨⟨P, pRN_iv hi f2⟩, ?_⟩
  show r.1 = q.1
  rw [f1, e1, gIf (by omega), gIf (by omega), show gI q.2 105 = gI D 105 from funext fun b => e3 _ _ (by unfold pW; omega), show gI q.2 128 = gI D 128 from funext fun b => e3 _ _ (by unfold pW; omega)]
end M70
