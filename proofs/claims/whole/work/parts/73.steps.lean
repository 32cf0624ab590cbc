/-! THE MATHEMATICS: step by step -/
theorem dm1 {s c i : Nat} (hi : i < c) : (s * c + i) / c = s := by
  rw [Nat.mul_comm, Nat.mul_add_div (by omega), Nat.div_eq_of_lt hi, Nat.add_zero]
theorem dm2 {s c i : Nat} (hi : i < c) : (s * c + i) % c = i := by
  rw [Nat.mul_comm, Nat.mul_add_mod, Nat.mod_eq_of_lt hi]
theorem dm3 {x c ns : Nat} (h : x < ns * c) : x / c < ns ∧ x % c < c ∧ 0 < c ∧ x / c * c + x % c = x := by
  have hc : 0 < c := by
    rcases Nat.eq_zero_or_pos c with e | e
    · subst e; rw [Nat.mul_zero] at h; omega
    · exact e
  exact ⟨Nat.div_lt_of_lt_mul (by rw [Nat.mul_comm]; exact h), Nat.mod_lt _ hc, hc, by rw [Nat.mul_comm]; exact Nat.div_add_mod x c⟩
theorem nsc {ns c : Nat} (hn : ns ≤ 12) (hc : c ≤ 30) : ns * c ≤ 360 := Nat.le_trans (Nat.mul_le_mul hn hc) (by decide)
section M73
variable {D : zD} {P : Nat → Nat} {nc e c ns d : Nat} {cv : Nat → Int32}
theorem offd_out {pt : Nat → Int32} {s k i j : Nat} (hi : i ≠ s) (hj : j ≠ s) : offd nc cv e (flp pt s k) i j = offd nc cv e pt i j := by
  unfold offd cfp flp
  rw [if_neg hi, if_neg hj]
theorem flp_row {pt : Nat → Int32} {s k o : Nat} (ho : o ≠ s) : cfp nc cv e (flp pt s k) s o = cfx nc cv e ((pt s ^^^ pt o) ^^^ bit1 k) := by
  unfold cfp flp
  rw [if_pos rfl, if_neg ho, Int32.xor_assoc, Int32.xor_comm (bit1 k), ← Int32.xor_assoc]
theorem prA_flp {pt : Nat → Int32} {s k : Nat} (hs : s < ns) : prA ns nc cv e (flp pt s k) + fb_ct (offd nc cv e pt s) ns = prA ns nc cv e pt + fb_ct (offd nc cv e (flp pt s k) s) ns := by
  have h1 := prs_cut hs (offd_sym (nc := nc) (cv := cv) (e := e) pt) (offd_d pt s)
  have h2 := prs_cut hs (offd_sym (nc := nc) (cv := cv) (e := e) (flp pt s k)) (offd_d _ s)
  have h3 : prs ns (cut (offd nc cv e (flp pt s k)) s) = prs ns (cut (offd nc cv e pt) s) := pst_ind fun i j _ _ => by
    unfold cut
    by_cases q : i ≠ s ∧ j ≠ s
    · rw [offd_out q.1 q.2]
    · rw [decide_eq_false q, Bool.and_false, Bool.and_false]
  rw [offd_prs] at h1 h2
  omega
theorem prA_le {pt : Nat → Int32} (hn : ns ≤ 12) : prA ns nc cv e pt ≤ 144 := prs_le hn
theorem deg_le {pt : Nat → Int32} {s : Nat} (hs : s < ns) : fb_ct (offd nc cv e pt s) ns ≤ prA ns nc cv e pt := by
  have h1 := prs_cut hs (offd_sym (nc := nc) (cv := cv) (e := e) pt) (offd_d pt s)
  rw [offd_prs] at h1
  omega
theorem c_pairsWith {a : Nat} {pt : Nat → Int32} (hn : ns ≤ 12) (hc30 : c < 31) (h : tg a c ns nc cv e pt D) {s i : Nat} (hs : s < ns) (hi : i < c) : fn_X10_pairsWith a (nI s) (nI i) D = some (nI (prA ns nc cv e (flp pt s i))) := by
  have h' := h
  obtain ⟨⟨h1, h2, h3, h4⟩, h5, h6, h7⟩ := tg_to h
  have isS : fn_X10_isSign a (nI s) D = some 1 := by
    unfold fn_X10_isSign
    rw [h1]
    simp (disch := omega) only [Option.bind_some, Option.map_some, zlet_eq, ↓reduceIte, L_2, L_3, L_4, L_5, L_6, L_7, L_8, L_9, L_10, L_12, L_13, L_20, L_24, L_25, L_26, L_27, L_30, L_32, L_33, L_34, L_40, L_48, L_57, L_58, L_60, L_64, L_90, L_93, L_97, L_99, L_100, L_122, L_144, L_255, L_364, L_480, L_500, L_800, L_1000, L_100000, L_4096, L_1023, L_1024, nLe, nLt, nEq, nI_1, nI_add, pk_mul, nSn, nDn, nCl, zck_nI, zdv_nI, nNeg, nLe0, n0Lt, nEq0, nM1, m1N, m1Lt, nLm1, zcb_0, zcb_1, i10, i01, nEq1, n1Eq, nLt1, gI_eq, gI_nb, gI_na, x_badF, x_badT1, x_badT2, bt_0, bt_1, bit1_u, Bool.true_eq_false, Bool.false_eq_true, eq_self, Int32.or_zero, L_11, L_14, L_15, L_16, L_17, L_18, L_19, L_21, L_22, L_23, L_28, L_29, if_pos, if_neg]
  have hdl := deg_le (nc := nc) (cv := cv) (e := e) (pt := pt) hs
  have hpl := prA_le (nc := nc) (cv := cv) (e := e) (pt := pt) hn
  have hf := prA_flp (nc := nc) (cv := cv) (e := e) (pt := pt) (k := i) hs
  unfold fn_X10_pairsWith
  rw [isS, Option.bind_some, if_neg (by decide), c_degree hn h' hs, Option.bind_some, h4, offd_prs, pk_sub hdl, zlet_eq]
  have e1 := z_fori ns (fun n o (k : Nat) => fn_X10_pairsWith_27 a (nI s) (nI i) D n (nI k) (nI o)) (fun o k => k + if offd nc cv e (flp pt s i) s o = true then 1 else 0) (fun k => some (nI k)) (fun o k => k = (prA ns nc cv e pt - fb_ct (offd nc cv e pt s) ns) + fb_ct (offd nc cv e (flp pt s i) s) o) ?_ ?_ 0 zFU _ (Nat.zero_le _) (zfu_gt (by omega)) rfl
  · refine Eq.trans e1 ?_
    congr 2
    rw [zfo_inv (σ := Nat) (f := fun o k => k + if offd nc cv e (flp pt s i) s o = true then 1 else 0) (N := ns) (m := ns - 0) (i := 0) (fun o k => k = (prA ns nc cv e pt - fb_ct (offd nc cv e pt s) ns) + fb_ct (offd nc cv e (flp pt s i) s) o) (fun o k _ hk => by rw [hk, fb_ct_succ]; omega) (by omega) rfl]
    omega
  · intro n o k ho hk
    refine ⟨?_, by rw [hk, fb_ct_succ]; omega⟩
    show fn_X10_pairsWith_27 a (nI s) (nI i) D (n + 1) (nI k) (nI o) = fn_X10_pairsWith_27 a (nI s) (nI i) D n (nI (k + if offd nc cv e (flp pt s i) s o = true then 1 else 0)) (nI (o + 1))
    rw [fn_X10_pairsWith_27, h1, if_neg (nI_ge ho (by omega)), if_neg (show ¬ (12 : Int32) ≤ nI o from nI_ge (b := 12) (by omega) (by omega)), nI_1]
    by_cases q : o = s
    · subst q
      rw [if_pos rfl, offd_d, if_neg (by decide)]
      rfl
    · rw [if_neg (fun r => q ((nI_eq (by omega) (by omega)).mp r)), show nI s * (12 : Int32) = nI (s * 12) from pk_mul s 12, nI_add, zck_nI (by omega) (by omega), nI_clamp (by omega), z_shr1 _ (by omega), h7 s o hs ho (by omega) trivial i hi, zlet_eq]
      have hof : offd nc cv e (flp pt s i) s o = cfx nc cv e ((pt s ^^^ pt o) ^^^ bit1 i) := by
        rw [← flp_row q]
        unfold offd
        rw [decide_eq_false q]
        rfl
      rw [hof]
      cases cfx nc cv e ((pt s ^^^ pt o) ^^^ bit1 i)
      · rw [if_neg (by decide), if_neg (by decide), Int32.add_zero]
        rfl
      · rw [if_pos rfl, if_pos rfl, nI_1]
  · intro n k _
    show fn_X10_pairsWith_27 a (nI s) (nI i) D (n + 1) (nI k) (nI ns) = _
    rw [fn_X10_pairsWith_27, h1, if_pos (nI_le (Nat.le_refl _) (by omega))]
theorem c_copyT {pt : Nat → Int32} {a b : Nat} (hab : a + 3 < b ∨ b + 3 < a) (hn : ns ≤ 12) (h : tg a c ns nc cv e pt D) : zok (fn_X10_copyFrom b a D) fun E => tg b c ns nc cv e pt E ∧ ag (pOut b) D E := by
  obtain ⟨h1, h2, h3, h4, h5, h6, h7⟩ := h
  unfold fn_X10_copyFrom
  simp (disch := omega) only [Option.bind_some, Option.map_some, zlet_eq, ↓reduceIte, L_2, L_3, L_4, L_5, L_6, L_7, L_8, L_9, L_10, L_12, L_13, L_20, L_24, L_25, L_26, L_27, L_30, L_32, L_33, L_34, L_40, L_48, L_57, L_58, L_60, L_64, L_90, L_93, L_97, L_99, L_100, L_122, L_144, L_255, L_364, L_480, L_500, L_800, L_1000, L_100000, L_4096, L_1023, L_1024, nLe, nLt, nEq, nI_1, nI_add, pk_mul, nSn, nDn, nCl, zck_nI, zdv_nI, nNeg, nLe0, n0Lt, nEq0, nM1, m1N, m1Lt, nLm1, zcb_0, zcb_1, i10, i01, nEq1, n1Eq, nLt1, gI_eq, gI_nb, gI_na, x_badF, x_badT1, x_badT2, bt_0, bt_1, bit1_u, Bool.true_eq_false, Bool.false_eq_true, eq_self, Int32.or_zero, L_11, L_14, L_15, L_16, L_17, L_18, L_19, L_21, L_22, L_23, L_28, L_29, if_pos, if_neg, zcp_n, cl0, h1, h2, h3, h4, zok_some]
  refine ⟨⟨?_, ?_, ?_, ?_, fun s hs => ?_, fun s hs => ?_, fun s o hs ho hne => ?_⟩, ?_⟩
  · simp (disch := omega) only [Option.bind_some, Option.map_some, zlet_eq, ↓reduceIte, L_2, L_3, L_4, L_5, L_6, L_7, L_8, L_9, L_10, L_12, L_13, L_20, L_24, L_25, L_26, L_27, L_30, L_32, L_33, L_34, L_40, L_48, L_57, L_58, L_60, L_64, L_90, L_93, L_97, L_99, L_100, L_122, L_144, L_255, L_364, L_480, L_500, L_800, L_1000, L_100000, L_4096, L_1023, L_1024, nLe, nLt, nEq, nI_1, nI_add, pk_mul, nSn, nDn, nCl, zck_nI, zdv_nI, nNeg, nLe0, n0Lt, nEq0, nM1, m1N, m1Lt, nLm1, zcb_0, zcb_1, i10, i01, nEq1, n1Eq, nLt1, gI_eq, gI_nb, gI_na, x_badF, x_badT1, x_badT2, bt_0, bt_1, bit1_u, Bool.true_eq_false, Bool.false_eq_true, eq_self, Int32.or_zero, L_11, L_14, L_15, L_16, L_17, L_18, L_19, L_21, L_22, L_23, L_28, L_29, if_pos, if_neg, sC_na]
  · simp (disch := omega) only [Option.bind_some, Option.map_some, zlet_eq, ↓reduceIte, L_2, L_3, L_4, L_5, L_6, L_7, L_8, L_9, L_10, L_12, L_13, L_20, L_24, L_25, L_26, L_27, L_30, L_32, L_33, L_34, L_40, L_48, L_57, L_58, L_60, L_64, L_90, L_93, L_97, L_99, L_100, L_122, L_144, L_255, L_364, L_480, L_500, L_800, L_1000, L_100000, L_4096, L_1023, L_1024, nLe, nLt, nEq, nI_1, nI_add, pk_mul, nSn, nDn, nCl, zck_nI, zdv_nI, nNeg, nLe0, n0Lt, nEq0, nM1, m1N, m1Lt, nLm1, zcb_0, zcb_1, i10, i01, nEq1, n1Eq, nLt1, gI_eq, gI_nb, gI_na, x_badF, x_badT1, x_badT2, bt_0, bt_1, bit1_u, Bool.true_eq_false, Bool.false_eq_true, eq_self, Int32.or_zero, L_11, L_14, L_15, L_16, L_17, L_18, L_19, L_21, L_22, L_23, L_28, L_29, if_pos, if_neg, sC_na]
  · simp (disch := omega) only [Option.bind_some, Option.map_some, zlet_eq, ↓reduceIte, L_2, L_3, L_4, L_5, L_6, L_7, L_8, L_9, L_10, L_12, L_13, L_20, L_24, L_25, L_26, L_27, L_30, L_32, L_33, L_34, L_40, L_48, L_57, L_58, L_60, L_64, L_90, L_93, L_97, L_99, L_100, L_122, L_144, L_255, L_364, L_480, L_500, L_800, L_1000, L_100000, L_4096, L_1023, L_1024, nLe, nLt, nEq, nI_1, nI_add, pk_mul, nSn, nDn, nCl, zck_nI, zdv_nI, nNeg, nLe0, n0Lt, nEq0, nM1, m1N, m1Lt, nLm1, zcb_0, zcb_1, i10, i01, nEq1, n1Eq, nLt1, gI_eq, gI_nb, gI_na, x_badF, x_badT1, x_badT2, bt_0, bt_1, bit1_u, Bool.true_eq_false, Bool.false_eq_true, eq_self, Int32.or_zero, L_11, L_14, L_15, L_16, L_17, L_18, L_19, L_21, L_22, L_23, L_28, L_29, if_pos, if_neg, sC_na]
  · simp (disch := omega) only [Option.bind_some, Option.map_some, zlet_eq, ↓reduceIte, L_2, L_3, L_4, L_5, L_6, L_7, L_8, L_9, L_10, L_12, L_13, L_20, L_24, L_25, L_26, L_27, L_30, L_32, L_33, L_34, L_40, L_48, L_57, L_58, L_60, L_64, L_90, L_93, L_97, L_99, L_100, L_122, L_144, L_255, L_364, L_480, L_500, L_800, L_1000, L_100000, L_4096, L_1023, L_1024, nLe, nLt, nEq, nI_1, nI_add, pk_mul, nSn, nDn, nCl, zck_nI, zdv_nI, nNeg, nLe0, n0Lt, nEq0, nM1, m1N, m1Lt, nLm1, zcb_0, zcb_1, i10, i01, nEq1, n1Eq, nLt1, gI_eq, gI_nb, gI_na, x_badF, x_badT1, x_badT2, bt_0, bt_1, bit1_u, Bool.true_eq_false, Bool.false_eq_true, eq_self, Int32.or_zero, L_11, L_14, L_15, L_16, L_17, L_18, L_19, L_21, L_22, L_23, L_28, L_29, if_pos, if_neg, sC_na]
  · simp (disch := omega) only [Option.bind_some, Option.map_some, zlet_eq, ↓reduceIte, L_2, L_3, L_4, L_5, L_6, L_7, L_8, L_9, L_10, L_12, L_13, L_20, L_24, L_25, L_26, L_27, L_30, L_32, L_33, L_34, L_40, L_48, L_57, L_58, L_60, L_64, L_90, L_93, L_97, L_99, L_100, L_122, L_144, L_255, L_364, L_480, L_500, L_800, L_1000, L_100000, L_4096, L_1023, L_1024, nLe, nLt, nEq, nI_1, nI_add, pk_mul, nSn, nDn, nCl, zck_nI, zdv_nI, nNeg, nLe0, n0Lt, nEq0, nM1, m1N, m1Lt, nLm1, zcb_0, zcb_1, i10, i01, nEq1, n1Eq, nLt1, gI_eq, gI_nb, gI_na, x_badF, x_badT1, x_badT2, bt_0, bt_1, bit1_u, Bool.true_eq_false, Bool.false_eq_true, eq_self, Int32.or_zero, L_11, L_14, L_15, L_16, L_17, L_18, L_19, L_21, L_22, L_23, L_28, L_29, if_pos, if_neg, sC_na, sC_eq0]
    exact h5 s hs
  · simp (disch := omega) only [Option.bind_some, Option.map_some, zlet_eq, ↓reduceIte, L_2, L_3, L_4, L_5, L_6, L_7, L_8, L_9, L_10, L_12, L_13, L_20, L_24, L_25, L_26, L_27, L_30, L_32, L_33, L_34, L_40, L_48, L_57, L_58, L_60, L_64, L_90, L_93, L_97, L_99, L_100, L_122, L_144, L_255, L_364, L_480, L_500, L_800, L_1000, L_100000, L_4096, L_1023, L_1024, nLe, nLt, nEq, nI_1, nI_add, pk_mul, nSn, nDn, nCl, zck_nI, zdv_nI, nNeg, nLe0, n0Lt, nEq0, nM1, m1N, m1Lt, nLm1, zcb_0, zcb_1, i10, i01, nEq1, n1Eq, nLt1, gI_eq, gI_nb, gI_na, x_badF, x_badT1, x_badT2, bt_0, bt_1, bit1_u, Bool.true_eq_false, Bool.false_eq_true, eq_self, Int32.or_zero, L_11, L_14, L_15, L_16, L_17, L_18, L_19, L_21, L_22, L_23, L_28, L_29, if_pos, if_neg, sC_na, sC_eq0]
    exact h6 s hs
  · simp (disch := omega) only [Option.bind_some, Option.map_some, zlet_eq, ↓reduceIte, L_2, L_3, L_4, L_5, L_6, L_7, L_8, L_9, L_10, L_12, L_13, L_20, L_24, L_25, L_26, L_27, L_30, L_32, L_33, L_34, L_40, L_48, L_57, L_58, L_60, L_64, L_90, L_93, L_97, L_99, L_100, L_122, L_144, L_255, L_364, L_480, L_500, L_800, L_1000, L_100000, L_4096, L_1023, L_1024, nLe, nLt, nEq, nI_1, nI_add, pk_mul, nSn, nDn, nCl, zck_nI, zdv_nI, nNeg, nLe0, n0Lt, nEq0, nM1, m1N, m1Lt, nLm1, zcb_0, zcb_1, i10, i01, nEq1, n1Eq, nLt1, gI_eq, gI_nb, gI_na, x_badF, x_badT1, x_badT2, bt_0, bt_1, bit1_u, Bool.true_eq_false, Bool.false_eq_true, eq_self, Int32.or_zero, L_11, L_14, L_15, L_16, L_17, L_18, L_19, L_21, L_22, L_23, L_28, L_29, if_pos, if_neg, sC_na, sC_eq0]
    exact h7 s o hs ho hne
  · exact ((((((ag.refl.sI (by unfold pOut; omega)).sI (by unfold pOut; omega)).sI (by unfold pOut; omega)).sI (by unfold pOut; omega)).sC (by unfold pOut; omega)).sC (by unfold pOut; omega)).sC (by unfold pOut; omega)
/-- the best change so far -/
def fBest (c ns nc : Nat) (cv : Nat → Int32) (e : Nat) (pt : Nat → Int32) (a : Nat) (st : Nat × Nat) : Nat × Nat := if prA ns nc cv e (fl1 c pt a) < st.2 then (a + 1, prA ns nc cv e (fl1 c pt a)) else st
theorem sBest_eq (pt : Nat → Int32) : sBest c ns nc cv e pt = zfo (fBest c ns nc cv e pt) (ns * c) 0 (0, prA ns nc cv e pt) := rfl
theorem sBest_lt (pt : Nat → Int32) : (sBest c ns nc cv e pt).1 ≤ ns * c ∧ ((sBest c ns nc cv e pt).1 ≠ 0 → (sBest c ns nc cv e pt).2 = prA ns nc cv e (fl1 c pt ((sBest c ns nc cv e pt).1 - 1))) := by
  rw [sBest_eq]
  refine zfo_inv (σ := Nat × Nat) (N := ns * c) (m := ns * c) (i := 0) (fun a st => st.1 ≤ ns * c ∧ (st.1 ≠ 0 → st.2 = prA ns nc cv e (fl1 c pt (st.1 - 1)))) (fun a st ha hst => ?_) (by omega) ⟨Nat.zero_le _, fun q => absurd rfl q⟩
  unfold fBest
  split
  · exact ⟨ha, fun _ => rfl⟩
  · exact hst
def bs (c : Nat) (k : Nat) : Int32 := if k = 0 then -1 else nI ((k - 1) / c)
def bc (c : Nat) (k : Nat) : Int32 := if k = 0 then -1 else nI ((k - 1) % c)
theorem c_stepDone {pt : Nat → Int32} (hc : hcv nc c cv D) (hc0 : 0 < c) (hc30 : c < 31) (he : e < 100) (hn : ns ≤ 12) (hpt : ∀ s, s < ns → un (pt s) < 2 ^ c) (h : tg 86 c ns nc cv e pt D) : zok (fn_X6_stepIsDone D) fun q => (if (sBest c ns nc cv e pt).1 = 0 then q.1 = 0 ∧ q.2 = D else q.1 = 1 ∧ tg 86 c ns nc cv e (fl1 c pt ((sBest c ns nc cv e pt).1 - 1)) q.2) ∧ ag (pOut 86) D q.2 := by
  have h1 := h.1
  have h5 := h.2.1
  have h7 := h.2.2.2.1
  have hpl : ∀ pt, prA ns nc cv e pt ≤ 144 := fun pt => prA_le hn
  have hnc' := nsc hn (show c ≤ 30 by omega)
  unfold fn_X6_stepIsDone
  rw [zlet_eq, h7]
  refine z_inv ns (fun n s (st : Nat × Nat) => fn_X6_stepIsDone_15 n (nI st.2) (bs c st.1) (bc c st.1) (nI s) D) (fun s st => st = zfo (fBest c ns nc cv e pt) (s * c) 0 (0, prA ns nc cv e pt) ∧ st.2 ≤ 144) _ ?_ ?_ 0 zFU (0, prA ns nc cv e pt) (Nat.zero_le _) (zfu_gt (by omega)) ⟨by rw [Nat.zero_mul]; rfl, hpl pt⟩
  · rintro n s ⟨i0, l0⟩ hs ⟨hst, hl0⟩ ih
    show zok (fn_X6_stepIsDone_15 (n + 1) (nI l0) (bs c i0) (bc c i0) (nI s) D) _
    rw [fn_X6_stepIsDone_15, h1, if_neg (nI_ge hs (by omega))]
    refine z_inv c (fun m i (st : Nat × Nat) => fn_X6_stepIsDone_30 (fn_X6_stepIsDone_15 n) m (nI st.2) (bs c st.1) (bc c st.1) (nI s) (nI i) D) (fun i st => st = zfo (fBest c ns nc cv e pt) (s * c + i) 0 (0, prA ns nc cv e pt) ∧ st.2 ≤ 144) _ ?_ ?_ 0 zFU (i0, l0) (Nat.zero_le _) (zfu_gt (by omega)) ⟨hst, hl0⟩
    · rintro m i ⟨i1, l1⟩ hi ⟨hst1, hl1⟩ ih2
      show zok (fn_X6_stepIsDone_30 (fn_X6_stepIsDone_15 n) (m + 1) (nI l1) (bs c i1) (bc c i1) (nI s) (nI i) D) _
      have hz := zfo_last (fBest c ns nc cv e pt) (s * c + i) 0 (0, prA ns nc cv e pt)
      rw [Nat.zero_add, ← hst1, Nat.add_assoc] at hz
      have hfl : fl1 c pt (s * c + i) = flp pt s i := by unfold fl1; rw [dm1 hi, dm2 hi]
      unfold fBest at hz
      rw [hfl] at hz
      have hq := hpl (flp pt s i)
      rw [fn_X6_stepIsDone_30, h5, if_neg (nI_ge hi (by omega)), c_pairsWith hn hc30 h hs hi, Option.bind_some, nI_1]
      by_cases g : prA ns nc cv e (flp pt s i) < l1
      · have hl1' : l1 ≤ 144 := hl1
        rw [if_neg (nI_ge g (by omega))]
        rw [if_pos g] at hz
        have e1 : bs c (s * c + i + 1) = nI s := by unfold bs; rw [if_neg (by omega), Nat.add_sub_cancel, dm1 hi]
        have e2 : bc c (s * c + i + 1) = nI i := by unfold bc; rw [if_neg (by omega), Nat.add_sub_cancel, dm2 hi]
        have := ih2 (s * c + i + 1, prA ns nc cv e (flp pt s i)) ⟨hz.symm, hq⟩
        rw [show (s * c + i + 1, prA ns nc cv e (flp pt s i)).1 = s * c + i + 1 from rfl, e1, e2] at this
        exact this
      · have hl1' : l1 ≤ 144 := hl1
        rw [if_pos (nI_le (by omega) (by omega))]
        rw [if_neg g] at hz
        exact ih2 (i1, l1) ⟨hz.symm, hl1⟩
    · rintro m ⟨i1, l1⟩ ⟨hst1, hl1⟩
      show zok (fn_X6_stepIsDone_30 (fn_X6_stepIsDone_15 n) (m + 1) (nI l1) (bs c i1) (bc c i1) (nI s) (nI c) D) _
      rw [fn_X6_stepIsDone_30, h5, if_pos (nI_le (Nat.le_refl _) (by omega)), nI_1]
      exact ih (i1, l1) ⟨by rw [hst1, Nat.succ_mul], hl1⟩
  · rintro n ⟨i0, l0⟩ ⟨hst, hl0⟩
    show zok (fn_X6_stepIsDone_15 (n + 1) (nI l0) (bs c i0) (bc c i0) (nI ns) D) _
    rw [fn_X6_stepIsDone_15, h1, if_pos (nI_le (Nat.le_refl _) (by omega))]
    unfold fn_X6_stepIsDone_82
    have hb : (sBest c ns nc cv e pt) = (i0, l0) := by rw [sBest_eq]; exact hst.symm
    have hlt := (sBest_lt (c := c) (ns := ns) (nc := nc) (cv := cv) (e := e) pt).1
    rw [hb] at hlt ⊢
    by_cases q : i0 = 0
    · rw [if_pos (by unfold bs; rw [if_pos q]), zok_some, if_pos q]
      exact ⟨⟨rfl, rfl⟩, ag.refl⟩
    · have hlt' : i0 ≤ ns * c := hlt
      obtain ⟨k1, k2, _, _⟩ := dm3 (show i0 - 1 < ns * c by omega)
      rw [if_neg (by unfold bs; rw [if_neg q]; exact fun r => (nM1 _ (by omega)).mp r)]
      unfold bs bc
      rw [if_neg q, if_neg q]
      refine (c_flip (by omega) hc hc30 he hn hpt k1 k2 h).bind fun F ⟨f1, f2⟩ => ?_
      rw [zok_some, if_neg (show ¬ (i0, l0).1 = 0 from q)]
      exact ⟨⟨rfl, f1⟩, f2⟩
theorem c_walk : ∀ (m k n : Nat) (pt : Nat → Int32) (D : zD), k + m = 30 → m + 1 < n → hcv nc c cv D → 0 < c → c < 31 → e < 100 → ns ≤ 12 → (∀ s, s < ns → un (pt s) < 2 ^ c) → tg 86 c ns nc cv e pt D → zok (fn_X6_walk_19 81 n (nI k) D) fun q => q.1 = nI (sSteps c ns nc cv e m pt k).1 ∧ gI q.2 86 7 = nI (sSteps c ns nc cv e m pt k).2 ∧ ag (pOut 86) D q.2 := by
  intro m
  induction m with
  | zero =>
    intro k n pt D hk hn' hc hc0 hc30 he hn hpt h
    obtain ⟨n, rfl⟩ : ∃ q, n = q + 1 := ⟨n - 1, by omega⟩
    rw [fn_X6_walk_19, if_pos (show (30 : Int32) ≤ nI k from nI_le (a := 30) (by omega) (by omega)), zok_some]
    exact ⟨rfl, h.2.2.2.1, ag.refl⟩
  | succ m ih =>
    intro k n pt D hk hn' hc hc0 hc30 he hn hpt h
    obtain ⟨n, rfl⟩ : ∃ q, n = q + 1 := ⟨n - 1, by omega⟩
    have hpl := prA_le (nc := nc) (cv := cv) (e := e) (pt := pt) hn
    rw [fn_X6_walk_19, if_neg (show ¬ (30 : Int32) ≤ nI k from nI_ge (b := 30) (by omega) (by omega)), h.2.2.2.1, sSteps]
    by_cases g : 0 < prA ns nc cv e pt
    · rw [if_neg (fun q => by have := (nLe0 _ (by omega)).mp q; omega), if_pos g]
      refine (c_stepDone hc hc0 hc30 he hn hpt h).bind fun q ⟨e1, e2⟩ => ?_
      by_cases r : (sBest c ns nc cv e pt).1 = 0
      · rw [if_pos r] at e1
        rw [e1.1, if_pos rfl, zok_some, if_pos r]
        exact ⟨rfl, by show gI q.2 86 7 = _; rw [e1.2]; exact h.2.2.2.1, e2⟩
      · rw [if_neg r] at e1
        rw [e1.1, if_neg (by decide), if_neg r, nI_1]
        have hlt := (sBest_lt (c := c) (ns := ns) (nc := nc) (cv := cv) (e := e) pt).1
        obtain ⟨k1, k2, _, _⟩ := dm3 (show (sBest c ns nc cv e pt).1 - 1 < ns * c by omega)
        refine (ih (k + 1) n _ q.2 (by omega) (by omega) (hc.keep e2 (by omega)) hc0 hc30 he hn (flp_un k2 hc30 hpt) e1.2).mono fun w ⟨w1, w2, w3⟩ => ⟨w1, w2, e2.trans w3⟩
    · rw [if_pos ((nLe0 _ (by omega)).mpr (by omega)), zok_some, if_neg g]
      exact ⟨rfl, h.2.2.2.1, ag.refl⟩
/-- the class's trial objects -/
def pTr (a _b : Nat) : Prop := a < 85 ∨ 89 < a
theorem pTr_iv {E : zD} (h : iv P D) (g : ag pTr D E) : iv P E := h.keep (g.mono (by unfold pTr pcr pA pB pS pI pT; intros; omega)) (g.mono (by unfold pTr pK; intros; omega)) (g.mono (by unfold pTr pO; intros; omega))
theorem cpos {w h : Nat} (hw : 2 ≤ w) (hh : 2 ≤ h) : 4 ≤ w * h := Nat.mul_le_mul hw hh
theorem c_steps (h : iv P D) : zok ((fn_X11_weave D).bind fun D6 => fn_X6_walk 81 D6) fun q => q.1 = nI (sSteps (P 0 * P 1) (P 2) (P 4) (gI D 128) (2 * P 5) 30 (gI D 105) 0).1 ∧ gI q.2 86 7 = nI (sSteps (P 0 * P 1) (P 2) (P 4) (gI D 128) (2 * P 5) 30 (gI D 105) 0).2 ∧ iv P q.2 ∧ gI q.2 105 = gI D 105 ∧ gI q.2 128 = gI D 128 := by
  refine (c_wv h).bind fun E ⟨e1, e2, e3⟩ => ?_
  have hh := iv_hcv e1
  have f105 : gI E 105 = gI D 105 := funext fun b => e3 _ _ (by unfold pW; omega)
  have f128 : gI E 128 = gI D 128 := funext fun b => e3 _ _ (by unfold pW; omega)
  rw [f128] at hh
  have e1' := e1
  obtain ⟨⟨⟨hb, ⟨a0, a1, a2, a3⟩, ⟨b0, b1, b2, b3⟩, hs, hw⟩, ⟨hc, c1, c2, hcv⟩, ⟨hd, ⟨z0, z1, z2⟩, ⟨y0, y1, y2⟩, hp, ht⟩, ⟨hi, i0, i1, him⟩, ⟨hta, ta0, ta1, hpl, htb⟩⟩, hK, hO⟩ := e1
  replace y0 : gI _ 102 34 = nI (P 5) := y0
  replace y1 : gI _ 102 35 = nI (P 6) := y1
  replace y2 : gI _ 102 36 = nI (P 7) := y2
  have h30 := wh_le (w := P 0) (h := P 1) (by omega) (by omega)
  have h4 := cpos (w := P 0) (h := P 1) (by omega) (by omega)
  unfold fn_X6_walk
  refine (c_copyT (a := 81) (b := 86) (by omega) (by omega) e2).bind fun F ⟨f1, f2⟩ => ?_
  refine (c_walk 30 0 zFU _ F (by omega) (by unfold zFU; omega) (hh.keep f2 (by omega)) (by omega) (by omega) (by omega) (by omega) (fun s hs' => by rw [← f105]; exact (hs s hs').2.2.1) f1).mono fun q ⟨q1, q2, q3⟩ => ?_
  have hg : ag (pOut 86) E q.2 := f2.trans q3
  exact ⟨q1, q2, pTr_iv e1' (hg.mono (by unfold pTr pOut; intros; omega)), by rw [← f105]; exact funext fun b => hg _ _ (by unfold pOut; omega), by rw [← f128]; exact funext fun b => hg _ _ (by unfold pOut; omega)⟩
end M73
