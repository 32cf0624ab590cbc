/-! THE MATHEMATICS: seen, guess, known, all -/
def pY (a _b : Nat) : Prop := a ≠ 204
/-- the same where p, and no long changed -/
def agL (p : Nat → Nat → Prop) (D E : zD) : Prop := ag p D E ∧ E.1 = D.1
theorem agL.refl {p : Nat → Nat → Prop} {D : zD} : agL p D D := ⟨ag.refl, rfl⟩
theorem agL.trans {p : Nat → Nat → Prop} {D E F : zD} (h : agL p D E) (k : agL p E F) : agL p D F := ⟨h.1.trans k.1, k.2.trans h.2⟩
theorem agL_sI {p : Nat → Nat → Prop} {D E : zD} (h : agL p D E) {k j : Nat} {x : Int32} (hk : ¬ p k j) : agL p D (sI E k j x) := ⟨h.1.sI hk, h.2⟩
theorem agL.l {p : Nat → Nat → Prop} {D E : zD} (h : agL p D E) (a b : Nat) : gL E a b = gL D a b := by show E.1 a b = D.1 a b; rw [h.2]
section M64
variable {D : zD} {P : Nat → Nat}
theorem c_view1 {n : Nat} (h : gI D 57 2 = nI n) {v u : Int32} (g : v < 0 ∨ nI n ≤ v) : fn_X11_needView v u D = some 2 := by
  unfold fn_X11_needView fn_X11_needStanding
  rw [h, y_out g]
  rfl
theorem c_standJ {n j : Nat} (h : gI D 57 2 = nI n) (hn : n ≤ 8) (hj : j < n) : fn_X11_needStanding (nI j) D = some 0 := by
  unfold fn_X11_needStanding
  rw [h, if_neg (nI_pos (by omega)), if_pos (nI_lt hj (by omega))]
theorem c_stand1 {n : Nat} (h : gI D 57 2 = nI n) {v : Int32} (g : v < 0 ∨ nI n ≤ v) : fn_X11_needStanding v D = some 2 := by
  unfold fn_X11_needStanding
  rw [h, y_out g]
theorem c_view2 {n j : Nat} (h : gI D 57 2 = nI n) (hn : n ≤ 8) (hj : j < n) {u : Int32} (g : u < 0 ∨ nI 100 ≤ u) : fn_X11_needView (nI j) u D = some 1 := by
  unfold fn_X11_needView
  rw [c_standJ h hn hj, Option.bind_some, if_pos rfl, show (100 : Int32) = nI 100 from rfl, y_out g]
theorem c_view3 {n j i : Nat} (h : gI D 57 2 = nI n) (hn : n ≤ 8) (hj : j < n) (hi : i < 100) : fn_X11_needView (nI j) (nI i) D = some 0 := by
  unfold fn_X11_needView
  rw [c_standJ h hn hj]
  simp (disch := omega) only [Option.bind_some, Option.map_some, zlet_eq, ↓reduceIte, L_2, L_3, L_4, L_5, L_6, L_7, L_8, L_9, L_10, L_12, L_13, L_20, L_24, L_25, L_26, L_27, L_30, L_32, L_33, L_34, L_40, L_48, L_57, L_58, L_60, L_64, L_90, L_93, L_97, L_99, L_100, L_122, L_144, L_255, L_364, L_480, L_500, L_800, L_1000, L_100000, L_4096, L_1023, L_1024, nLe, nLt, nEq, nI_1, nI_add, pk_mul, nSn, nDn, nCl, zck_nI, zdv_nI, nNeg, nLe0, n0Lt, nEq0, nM1, m1N, m1Lt, nLm1, zcb_0, zcb_1, i10, i01, nEq1, n1Eq, nLt1, gI_eq, gI_nb, gI_na, x_badF, x_badT1, x_badT2, bt_0, bt_1, bit1_u, Bool.true_eq_false, Bool.false_eq_true, eq_self, Int32.or_zero, L_11, L_14, L_15, L_16, L_17, L_18, L_19, L_21, L_22, L_23, L_28, L_29, if_pos, if_neg]
theorem t_seen (h : iv P D) (v u so : Int32) : twin (wk2 2 1) (fn_X11_seen v u so D) (fn_X12_seen v u so) := by
  have h' := h
  obtain ⟨⟨⟨hb, ⟨a0, a1, a2, a3⟩, ⟨b0, b1, b2, b3⟩, hs, hw⟩, ⟨hc, c1, c2, hcv⟩, ⟨hd, ⟨z0, z1, z2⟩, ⟨y0, y1, y2⟩, hp, ht⟩, ⟨hi, i0, i1, him⟩, ⟨hta, ta0, ta1, hpl, htb⟩⟩, hK, hO⟩ := h
  replace y0 : gI _ 102 34 = nI (P 5) := y0
  replace y1 : gI _ 102 35 = nI (P 6) := y1
  replace y2 : gI _ 102 36 = nI (P 7) := y2
  unfold fn_X11_seen
  rcases x_inN (v := v) (n := P 7) (by omega) with ⟨e, g⟩ | ⟨e, j, hj, rfl⟩
  · refine twin_tt h' (e := 2) (t := 1) rfl (by decide) (by rw [c_view1 z2 g]; rfl) fun E hE he => ?_
    rw [gE he] at y2
    unfold fn_X12_seen fn_X12_seen_19 fn_X12_isStanding
    simp (disch := omega) only [Option.bind_some, Option.map_some, zlet_eq, ↓reduceIte, L_2, L_3, L_4, L_5, L_6, L_7, L_8, L_9, L_10, L_12, L_13, L_20, L_24, L_25, L_26, L_27, L_30, L_32, L_33, L_34, L_40, L_48, L_57, L_58, L_60, L_64, L_90, L_93, L_97, L_99, L_100, L_122, L_144, L_255, L_364, L_480, L_500, L_800, L_1000, L_100000, L_4096, L_1023, L_1024, nLe, nLt, nEq, nI_1, nI_add, pk_mul, nSn, nDn, nCl, zck_nI, zdv_nI, nNeg, nLe0, n0Lt, nEq0, nM1, m1N, m1Lt, nLm1, zcb_0, zcb_1, i10, i01, nEq1, n1Eq, nLt1, gI_eq, gI_nb, gI_na, x_badF, x_badT1, x_badT2, bt_0, bt_1, bit1_u, Bool.true_eq_false, Bool.false_eq_true, eq_self, Int32.or_zero, L_11, L_14, L_15, L_16, L_17, L_18, L_19, L_21, L_22, L_23, L_28, L_29, if_pos, if_neg, y2, e]
  · rcases x_inK (v := u) (n := 99) (by omega) with ⟨e2, g⟩ | ⟨e2, i, hi9, rfl⟩
    · refine twin_tt h' (e := 1) (t := 2) rfl (by decide) (by rw [c_view2 z2 (by omega) hj g]; rfl) fun E hE he => ?_
      rw [gE he] at y2
      unfold fn_X12_seen fn_X12_seen_19 fn_X12_seen_42 fn_X12_isStanding
      simp (disch := omega) only [Option.bind_some, Option.map_some, zlet_eq, ↓reduceIte, L_2, L_3, L_4, L_5, L_6, L_7, L_8, L_9, L_10, L_12, L_13, L_20, L_24, L_25, L_26, L_27, L_30, L_32, L_33, L_34, L_40, L_48, L_57, L_58, L_60, L_64, L_90, L_93, L_97, L_99, L_100, L_122, L_144, L_255, L_364, L_480, L_500, L_800, L_1000, L_100000, L_4096, L_1023, L_1024, nLe, nLt, nEq, nI_1, nI_add, pk_mul, nSn, nDn, nCl, zck_nI, zdv_nI, nNeg, nLe0, n0Lt, nEq0, nM1, m1N, m1Lt, nLm1, zcb_0, zcb_1, i10, i01, nEq1, n1Eq, nLt1, gI_eq, gI_nb, gI_na, x_badF, x_badT1, x_badT2, bt_0, bt_1, bit1_u, Bool.true_eq_false, Bool.false_eq_true, eq_self, Int32.or_zero, L_11, L_14, L_15, L_16, L_17, L_18, L_19, L_21, L_22, L_23, L_28, L_29, if_pos, if_neg, y2, e, e2]
    · rw [c_view3 z2 (by omega) hj (by omega), Option.bind_some, if_pos rfl, a0]
      refine zok_bind.mpr ((c_columns h' hj (s := i) (by omega) so).mono fun q ⟨e3, e4, e5⟩ => zok_some.mpr fun E hE => ?_)
      have hg : ∀ a b, pX a b → gI E a b = gI D a b := fun a b p => by rw [← e5 a b p]; show E.2 a b = _; rw [hE]; rfl
      have hiE := (e4.int hE).thr 0
      have m := r_seenOf hiE hj (s := i) (by omega) so
      rw [sCol_cong (D := D) (funext fun o => by rw [Xr, gI_na (by omega)]; exact hg _ _ (by unfold pX; omega)) (funext fun o => by rw [Yr, gI_na (by omega)]; exact hg _ _ (by unfold pX; omega))] at m
      have y2' : gI E 102 36 = nI (P 7) := by rw [hg _ _ (by unfold pX; omega), y2]
      unfold fn_X12_seen fn_X12_seen_19 fn_X12_seen_42 fn_X12_isStanding
      simp (disch := omega) only [Option.bind_some, Option.map_some, zlet_eq, ↓reduceIte, L_2, L_3, L_4, L_5, L_6, L_7, L_8, L_9, L_10, L_12, L_13, L_20, L_24, L_25, L_26, L_27, L_30, L_32, L_33, L_34, L_40, L_48, L_57, L_58, L_60, L_64, L_90, L_93, L_97, L_99, L_100, L_122, L_144, L_255, L_364, L_480, L_500, L_800, L_1000, L_100000, L_4096, L_1023, L_1024, nLe, nLt, nEq, nI_1, nI_add, pk_mul, nSn, nDn, nCl, zck_nI, zdv_nI, nNeg, nLe0, n0Lt, nEq0, nM1, m1N, m1Lt, nLm1, zcb_0, zcb_1, i10, i01, nEq1, n1Eq, nLt1, gI_eq, gI_nb, gI_na, x_badF, x_badT1, x_badT2, bt_0, bt_1, bit1_u, Bool.true_eq_false, Bool.false_eq_true, eq_self, Int32.or_zero, L_11, L_14, L_15, L_16, L_17, L_18, L_19, L_21, L_22, L_23, L_28, L_29, if_pos, if_neg, y2', e, e2, m, zok_some]
      exact ⟨⟨P, hiE⟩, ⟨rfl, e3.symm⟩, rfl⟩
theorem t_guess (h : iv P D) (v u so : Int32) : twin (wk2 2 1) (fn_X11_guess v u so D) (fn_X12_guess v u so) := by
  have h' := h
  obtain ⟨⟨⟨hb, ⟨a0, a1, a2, a3⟩, ⟨b0, b1, b2, b3⟩, hs, hw⟩, ⟨hc, c1, c2, hcv⟩, ⟨hd, ⟨z0, z1, z2⟩, ⟨y0, y1, y2⟩, hp, ht⟩, ⟨hi, i0, i1, him⟩, ⟨hta, ta0, ta1, hpl, htb⟩⟩, hK, hO⟩ := h
  replace y0 : gI _ 102 34 = nI (P 5) := y0
  replace y1 : gI _ 102 35 = nI (P 6) := y1
  replace y2 : gI _ 102 36 = nI (P 7) := y2
  unfold fn_X11_guess
  rcases x_inN (v := v) (n := P 7) (by omega) with ⟨e, g⟩ | ⟨e, j, hj, rfl⟩
  · refine twin_tt h' (e := 2) (t := 1) rfl (by decide) (by rw [c_view1 z2 g]; rfl) fun E hE he => ?_
    rw [gE he] at y2
    unfold fn_X12_guess fn_X12_guess_19 fn_X12_isStanding
    simp (disch := omega) only [Option.bind_some, Option.map_some, zlet_eq, ↓reduceIte, L_2, L_3, L_4, L_5, L_6, L_7, L_8, L_9, L_10, L_12, L_13, L_20, L_24, L_25, L_26, L_27, L_30, L_32, L_33, L_34, L_40, L_48, L_57, L_58, L_60, L_64, L_90, L_93, L_97, L_99, L_100, L_122, L_144, L_255, L_364, L_480, L_500, L_800, L_1000, L_100000, L_4096, L_1023, L_1024, nLe, nLt, nEq, nI_1, nI_add, pk_mul, nSn, nDn, nCl, zck_nI, zdv_nI, nNeg, nLe0, n0Lt, nEq0, nM1, m1N, m1Lt, nLm1, zcb_0, zcb_1, i10, i01, nEq1, n1Eq, nLt1, gI_eq, gI_nb, gI_na, x_badF, x_badT1, x_badT2, bt_0, bt_1, bit1_u, Bool.true_eq_false, Bool.false_eq_true, eq_self, Int32.or_zero, L_11, L_14, L_15, L_16, L_17, L_18, L_19, L_21, L_22, L_23, L_28, L_29, if_pos, if_neg, y2, e]
  · rcases x_inK (v := u) (n := 99) (by omega) with ⟨e2, g⟩ | ⟨e2, i, hi9, rfl⟩
    · refine twin_tt h' (e := 1) (t := 2) rfl (by decide) (by rw [c_view2 z2 (by omega) hj g]; rfl) fun E hE he => ?_
      rw [gE he] at y2
      unfold fn_X12_guess fn_X12_guess_19 fn_X12_guess_42 fn_X12_isStanding
      simp (disch := omega) only [Option.bind_some, Option.map_some, zlet_eq, ↓reduceIte, L_2, L_3, L_4, L_5, L_6, L_7, L_8, L_9, L_10, L_12, L_13, L_20, L_24, L_25, L_26, L_27, L_30, L_32, L_33, L_34, L_40, L_48, L_57, L_58, L_60, L_64, L_90, L_93, L_97, L_99, L_100, L_122, L_144, L_255, L_364, L_480, L_500, L_800, L_1000, L_100000, L_4096, L_1023, L_1024, nLe, nLt, nEq, nI_1, nI_add, pk_mul, nSn, nDn, nCl, zck_nI, zdv_nI, nNeg, nLe0, n0Lt, nEq0, nM1, m1N, m1Lt, nLm1, zcb_0, zcb_1, i10, i01, nEq1, n1Eq, nLt1, gI_eq, gI_nb, gI_na, x_badF, x_badT1, x_badT2, bt_0, bt_1, bit1_u, Bool.true_eq_false, Bool.false_eq_true, eq_self, Int32.or_zero, L_11, L_14, L_15, L_16, L_17, L_18, L_19, L_21, L_22, L_23, L_28, L_29, if_pos, if_neg, y2, e, e2]
    · rw [c_view3 z2 (by omega) hj (by omega), Option.bind_some, if_pos rfl]
      refine zok_bind.mpr ((c_guess h' hj (s := i) (by omega) so).mono fun q ⟨e3, e4, e5⟩ => zok_some.mpr fun E hE => ?_)
      have hg : ∀ a b, pX a b → gI E a b = gI D a b := fun a b p => by rw [← e5 a b p]; show E.2 a b = _; rw [hE]; rfl
      have hiE := (e4.int hE).thr 0
      have hX : Xr (sI E 102 0 0) = Xr D := funext fun o => by rw [Xr, gI_na (by omega)]; exact hg _ _ (by unfold pX; omega)
      have hY : Yr (sI E 102 0 0) = Yr D := funext fun o => by rw [Yr, gI_na (by omega)]; exact hg _ _ (by unfold pX; omega)
      have m := r_seenOf hiE hj (s := i) (by omega) so
      have m2 := r_guessBy hiE hj (sCol P (sI E 102 0 0) so j i)
      have m3 : sMay (P 2) (gI (sI E 102 0 0) 105) (sHc (P 0) (P 1) (sCol P (sI E 102 0 0) so j i)) (gI (sI E 102 0 0) 105 (un (gI (sI E 102 0 0) (170 + j) 0))) (P 5) = sGu P D so j i := sGu_cong hX hY (funext fun b => by rw [gI_na (by omega)]; exact hg _ _ (by unfold pX; omega)) so i (by rw [gI_na (by omega)]; exact hg _ _ (by unfold pX; omega))
      rw [m3] at m2
      have y2' : gI E 102 36 = nI (P 7) := by rw [hg _ _ (by unfold pX; omega), y2]
      unfold fn_X12_guess fn_X12_guess_19 fn_X12_guess_42 fn_X12_isStanding
      simp (disch := omega) only [Option.bind_some, Option.map_some, zlet_eq, ↓reduceIte, L_2, L_3, L_4, L_5, L_6, L_7, L_8, L_9, L_10, L_12, L_13, L_20, L_24, L_25, L_26, L_27, L_30, L_32, L_33, L_34, L_40, L_48, L_57, L_58, L_60, L_64, L_90, L_93, L_97, L_99, L_100, L_122, L_144, L_255, L_364, L_480, L_500, L_800, L_1000, L_100000, L_4096, L_1023, L_1024, nLe, nLt, nEq, nI_1, nI_add, pk_mul, nSn, nDn, nCl, zck_nI, zdv_nI, nNeg, nLe0, n0Lt, nEq0, nM1, m1N, m1Lt, nLm1, zcb_0, zcb_1, i10, i01, nEq1, n1Eq, nLt1, gI_eq, gI_nb, gI_na, x_badF, x_badT1, x_badT2, bt_0, bt_1, bit1_u, Bool.true_eq_false, Bool.false_eq_true, eq_self, Int32.or_zero, L_11, L_14, L_15, L_16, L_17, L_18, L_19, L_21, L_22, L_23, L_28, L_29, if_pos, if_neg, y2', e, e2, m, m2, zok_some]
      exact ⟨⟨P, hiE⟩, ⟨rfl, e3.symm⟩, rfl⟩
/-- the standing one b is known from (by) s -/
def sKb (P : Nat → Nat) (D : zD) (so : Int32) (b s : Nat) : Bool := decide (sGu P D so b s = bit1 (un (gI D (170 + b) 0)))
def sFst (p : Nat → Bool) : Int32 := if zff p 100 0 < 100 then nI (zff p 100 0) else -1
theorem sFst_at {p : Nat → Bool} {i : Nat} (hi : i < 100) (hp : p i = true) (hn : ∀ k, k < i → p k = false) : sFst p = nI i := by
  unfold sFst
  rw [zff_one (by omega) (by omega) hp fun j _ hj => hn j hj, if_pos hi]
theorem sFst_no {p : Nat → Bool} (hn : ∀ k, k < 100 → p k = false) : sFst p = -1 := by
  unfold sFst
  rw [zff_none fun j _ hj => hn j (by omega), if_neg (by omega)]
theorem c_isKnown (h : iv P D) {b s : Nat} (hb7 : b < P 7) (hs1 : s < 100) (so : Int32) : zok (fn_X11_isKnown (nI b) (nI s) so D) fun q => q.1 = (if sKb P D so b s = true then 1 else 0) ∧ iv P q.2 ∧ ag pX D q.2 := by
  unfold fn_X11_isKnown
  refine (c_guess h hb7 hs1 so).bind fun q ⟨e1, e2, e3⟩ => ?_
  have e2' := e2
  obtain ⟨sg, hsg, f60, _, _, f170⟩ := iv_st e2' hb7
  obtain ⟨⟨⟨hb, ⟨a0, a1, a2, a3⟩, ⟨b0, b1, b2, b3⟩, hs, hw⟩, ⟨hc, c1, c2, hcv⟩, ⟨hd, ⟨z0, z1, z2⟩, ⟨y0, y1, y2⟩, hp, ht⟩, ⟨hi, i0, i1, him⟩, ⟨hta, ta0, ta1, hpl, htb⟩⟩, hK, hO⟩ := e2
  replace y0 : gI _ 102 34 = nI (P 5) := y0
  replace y1 : gI _ 102 35 = nI (P 6) := y1
  replace y2 : gI _ 102 36 = nI (P 7) := y2
  have e4 : gI D (170 + b) 0 = nI sg := by rw [← e3 (170 + b) 0 (by unfold pX; omega), f170]
  rw [(c_far z2 hd.2.2 hb7).2.2, f60, Option.bind_some, e1]
  unfold sKb
  rw [e4, un_nI (by omega), bit1_u]
  by_cases g : sGu P D so b s = bit1 sg
  · rw [if_pos g, zok_some, if_pos (decide_eq_true g)]
    exact ⟨rfl, e2', e3⟩
  · rw [if_neg g, zok_some, if_neg (by simpa using g)]
    exact ⟨rfl, e2', e3⟩
theorem sKb_cong {E : zD} (g : ag pX D E) (so : Int32) (b s : Nat) : sKb P E so b s = sKb P D so b s := by
  unfold sKb
  rw [sGu_cong (pX_XY g).1 (pX_XY g).2 (funext fun b => g _ _ (by unfold pX; omega)) so s (g _ _ (by unfold pX; omega)), g (170 + b) 0 (by unfold pX; omega)]
theorem c_known (h : iv P D) {b : Nat} (hb7 : b < P 7) (so : Int32) : zok (fn_X11_known_7 (nI b) so zFU 0 D) fun r => r.1 = .inr (sFst fun s => sKb P D so b s) ∧ iv P r.2 ∧ ag pX D r.2 := by
  refine z_inv 100 (fun n i (E : zD) => fn_X11_known_7 (nI b) so n (nI i) E) (fun i E => iv P E ∧ ag pX D E ∧ ∀ k, k < i → sKb P D so b k = false) _ ?_ ?_ 0 zFU D (by omega) (zfu_gt (by omega)) ⟨h, ag.refl, fun k hk => by omega⟩
  · intro n i E hi ⟨g1, g2, g3⟩ ih
    show zok (fn_X11_known_7 (nI b) so (n + 1) (nI i) E) _
    rw [fn_X11_known_7]
    simp (disch := omega) only [Option.bind_some, Option.map_some, zlet_eq, ↓reduceIte, L_2, L_3, L_4, L_5, L_6, L_7, L_8, L_9, L_10, L_12, L_13, L_20, L_24, L_25, L_26, L_27, L_30, L_32, L_33, L_34, L_40, L_48, L_57, L_58, L_60, L_64, L_90, L_93, L_97, L_99, L_100, L_122, L_144, L_255, L_364, L_480, L_500, L_800, L_1000, L_100000, L_4096, L_1023, L_1024, nLe, nLt, nEq, nI_1, nI_add, pk_mul, nSn, nDn, nCl, zck_nI, zdv_nI, nNeg, nLe0, n0Lt, nEq0, nM1, m1N, m1Lt, nLm1, zcb_0, zcb_1, i10, i01, nEq1, n1Eq, nLt1, gI_eq, gI_nb, gI_na, x_badF, x_badT1, x_badT2, bt_0, bt_1, bit1_u, Bool.true_eq_false, Bool.false_eq_true, eq_self, Int32.or_zero, L_11, L_14, L_15, L_16, L_17, L_18, L_19, L_21, L_22, L_23, L_28, L_29, if_pos, if_neg]
    refine (c_isKnown g1 hb7 hi so).bind fun q ⟨e1, e2, e3⟩ => ?_
    rw [sKb_cong g2] at e1
    cases hK : sKb P D so b i
    · rw [hK] at e1
      rw [e1, if_neg (show ¬ (false = true) by decide), if_pos rfl]
      exact ih _ ⟨e2, g2.trans e3, fun k hk => by
        by_cases q : k = i
        · subst q; exact hK
        · exact g3 k (by omega)⟩
    · rw [hK] at e1
      rw [e1, if_pos rfl, if_neg (by decide), zok_some]
      exact ⟨by rw [sFst_at hi hK g3], e2, g2.trans e3⟩
  · intro n E ⟨g1, g2, g3⟩
    show zok (fn_X11_known_7 (nI b) so (n + 1) (nI 100) E) _
    rw [fn_X11_known_7]
    simp (disch := omega) only [Option.bind_some, Option.map_some, zlet_eq, ↓reduceIte, L_2, L_3, L_4, L_5, L_6, L_7, L_8, L_9, L_10, L_12, L_13, L_20, L_24, L_25, L_26, L_27, L_30, L_32, L_33, L_34, L_40, L_48, L_57, L_58, L_60, L_64, L_90, L_93, L_97, L_99, L_100, L_122, L_144, L_255, L_364, L_480, L_500, L_800, L_1000, L_100000, L_4096, L_1023, L_1024, nLe, nLt, nEq, nI_1, nI_add, pk_mul, nSn, nDn, nCl, zck_nI, zdv_nI, nNeg, nLe0, n0Lt, nEq0, nM1, m1N, m1Lt, nLm1, zcb_0, zcb_1, i10, i01, nEq1, n1Eq, nLt1, gI_eq, gI_nb, gI_na, x_badF, x_badT1, x_badT2, bt_0, bt_1, bit1_u, Bool.true_eq_false, Bool.false_eq_true, eq_self, Int32.or_zero, L_11, L_14, L_15, L_16, L_17, L_18, L_19, L_21, L_22, L_23, L_28, L_29, if_pos, if_neg, zok_some]
    exact ⟨by rw [sFst_no g3], g1, g2⟩
/-! the reference's: columns so far at 204 -/
theorem pY_iv {E : zD} (h : iv P D) (g : agL pY D E) : iv P E := h.keep (g.1.mono (by unfold pY pcr pA pB pS pI pT; intros; omega)) (g.1.mono (by unfold pY pK; intros; omega)) (g.1.mono (by unfold pY pO; intros; omega))
theorem pY_XY {E : zD} (g : agL pY D E) {o : Nat} (ho : o < 8) : Xr E o = Xr D o ∧ Yr E o = Yr D o := ⟨g.1 _ _ (by unfold pY; omega), g.1 _ _ (by unfold pY; omega)⟩
theorem sCol_cong' {E : zD} {b : Nat} (hb : b < P 7) (h : ∀ o, o < P 7 → Xr E o = Xr D o ∧ Yr E o = Yr D o) (so : Int32) (s : Nat) : sCol P E so b s = sCol P D so b s := by
  unfold sCol
  rw [sSee_cong hb h, sBy_cong hb h]
theorem sGu_cong' {E : zD} {b : Nat} (hb : b < P 7) (h : ∀ o, o < P 7 → Xr E o = Xr D o ∧ Yr E o = Yr D o) (h5 : gI E 105 = gI D 105) (so : Int32) (s : Nat) (hb0 : gI E (170 + b) 0 = gI D (170 + b) 0) : sGu P E so b s = sGu P D so b s := by
  unfold sGu
  rw [sCol_cong' hb h, h5, hb0]
theorem sGu_Y {E : zD} (hP : P 7 ≤ 8) (g : agL pY D E) {b : Nat} (hb : b < P 7) (so : Int32) (s : Nat) : sGu P E so b s = sGu P D so b s :=
  sGu_cong' hb (fun o ho => pY_XY g (by omega)) (funext fun b => g.1 _ _ (by unfold pY; omega)) so s (g.1 _ _ (by unfold pY; omega))
def sAc (P : Nat → Nat) (D : zD) (b s : Nat) : Int32 := zfo (fun k acc => acc ||| sSee (P 0) (P 7) (Xr D) (Yr D) b (nI k)) s 0 0
theorem sAc_succ (b s : Nat) : sAc P D b (s + 1) = sAc P D b s ||| sSee (P 0) (P 7) (Xr D) (Yr D) b (nI s) := by
  unfold sAc
  rw [zfo_last, Nat.zero_add]
theorem sAc_cong {E : zD} (hP : P 7 ≤ 8) (g : agL pY D E) {b : Nat} (hb : b < P 7) (s : Nat) : sAc P E b s = sAc P D b s := zfo_cong fun k acc _ _ => by rw [sSee_cong hb fun o ho => pY_XY g (by omega)]
theorem r_guessNow (h : iv P D) {b s : Nat} (hb7 : b < P 7) (hs1 : s < 100) (so : Int32) (hacc : so ≠ 0 → gI D 204 b = sAc P D b s) : zok (fn_X12_guessNow (nI b) (nI s) so D) fun q => q.1 = sGu P D so b s ∧ (so ≠ 0 → gI q.2 204 b = sAc P D b (s + 1)) ∧ (∀ c, c ≠ b → gI q.2 204 c = gI D 204 c) ∧ agL pY D q.2 := by
  have h' := h
  obtain ⟨⟨⟨hb, ⟨a0, a1, a2, a3⟩, ⟨b0, b1, b2, b3⟩, hs, hw⟩, ⟨hc, c1, c2, hcv⟩, ⟨hd, ⟨z0, z1, z2⟩, ⟨y0, y1, y2⟩, hp, ht⟩, ⟨hi, i0, i1, him⟩, ⟨hta, ta0, ta1, hpl, htb⟩⟩, hK, hO⟩ := h
  replace y0 : gI _ 102 34 = nI (P 5) := y0
  replace y1 : gI _ 102 35 = nI (P 6) := y1
  replace y2 : gI _ 102 36 = nI (P 7) := y2
  have key : ∀ w, w = sCol P D so b s → (so ≠ 0 → w = sAc P D b (s + 1)) → zok (fn_X12_guessNow_31 (nI b) (nI s) so (nI b) w D) fun q => q.1 = sGu P D so b s ∧ (so ≠ 0 → gI q.2 204 b = sAc P D b (s + 1)) ∧ (∀ c, c ≠ b → gI q.2 204 c = gI D 204 c) ∧ agL pY D q.2 := by
    intro w hw' hw2
    unfold fn_X12_guessNow_31
    have hg : agL pY D (sI D 204 b w) := agL_sI agL.refl (by unfold pY; omega)
    have m := r_guessBy (pY_iv h' hg) hb7 w
    rw [gIf (by omega), gI_na (by omega)] at m
    simp (disch := omega) only [Option.bind_some, Option.map_some, zlet_eq, ↓reduceIte, L_2, L_3, L_4, L_5, L_6, L_7, L_8, L_9, L_10, L_12, L_13, L_20, L_24, L_25, L_26, L_27, L_30, L_32, L_33, L_34, L_40, L_48, L_57, L_58, L_60, L_64, L_90, L_93, L_97, L_99, L_100, L_122, L_144, L_255, L_364, L_480, L_500, L_800, L_1000, L_100000, L_4096, L_1023, L_1024, nLe, nLt, nEq, nI_1, nI_add, pk_mul, nSn, nDn, nCl, zck_nI, zdv_nI, nNeg, nLe0, n0Lt, nEq0, nM1, m1N, m1Lt, nLm1, zcb_0, zcb_1, i10, i01, nEq1, n1Eq, nLt1, gI_eq, gI_nb, gI_na, x_badF, x_badT1, x_badT2, bt_0, bt_1, bit1_u, Bool.true_eq_false, Bool.false_eq_true, eq_self, Int32.or_zero, L_11, L_14, L_15, L_16, L_17, L_18, L_19, L_21, L_22, L_23, L_28, L_29, if_pos, if_neg, m, zok_some]
    exact ⟨by rw [hw']; rfl, hw2, fun c hc => gI_nb hc, hg⟩
  unfold fn_X12_guessNow
  rw [r_seenFrom h' hb7]
  by_cases e : so = 0
  · rw [if_pos e, Option.bind_some]
    exact key _ (by unfold sCol; rw [if_pos e]) (fun q => absurd e q)
  · rw [if_neg e, zck_nI (by omega) (by omega), Option.bind_some, nI_clamp (by omega), hacc e]
    refine key _ ?_ (fun _ => (sAc_succ b s).symm)
    unfold sCol
    rw [if_neg e, ← sAc_succ]
    rfl
theorem r_layNone (D : zD) : zok (fn_X12_layNone D) fun E => (∀ b, b < 8 → gI E 204 b = 0) ∧ agL pY D E := by
  refine z_inv 8 (fun n i (E : zD) => fn_X12_layNone_2 n (nI i) E) (fun i E => (∀ b, b < i → gI E 204 b = 0) ∧ agL pY D E) _ ?_ ?_ 0 zFU D (by omega) (zfu_gt (by omega)) ⟨fun b hb => by omega, agL.refl⟩
  · intro n i E hi ⟨g1, g2⟩ ih
    show zok (fn_X12_layNone_2 (n + 1) (nI i) E) _
    rw [fn_X12_layNone_2]
    simp (disch := omega) only [Option.bind_some, Option.map_some, zlet_eq, ↓reduceIte, L_2, L_3, L_4, L_5, L_6, L_7, L_8, L_9, L_10, L_12, L_13, L_20, L_24, L_25, L_26, L_27, L_30, L_32, L_33, L_34, L_40, L_48, L_57, L_58, L_60, L_64, L_90, L_93, L_97, L_99, L_100, L_122, L_144, L_255, L_364, L_480, L_500, L_800, L_1000, L_100000, L_4096, L_1023, L_1024, nLe, nLt, nEq, nI_1, nI_add, pk_mul, nSn, nDn, nCl, zck_nI, zdv_nI, nNeg, nLe0, n0Lt, nEq0, nM1, m1N, m1Lt, nLm1, zcb_0, zcb_1, i10, i01, nEq1, n1Eq, nLt1, gI_eq, gI_nb, gI_na, x_badF, x_badT1, x_badT2, bt_0, bt_1, bit1_u, Bool.true_eq_false, Bool.false_eq_true, eq_self, Int32.or_zero, L_11, L_14, L_15, L_16, L_17, L_18, L_19, L_21, L_22, L_23, L_28, L_29, if_pos, if_neg]
    exact ih _ ⟨fun b hb => by
      by_cases q : b = i
      · subst q; exact gI_eq
      · rw [gI_nb q]; exact g1 b (by omega), agL_sI g2 (by unfold pY; omega)⟩
  · intro n E hE
    show zok (fn_X12_layNone_2 (n + 1) (nI 8) E) _
    rw [fn_X12_layNone_2]
    simp (disch := omega) only [Option.bind_some, Option.map_some, zlet_eq, ↓reduceIte, L_2, L_3, L_4, L_5, L_6, L_7, L_8, L_9, L_10, L_12, L_13, L_20, L_24, L_25, L_26, L_27, L_30, L_32, L_33, L_34, L_40, L_48, L_57, L_58, L_60, L_64, L_90, L_93, L_97, L_99, L_100, L_122, L_144, L_255, L_364, L_480, L_500, L_800, L_1000, L_100000, L_4096, L_1023, L_1024, nLe, nLt, nEq, nI_1, nI_add, pk_mul, nSn, nDn, nCl, zck_nI, zdv_nI, nNeg, nLe0, n0Lt, nEq0, nM1, m1N, m1Lt, nLm1, zcb_0, zcb_1, i10, i01, nEq1, n1Eq, nLt1, gI_eq, gI_nb, gI_na, x_badF, x_badT1, x_badT2, bt_0, bt_1, bit1_u, Bool.true_eq_false, Bool.false_eq_true, eq_self, Int32.or_zero, L_11, L_14, L_15, L_16, L_17, L_18, L_19, L_21, L_22, L_23, L_28, L_29, if_pos, if_neg, zok_some]
    exact hE
theorem r_known (h : iv P D) {b : Nat} (hb7 : b < P 7) (so : Int32) (h0 : gI D 204 b = 0) : zok (fn_X12_known_34 (nI b) so zFU 0 D) fun r => r.1 = (sFst fun s => sKb P D so b s) ∧ agL pY D r.2 := by
  have hP := h.1.2.2.1.1.2.2
  obtain ⟨sg, hsg, _, _, _, f170⟩ := iv_st h hb7
  have hsg12 : sg < 12 := by
    have := h.1.1.1.2.2.2.2.1
    omega
  refine z_inv 100 (fun n i (E : zD) => fn_X12_known_34 (nI b) so n (nI i) E) (fun i E => agL pY D E ∧ (so ≠ 0 → gI E 204 b = sAc P D b i) ∧ ∀ k, k < i → sKb P D so b k = false) _ ?_ ?_ 0 zFU D (by omega) (zfu_gt (by omega)) ⟨agL.refl, fun _ => h0, fun k hk => by omega⟩
  · intro n i E hi ⟨g1, g2, g3⟩ ih
    show zok (fn_X12_known_34 (nI b) so (n + 1) (nI i) E) _
    rw [fn_X12_known_34]
    simp (disch := omega) only [Option.bind_some, Option.map_some, zlet_eq, ↓reduceIte, L_2, L_3, L_4, L_5, L_6, L_7, L_8, L_9, L_10, L_12, L_13, L_20, L_24, L_25, L_26, L_27, L_30, L_32, L_33, L_34, L_40, L_48, L_57, L_58, L_60, L_64, L_90, L_93, L_97, L_99, L_100, L_122, L_144, L_255, L_364, L_480, L_500, L_800, L_1000, L_100000, L_4096, L_1023, L_1024, nLe, nLt, nEq, nI_1, nI_add, pk_mul, nSn, nDn, nCl, zck_nI, zdv_nI, nNeg, nLe0, n0Lt, nEq0, nM1, m1N, m1Lt, nLm1, zcb_0, zcb_1, i10, i01, nEq1, n1Eq, nLt1, gI_eq, gI_nb, gI_na, x_badF, x_badT1, x_badT2, bt_0, bt_1, bit1_u, Bool.true_eq_false, Bool.false_eq_true, eq_self, Int32.or_zero, L_11, L_14, L_15, L_16, L_17, L_18, L_19, L_21, L_22, L_23, L_28, L_29, if_pos, if_neg]
    refine (r_guessNow (pY_iv h g1) hb7 hi so (fun q => by rw [sAc_cong hP g1 hb7]; exact g2 q)).bind fun q ⟨e1, e2, e3, e4⟩ => ?_
    rw [sGu_Y hP g1 hb7] at e1
    rw [sAc_cong hP g1 hb7] at e2
    have e5 : gI q.2 (170 + b) 0 = nI sg := by rw [e4.1 _ _ (by unfold pY; omega), g1.1 _ _ (by unfold pY; omega), f170]
    simp (disch := omega) only [Option.bind_some, Option.map_some, zlet_eq, ↓reduceIte, L_2, L_3, L_4, L_5, L_6, L_7, L_8, L_9, L_10, L_12, L_13, L_20, L_24, L_25, L_26, L_27, L_30, L_32, L_33, L_34, L_40, L_48, L_57, L_58, L_60, L_64, L_90, L_93, L_97, L_99, L_100, L_122, L_144, L_255, L_364, L_480, L_500, L_800, L_1000, L_100000, L_4096, L_1023, L_1024, nLe, nLt, nEq, nI_1, nI_add, pk_mul, nSn, nDn, nCl, zck_nI, zdv_nI, nNeg, nLe0, n0Lt, nEq0, nM1, m1N, m1Lt, nLm1, zcb_0, zcb_1, i10, i01, nEq1, n1Eq, nLt1, gI_eq, gI_nb, gI_na, x_badF, x_badT1, x_badT2, bt_0, bt_1, bit1_u, Bool.true_eq_false, Bool.false_eq_true, eq_self, Int32.or_zero, L_11, L_14, L_15, L_16, L_17, L_18, L_19, L_21, L_22, L_23, L_28, L_29, if_pos, if_neg, e5]
    rw [e1]
    have hK : sKb P D so b i = decide (sGu P D so b i = bit1 sg) := by unfold sKb; rw [f170, un_nI (by omega)]
    by_cases g : sGu P D so b i = bit1 sg
    · rw [if_pos g, zok_some]
      exact ⟨by rw [sFst_at hi (by rw [hK]; exact decide_eq_true g) g3], g1.trans e4⟩
    · rw [if_neg g]
      exact ih _ ⟨g1.trans e4, e2, fun k hk => by
        by_cases q : k = i
        · subst q; rw [hK]; exact decide_eq_false g
        · exact g3 k (by omega)⟩
  · intro n E ⟨g1, g2, g3⟩
    show zok (fn_X12_known_34 (nI b) so (n + 1) (nI 100) E) _
    rw [fn_X12_known_34]
    simp (disch := omega) only [Option.bind_some, Option.map_some, zlet_eq, ↓reduceIte, L_2, L_3, L_4, L_5, L_6, L_7, L_8, L_9, L_10, L_12, L_13, L_20, L_24, L_25, L_26, L_27, L_30, L_32, L_33, L_34, L_40, L_48, L_57, L_58, L_60, L_64, L_90, L_93, L_97, L_99, L_100, L_122, L_144, L_255, L_364, L_480, L_500, L_800, L_1000, L_100000, L_4096, L_1023, L_1024, nLe, nLt, nEq, nI_1, nI_add, pk_mul, nSn, nDn, nCl, zck_nI, zdv_nI, nNeg, nLe0, n0Lt, nEq0, nM1, m1N, m1Lt, nLm1, zcb_0, zcb_1, i10, i01, nEq1, n1Eq, nLt1, gI_eq, gI_nb, gI_na, x_badF, x_badT1, x_badT2, bt_0, bt_1, bit1_u, Bool.true_eq_false, Bool.false_eq_true, eq_self, Int32.or_zero, L_11, L_14, L_15, L_16, L_17, L_18, L_19, L_21, L_22, L_23, L_28, L_29, if_pos, if_neg, zok_some]
    exact ⟨by rw [sFst_no g3], g1⟩
theorem tk_known (h : iv P D) (v so : Int32) : twin (wk1 2) (fn_X11_known v so D) (fn_X12_known v so) := by
  have h' := h
  obtain ⟨⟨⟨hb, ⟨a0, a1, a2, a3⟩, ⟨b0, b1, b2, b3⟩, hs, hw⟩, ⟨hc, c1, c2, hcv⟩, ⟨hd, ⟨z0, z1, z2⟩, ⟨y0, y1, y2⟩, hp, ht⟩, ⟨hi, i0, i1, him⟩, ⟨hta, ta0, ta1, hpl, htb⟩⟩, hK, hO⟩ := h
  replace y0 : gI _ 102 34 = nI (P 5) := y0
  replace y1 : gI _ 102 35 = nI (P 6) := y1
  replace y2 : gI _ 102 36 = nI (P 7) := y2
  unfold fn_X11_known
  rcases x_inN (v := v) (n := P 7) (by omega) with ⟨e, g⟩ | ⟨e, j, hj, rfl⟩
  · refine twin_tt h' (e := 2) (t := 1) rfl (by decide) (by rw [c_stand1 z2 g]; rfl) fun E hE he => ?_
    rw [gE he] at y2
    unfold fn_X12_known fn_X12_known_19 fn_X12_isStanding
    simp (disch := omega) only [Option.bind_some, Option.map_some, zlet_eq, ↓reduceIte, L_2, L_3, L_4, L_5, L_6, L_7, L_8, L_9, L_10, L_12, L_13, L_20, L_24, L_25, L_26, L_27, L_30, L_32, L_33, L_34, L_40, L_48, L_57, L_58, L_60, L_64, L_90, L_93, L_97, L_99, L_100, L_122, L_144, L_255, L_364, L_480, L_500, L_800, L_1000, L_100000, L_4096, L_1023, L_1024, nLe, nLt, nEq, nI_1, nI_add, pk_mul, nSn, nDn, nCl, zck_nI, zdv_nI, nNeg, nLe0, n0Lt, nEq0, nM1, m1N, m1Lt, nLm1, zcb_0, zcb_1, i10, i01, nEq1, n1Eq, nLt1, gI_eq, gI_nb, gI_na, x_badF, x_badT1, x_badT2, bt_0, bt_1, bit1_u, Bool.true_eq_false, Bool.false_eq_true, eq_self, Int32.or_zero, L_11, L_14, L_15, L_16, L_17, L_18, L_19, L_21, L_22, L_23, L_28, L_29, if_pos, if_neg, y2, e]
  · rw [c_standJ z2 (by omega) hj, Option.bind_some, if_pos rfl]
    refine (c_known h' hj so).mono fun q ⟨e3, e4, e5⟩ => fun E hE => ?_
    have hiE := (e4.int hE).thr 0
    have hg : ag pX D E := fun a b p => by rw [← e5 a b p]; show E.2 a b = _; rw [hE]; rfl
    have y2' : gI E 102 36 = nI (P 7) := by rw [hg _ _ (by unfold pX; omega), y2]
    unfold fn_X12_known fn_X12_known_19 fn_X12_isStanding
    simp (disch := omega) only [Option.bind_some, Option.map_some, zlet_eq, ↓reduceIte, L_2, L_3, L_4, L_5, L_6, L_7, L_8, L_9, L_10, L_12, L_13, L_20, L_24, L_25, L_26, L_27, L_30, L_32, L_33, L_34, L_40, L_48, L_57, L_58, L_60, L_64, L_90, L_93, L_97, L_99, L_100, L_122, L_144, L_255, L_364, L_480, L_500, L_800, L_1000, L_100000, L_4096, L_1023, L_1024, nLe, nLt, nEq, nI_1, nI_add, pk_mul, nSn, nDn, nCl, zck_nI, zdv_nI, nNeg, nLe0, n0Lt, nEq0, nM1, m1N, m1Lt, nLm1, zcb_0, zcb_1, i10, i01, nEq1, n1Eq, nLt1, gI_eq, gI_nb, gI_na, x_badF, x_badT1, x_badT2, bt_0, bt_1, bit1_u, Bool.true_eq_false, Bool.false_eq_true, eq_self, Int32.or_zero, L_11, L_14, L_15, L_16, L_17, L_18, L_19, L_21, L_22, L_23, L_28, L_29, if_pos, if_neg, y2', e]
    refine (r_layNone _).bind fun F ⟨f1, f2⟩ => ?_
    refine (r_known (pY_iv hiE f2) hj so (f1 j (by omega))).mono fun r ⟨k1, k2⟩ => ?_
    have hgF : ∀ a b, a ≠ 204 → a ≠ 102 → (a < 98 ∨ 100 < a) → gI F a b = gI D a b := fun a b q1 q2 q3 => by rw [f2.1 _ _ (by unfold pY; omega), gI_na q2]; exact hg _ _ (by unfold pX; omega)
    have hKK : (sFst fun s => sKb P F so j s) = (sFst fun s => sKb P D so j s) := by
      congr 1
      funext s
      unfold sKb
      rw [sGu_cong' hj (fun o ho => ⟨hgF _ _ (by omega) (by omega) (by omega), hgF _ _ (by omega) (by omega) (by omega)⟩) (funext fun b => hgF _ _ (by omega) (by omega) (by omega)) so s (hgF _ _ (by omega) (by omega) (by omega)), hgF (170 + j) 0 (by omega) (by omega) (by omega)]
    rw [hKK] at k1
    refine ⟨⟨P, pY_iv (pY_iv hiE f2) k2⟩, ?_, ?_⟩
    · rw [e3]
      exact ⟨by rw [k2.1 _ _ (by unfold pY; omega), f2.1 _ _ (by unfold pY; omega), gI_eq], k1⟩
    · rw [k2.l, f2.l]; rfl
end M64
