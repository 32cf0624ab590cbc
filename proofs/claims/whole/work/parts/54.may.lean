/-! THE MATHEMATICS: parts; what they may be -/
theorem x_isPaint {w h : Nat} (hw : w ≤ 6) (hh : h ≤ 5) (v : Int32) : (¬ un v < 2 ^ (w * h) ∧ ∀ D, gI D 102 14 = nI w → gI D 102 15 = nI h → fn_X12_isPaint v D = some 0) ∨ (un v < 2 ^ (w * h) ∧ ∀ D, gI D 102 14 = nI w → gI D 102 15 = nI h → fn_X12_isPaint v D = some 1) := by
  have hc := wh_le hw hh
  have hp : 2 ^ (w * h) ≤ 2 ^ 30 := Nat.pow_le_pow_right (by decide) hc
  have h0 := Nat.two_pow_pos (w * h)
  rcases x_inK (v := v) (n := 2 ^ (w * h) - 1) (by omega) with ⟨e, g⟩ | ⟨e, j, hj, rfl⟩
  · left
    refine ⟨fun q => ?_, fun D d0 d1 => ?_⟩
    · rw [← nI_un v] at g
      rcases g with g | g
      · exact nI_pos (by omega) g
      · rw [nI_leI (by omega) (by omega)] at g; omega
    · unfold fn_X12_isPaint
      rw [x_allCells d0 d1 hw hh, Option.bind_some, e]
      rfl
  · right
    refine ⟨by rw [un_nI (by omega)]; omega, fun D d0 d1 => ?_⟩
    unfold fn_X12_isPaint
    rw [x_allCells d0 d1 hw hh, Option.bind_some, e]
    rfl
theorem c_part1 {D : zD} {n : Nat} (h : gI D 20 1 = nI n) {v u : Int32} (g : v < 0 ∨ nI n ≤ v) : fn_X11_needPart v u D = some 2 := by
  unfold fn_X11_needPart
  rw [c_needCover h g]
  rfl
theorem c_part2 {D : zD} {n w k : Nat} (h : gI D 20 1 = nI n) (hn : n ≤ 500) (h0 : gI D 3 0 = nI w) (h1 : gI D 3 1 = nI k) (hw : w ≤ 6) (hh : k ≤ 5) {j : Nat} {u : Int32} (g : j < n) (hu : ¬ un u < 2 ^ (w * k)) : fn_X11_needPart (nI j) u D = some 1 := by
  have hc := wh_le hw hh
  unfold fn_X11_needPart
  rw [c_needCoverJ h g hn, Option.bind_some, if_pos rfl, c_board h0 h1 hw hh, Option.bind_some, if_neg]
  rw [c_pt (by omega)]
  exact hu
theorem c_part3 {D : zD} {n w k : Nat} (h : gI D 20 1 = nI n) (hn : n ≤ 500) (h0 : gI D 3 0 = nI w) (h1 : gI D 3 1 = nI k) (hw : w ≤ 6) (hh : k ≤ 5) {j : Nat} {u : Int32} (g : j < n) (hu : un u < 2 ^ (w * k)) : fn_X11_needPart (nI j) u D = some 0 := by
  have hc := wh_le hw hh
  unfold fn_X11_needPart
  rw [c_needCoverJ h g hn, Option.bind_some, if_pos rfl, c_board h0 h1 hw hh, Option.bind_some, if_pos]
  rw [c_pt (by omega)]
  exact hu
theorem t_may {D : zD} {P : Nat → Nat} (h : iv P D) (v u : Int32) : twin (wk2 2 1) (wP D (fn_X11_may v u D)) (fn_X12_may v u) := by
  have h' := h
  obtain ⟨⟨⟨hb, ⟨a0, a1, a2, a3⟩, ⟨b0, b1, b2, b3⟩, hs, hw⟩, ⟨hc, c1, c2, hcv⟩, ⟨hd, ⟨z0, z1, z2⟩, ⟨y0, y1, y2⟩, hp, ht⟩, ⟨hi, i0, i1, him⟩, ⟨hta, ta0, ta1, hpl, htb⟩⟩, hK, hO⟩ := h
  replace y0 : gI _ 102 34 = nI (P 5) := y0
  replace y1 : gI _ 102 35 = nI (P 6) := y1
  replace y2 : gI _ 102 36 = nI (P 7) := y2
  unfold fn_X11_may
  rcases x_inN (v := v) (n := P 4) (by omega) with ⟨e, g⟩ | ⟨e, j, hj, rfl⟩
  · refine twin_t h' (e := 2) (t := 1) rfl (by decide) (by rw [c_part1 c1 g]; rfl) fun E hE he => ?_
    rw [gE he] at c2
    unfold fn_X12_may fn_X12_may_19 fn_X12_isCover
    simp (disch := omega) only [Option.bind_some, Option.map_some, zlet_eq, ↓reduceIte, L_2, L_3, L_4, L_5, L_6, L_7, L_8, L_9, L_10, L_12, L_13, L_20, L_24, L_25, L_26, L_27, L_30, L_32, L_33, L_34, L_40, L_48, L_57, L_58, L_60, L_64, L_90, L_93, L_97, L_99, L_100, L_122, L_144, L_255, L_364, L_480, L_500, L_800, L_1000, L_100000, L_4096, L_1023, L_1024, nLe, nLt, nEq, nI_1, nI_add, pk_mul, nSn, nDn, nCl, zck_nI, zdv_nI, nNeg, nLe0, n0Lt, nEq0, nM1, m1N, m1Lt, nLm1, zcb_0, zcb_1, i10, i01, nEq1, n1Eq, nLt1, gI_eq, gI_nb, gI_na, x_badF, x_badT1, x_badT2, bt_0, bt_1, bit1_u, Bool.true_eq_false, Bool.false_eq_true, eq_self, Int32.or_zero, if_pos, if_neg, c2, e]
  · rcases x_isPaint (w := P 0) (h := P 1) (by omega) (by omega) u with ⟨g, q⟩ | ⟨g, q⟩
    · refine twin_t h' (e := 1) (t := 2) rfl (by decide) (by rw [c_part2 c1 (by omega) a0 a1 (by omega) (by omega) hj g]; rfl) fun E hE he => ?_
      rw [gE he] at c2 b0 b1
      have q := q (sI E 102 0 0) ((gI_nb (by omega)).trans b0) ((gI_nb (by omega)).trans b1)
      unfold fn_X12_may fn_X12_may_19 fn_X12_may_40 fn_X12_isCover
      simp (disch := omega) only [Option.bind_some, Option.map_some, zlet_eq, ↓reduceIte, L_2, L_3, L_4, L_5, L_6, L_7, L_8, L_9, L_10, L_12, L_13, L_20, L_24, L_25, L_26, L_27, L_30, L_32, L_33, L_34, L_40, L_48, L_57, L_58, L_60, L_64, L_90, L_93, L_97, L_99, L_100, L_122, L_144, L_255, L_364, L_480, L_500, L_800, L_1000, L_100000, L_4096, L_1023, L_1024, nLe, nLt, nEq, nI_1, nI_add, pk_mul, nSn, nDn, nCl, zck_nI, zdv_nI, nNeg, nLe0, n0Lt, nEq0, nM1, m1N, m1Lt, nLm1, zcb_0, zcb_1, i10, i01, nEq1, n1Eq, nLt1, gI_eq, gI_nb, gI_na, x_badF, x_badT1, x_badT2, bt_0, bt_1, bit1_u, Bool.true_eq_false, Bool.false_eq_true, eq_self, Int32.or_zero, if_pos, if_neg, c2, e, q]
    · refine twin_v h' (v := sMay (P 2) (gI D 4) (gI D 21 j) u (P 5)) ?_ fun E hE he => ?_
      · rw [c_part3 c1 (by omega) a0 a1 (by omega) (by omega) hj g, Option.bind_some, if_pos rfl, v_at c1 hj (by omega), Option.bind_some, z0, c_within a2 (by omega) _ _ (by omega)]
        rfl
      · rw [sMay_cong fun s hs' => (hs s hs').1, (hcv j hj).1]
        rw [gE he] at c2 b0 b1 b2 y0
        have q := q (sI E 102 0 0) ((gI_nb (by omega)).trans b0) ((gI_nb (by omega)).trans b1)
        have m := r_mayBe (D := sI E 102 0 0) (ns := P 2) ((gI_nb (by omega)).trans b2) (by omega) (d := P 5) (by omega) ((gI_nb (by omega)).trans y0) (gI E 128 j) u
        rw [gIf (by omega)] at m
        rw [show gI D 105 = gI E 105 from funext fun b => gE he 105 b, gE he 128 j]
        unfold fn_X12_may fn_X12_may_19 fn_X12_may_40 fn_X12_isCover
        simp (disch := omega) only [Option.bind_some, Option.map_some, zlet_eq, ↓reduceIte, L_2, L_3, L_4, L_5, L_6, L_7, L_8, L_9, L_10, L_12, L_13, L_20, L_24, L_25, L_26, L_27, L_30, L_32, L_33, L_34, L_40, L_48, L_57, L_58, L_60, L_64, L_90, L_93, L_97, L_99, L_100, L_122, L_144, L_255, L_364, L_480, L_500, L_800, L_1000, L_100000, L_4096, L_1023, L_1024, nLe, nLt, nEq, nI_1, nI_add, pk_mul, nSn, nDn, nCl, zck_nI, zdv_nI, nNeg, nLe0, n0Lt, nEq0, nM1, m1N, m1Lt, nLm1, zcb_0, zcb_1, i10, i01, nEq1, n1Eq, nLt1, gI_eq, gI_nb, gI_na, x_badF, x_badT1, x_badT2, bt_0, bt_1, bit1_u, Bool.true_eq_false, Bool.false_eq_true, eq_self, Int32.or_zero, if_pos, if_neg, c2, e, q, m]
/-- the one bit -/
def sOnly (x : Int32) : Int32 := if pc x = 1 then nI (zff (bt x) 32 0) else -1
theorem pc_pos {x : Int32} (h : pc x = 1) : ∃ k, k < 32 ∧ bt x k = true ∧ (∀ i, i < k → bt x i = false) ∧ zff (bt x) 32 0 = k := by
  obtain ⟨i, hi, hb⟩ := fb_ct_pos.mp (show 0 < fb_ct (bt x) 32 by unfold pc at h; omega)
  obtain ⟨k, hk, h1, h2⟩ := fb_first (p := fun i => bt x i = true) ⟨i, hi, hb⟩
  have h3 : ∀ i, i < k → bt x i = false := fun i hi => by simpa using h2 i hi
  exact ⟨k, hk, h1, h3, zff_one (by omega) (by omega) h1 fun j _ hj => h3 j hj⟩
theorem c_onlyOne (x : Int32) : fn_X11_onlyOne x = some (sOnly x) := by
  unfold fn_X11_onlyOne sOnly
  have := pc_le x
  rw [pc_bit, Option.bind_some]
  by_cases h : pc x = 1
  · obtain ⟨k, hk, h1, h2, h3⟩ := pc_pos h
    rw [if_pos ((nEq1 _ (by omega)).mpr h), if_pos h, h3, z_lowestOf hk h1 h2]
    rfl
  · rw [if_neg (fun q => h ((nEq1 _ (by omega)).mp q)), if_neg h]
theorem x_only (x : Int32) : fn_X12_only x = some (sOnly x) := by
  unfold fn_X12_only sOnly
  have := pc_le x
  rw [z_ones, Option.bind_some]
  by_cases h : pc x = 1
  · obtain ⟨k, hk, h1, h2, h3⟩ := pc_pos h
    rw [if_pos ((nEq1 _ (by omega)).mpr h), if_pos h, h3]
    refine z_for k (fun n i (_ : Unit) => fn_X12_only_12 x n (nI i)) (fun _ s => s) (fun _ => some (nI k)) ?_ ?_ 0 zFU () (Nat.zero_le _) (zfu_gt (by omega))
    · intro n i s hi
      show fn_X12_only_12 x (n + 1) (nI i) = fn_X12_only_12 x n (nI (i + 1))
      rw [fn_X12_only_12]
      simp (disch := omega) only [Option.bind_some, Option.map_some, zlet_eq, ↓reduceIte, L_2, L_3, L_4, L_5, L_6, L_7, L_8, L_9, L_10, L_12, L_13, L_20, L_24, L_25, L_26, L_27, L_30, L_32, L_33, L_34, L_40, L_48, L_57, L_58, L_60, L_64, L_90, L_93, L_97, L_99, L_100, L_122, L_144, L_255, L_364, L_480, L_500, L_800, L_1000, L_100000, L_4096, L_1023, L_1024, nLe, nLt, nEq, nI_1, nI_add, pk_mul, nSn, nDn, nCl, zck_nI, zdv_nI, nNeg, nLe0, n0Lt, nEq0, nM1, m1N, m1Lt, nLm1, zcb_0, zcb_1, i10, i01, nEq1, n1Eq, nLt1, gI_eq, gI_nb, gI_na, x_badF, x_badT1, x_badT2, bt_0, bt_1, bit1_u, Bool.true_eq_false, Bool.false_eq_true, eq_self, Int32.or_zero, if_pos, if_neg, h2 i hi]
    · intro n s
      show fn_X12_only_12 x (n + 1) (nI k) = _
      rw [fn_X12_only_12]
      simp (disch := omega) only [Option.bind_some, Option.map_some, zlet_eq, ↓reduceIte, L_2, L_3, L_4, L_5, L_6, L_7, L_8, L_9, L_10, L_12, L_13, L_20, L_24, L_25, L_26, L_27, L_30, L_32, L_33, L_34, L_40, L_48, L_57, L_58, L_60, L_64, L_90, L_93, L_97, L_99, L_100, L_122, L_144, L_255, L_364, L_480, L_500, L_800, L_1000, L_100000, L_4096, L_1023, L_1024, nLe, nLt, nEq, nI_1, nI_add, pk_mul, nSn, nDn, nCl, zck_nI, zdv_nI, nNeg, nLe0, n0Lt, nEq0, nM1, m1N, m1Lt, nLm1, zcb_0, zcb_1, i10, i01, nEq1, n1Eq, nLt1, gI_eq, gI_nb, gI_na, x_badF, x_badT1, x_badT2, bt_0, bt_1, bit1_u, Bool.true_eq_false, Bool.false_eq_true, eq_self, Int32.or_zero, if_pos, if_neg, h1]
  · rw [if_neg (fun q => h ((nEq1 _ (by omega)).mp q)), if_neg h]
theorem t_read {D : zD} {P : Nat → Nat} (h : iv P D) (v u : Int32) : twin (wk2 2 1) (wP D (fn_X11_read v u D)) (fn_X12_read v u) := by
  have h' := h
  obtain ⟨⟨⟨hb, ⟨a0, a1, a2, a3⟩, ⟨b0, b1, b2, b3⟩, hs, hw⟩, ⟨hc, c1, c2, hcv⟩, ⟨hd, ⟨z0, z1, z2⟩, ⟨y0, y1, y2⟩, hp, ht⟩, ⟨hi, i0, i1, him⟩, ⟨hta, ta0, ta1, hpl, htb⟩⟩, hK, hO⟩ := h
  replace y0 : gI _ 102 34 = nI (P 5) := y0
  replace y1 : gI _ 102 35 = nI (P 6) := y1
  replace y2 : gI _ 102 36 = nI (P 7) := y2
  unfold fn_X11_read
  rcases x_inN (v := v) (n := P 4) (by omega) with ⟨e, g⟩ | ⟨e, j, hj, rfl⟩
  · refine twin_t h' (e := 2) (t := 1) rfl (by decide) (by rw [c_part1 c1 g]; rfl) fun E hE he => ?_
    rw [gE he] at c2
    unfold fn_X12_read fn_X12_read_19 fn_X12_isCover
    simp (disch := omega) only [Option.bind_some, Option.map_some, zlet_eq, ↓reduceIte, L_2, L_3, L_4, L_5, L_6, L_7, L_8, L_9, L_10, L_12, L_13, L_20, L_24, L_25, L_26, L_27, L_30, L_32, L_33, L_34, L_40, L_48, L_57, L_58, L_60, L_64, L_90, L_93, L_97, L_99, L_100, L_122, L_144, L_255, L_364, L_480, L_500, L_800, L_1000, L_100000, L_4096, L_1023, L_1024, nLe, nLt, nEq, nI_1, nI_add, pk_mul, nSn, nDn, nCl, zck_nI, zdv_nI, nNeg, nLe0, n0Lt, nEq0, nM1, m1N, m1Lt, nLm1, zcb_0, zcb_1, i10, i01, nEq1, n1Eq, nLt1, gI_eq, gI_nb, gI_na, x_badF, x_badT1, x_badT2, bt_0, bt_1, bit1_u, Bool.true_eq_false, Bool.false_eq_true, eq_self, Int32.or_zero, if_pos, if_neg, c2, e]
  · rcases x_isPaint (w := P 0) (h := P 1) (by omega) (by omega) u with ⟨g, q⟩ | ⟨g, q⟩
    · refine twin_t h' (e := 1) (t := 2) rfl (by decide) (by rw [c_part2 c1 (by omega) a0 a1 (by omega) (by omega) hj g]; rfl) fun E hE he => ?_
      rw [gE he] at c2 b0 b1
      have q := q (sI E 102 0 0) ((gI_nb (by omega)).trans b0) ((gI_nb (by omega)).trans b1)
      unfold fn_X12_read fn_X12_read_19 fn_X12_read_40 fn_X12_isCover
      simp (disch := omega) only [Option.bind_some, Option.map_some, zlet_eq, ↓reduceIte, L_2, L_3, L_4, L_5, L_6, L_7, L_8, L_9, L_10, L_12, L_13, L_20, L_24, L_25, L_26, L_27, L_30, L_32, L_33, L_34, L_40, L_48, L_57, L_58, L_60, L_64, L_90, L_93, L_97, L_99, L_100, L_122, L_144, L_255, L_364, L_480, L_500, L_800, L_1000, L_100000, L_4096, L_1023, L_1024, nLe, nLt, nEq, nI_1, nI_add, pk_mul, nSn, nDn, nCl, zck_nI, zdv_nI, nNeg, nLe0, n0Lt, nEq0, nM1, m1N, m1Lt, nLm1, zcb_0, zcb_1, i10, i01, nEq1, n1Eq, nLt1, gI_eq, gI_nb, gI_na, x_badF, x_badT1, x_badT2, bt_0, bt_1, bit1_u, Bool.true_eq_false, Bool.false_eq_true, eq_self, Int32.or_zero, if_pos, if_neg, c2, e, q]
    · refine twin_v h' (v := sOnly (sMay (P 2) (gI D 4) (gI D 21 j) u (P 5))) ?_ fun E hE he => ?_
      · rw [c_part3 c1 (by omega) a0 a1 (by omega) (by omega) hj g, Option.bind_some, if_pos rfl, v_at c1 hj (by omega), Option.bind_some, z0, c_within a2 (by omega) _ _ (by omega), Option.bind_some, c_onlyOne]
        rfl
      · rw [sMay_cong fun s hs' => (hs s hs').1, (hcv j hj).1]
        rw [gE he] at c2 b0 b1 b2 y0
        have q := q (sI E 102 0 0) ((gI_nb (by omega)).trans b0) ((gI_nb (by omega)).trans b1)
        have m := r_mayBe (D := sI E 102 0 0) (ns := P 2) ((gI_nb (by omega)).trans b2) (by omega) (d := P 5) (by omega) ((gI_nb (by omega)).trans y0) (gI E 128 j) u
        rw [gIf (by omega)] at m
        rw [show gI D 105 = gI E 105 from funext fun b => gE he 105 b, gE he 128 j]
        unfold fn_X12_read fn_X12_read_19 fn_X12_read_40 fn_X12_isCover
        simp (disch := omega) only [Option.bind_some, Option.map_some, zlet_eq, ↓reduceIte, L_2, L_3, L_4, L_5, L_6, L_7, L_8, L_9, L_10, L_12, L_13, L_20, L_24, L_25, L_26, L_27, L_30, L_32, L_33, L_34, L_40, L_48, L_57, L_58, L_60, L_64, L_90, L_93, L_97, L_99, L_100, L_122, L_144, L_255, L_364, L_480, L_500, L_800, L_1000, L_100000, L_4096, L_1023, L_1024, nLe, nLt, nEq, nI_1, nI_add, pk_mul, nSn, nDn, nCl, zck_nI, zdv_nI, nNeg, nLe0, n0Lt, nEq0, nM1, m1N, m1Lt, nLm1, zcb_0, zcb_1, i10, i01, nEq1, n1Eq, nLt1, gI_eq, gI_nb, gI_na, x_badF, x_badT1, x_badT2, bt_0, bt_1, bit1_u, Bool.true_eq_false, Bool.false_eq_true, eq_self, Int32.or_zero, if_pos, if_neg, c2, e, q, m, x_only]
/-- nearest: the fold with 31 ahead -/
def fNear (pt : Nat → Int32) (hid p : Int32) (k : Nat) (b : Int32 × Nat) : Int32 × Nat := if pc ((p ^^^ pt k) &&& (hid ^^^ -1)) < b.2 then (nI k, pc ((p ^^^ pt k) &&& (hid ^^^ -1))) else b
def sNea (ns : Nat) (pt : Nat → Int32) (hid p : Int32) : Int32 × Nat := zfo (fNear pt hid p) ns 0 (-1, 31)
theorem sNea_cong {ns : Nat} {pt qt : Nat → Int32} {hid p : Int32} (h : ∀ s, s < ns → pt s = qt s) : sNea ns pt hid p = sNea ns qt hid p := zfo_cong fun k s _ h2 => by unfold fNear; rw [h k (by omega)]
theorem c_likest {D : zD} {a ns : Nat} (h : gI D a 2 = nI ns) (hn : ns ≤ 12) (hid p : Int32) : fn_X0_likest a hid p D = some (sNea ns (gI D (a + 1)) hid p).1 := by
  have key : ∀ i n (s : Int32 × Nat), s.2 ≤ 32 → i ≤ ns → ns - i < n → fn_X0_likest_9 a hid p D n s.1 (nI s.2) (nI i) = some (zfo (fNear (gI D (a + 1)) hid p) (ns - i) i s).1 := by
    intro i n s hs h1 h2
    refine (z_inv ns (fun n i (s : Int32 × Nat) => fn_X0_likest_9 a hid p D n s.1 (nI s.2) (nI i)) (fun j t => t.2 ≤ 32 ∧ zfo (fNear (gI D (a + 1)) hid p) (ns - i) i s = zfo (fNear (gI D (a + 1)) hid p) (ns - j) j t) _ ?_ ?_ i n s h1 h2 ⟨hs, rfl⟩).eq
    · rintro n j ⟨x, c⟩ hj ⟨hc, e⟩ ih
      have hb := pc_le ((p ^^^ gI D (a + 1) j) &&& (hid ^^^ -1))
      rw [show ns - j = (ns - (j + 1)) + 1 by omega, zfo] at e
      show zok (fn_X0_likest_9 a hid p D (n + 1) x (nI c) (nI j)) _
      have hc' : c ≤ 32 := hc
      rw [fn_X0_likest_9, h, v_paint h hj hn]
      unfold fNear at e
      by_cases g : pc ((p ^^^ gI D (a + 1) j) &&& (hid ^^^ -1)) < c
      · simp (disch := omega) only [Option.bind_some, Option.map_some, zlet_eq, ↓reduceIte, L_2, L_3, L_4, L_5, L_6, L_7, L_8, L_9, L_10, L_12, L_13, L_20, L_24, L_25, L_26, L_27, L_30, L_32, L_33, L_34, L_40, L_48, L_57, L_58, L_60, L_64, L_90, L_93, L_97, L_99, L_100, L_122, L_144, L_255, L_364, L_480, L_500, L_800, L_1000, L_100000, L_4096, L_1023, L_1024, nLe, nLt, nEq, nI_1, nI_add, pk_mul, nSn, nDn, nCl, zck_nI, zdv_nI, nNeg, nLe0, n0Lt, nEq0, nM1, m1N, m1Lt, nLm1, zcb_0, zcb_1, i10, i01, nEq1, n1Eq, nLt1, gI_eq, gI_nb, gI_na, x_badF, x_badT1, x_badT2, bt_0, bt_1, bit1_u, Bool.true_eq_false, Bool.false_eq_true, eq_self, Int32.or_zero, if_pos, if_neg, pc_bit]
        exact ih (nI j, pc ((p ^^^ gI D (a + 1) j) &&& (hid ^^^ -1))) ⟨hb, by rw [if_pos (show _ < c from g)] at e; exact e⟩
      · simp (disch := omega) only [Option.bind_some, Option.map_some, zlet_eq, ↓reduceIte, L_2, L_3, L_4, L_5, L_6, L_7, L_8, L_9, L_10, L_12, L_13, L_20, L_24, L_25, L_26, L_27, L_30, L_32, L_33, L_34, L_40, L_48, L_57, L_58, L_60, L_64, L_90, L_93, L_97, L_99, L_100, L_122, L_144, L_255, L_364, L_480, L_500, L_800, L_1000, L_100000, L_4096, L_1023, L_1024, nLe, nLt, nEq, nI_1, nI_add, pk_mul, nSn, nDn, nCl, zck_nI, zdv_nI, nNeg, nLe0, n0Lt, nEq0, nM1, m1N, m1Lt, nLm1, zcb_0, zcb_1, i10, i01, nEq1, n1Eq, nLt1, gI_eq, gI_nb, gI_na, x_badF, x_badT1, x_badT2, bt_0, bt_1, bit1_u, Bool.true_eq_false, Bool.false_eq_true, eq_self, Int32.or_zero, if_pos, if_neg, pc_bit]
        exact ih (x, c) ⟨hc, by rw [if_neg (show ¬ _ < c from g)] at e; exact e⟩
    · rintro n ⟨x, c⟩ ⟨_, e⟩
      show zok (fn_X0_likest_9 a hid p D (n + 1) x (nI c) (nI ns)) _
      rw [fn_X0_likest_9, h]
      rw [Nat.sub_self] at e
      simp (disch := omega) only [Option.bind_some, Option.map_some, zlet_eq, ↓reduceIte, L_2, L_3, L_4, L_5, L_6, L_7, L_8, L_9, L_10, L_12, L_13, L_20, L_24, L_25, L_26, L_27, L_30, L_32, L_33, L_34, L_40, L_48, L_57, L_58, L_60, L_64, L_90, L_93, L_97, L_99, L_100, L_122, L_144, L_255, L_364, L_480, L_500, L_800, L_1000, L_100000, L_4096, L_1023, L_1024, nLe, nLt, nEq, nI_1, nI_add, pk_mul, nSn, nDn, nCl, zck_nI, zdv_nI, nNeg, nLe0, n0Lt, nEq0, nM1, m1N, m1Lt, nLm1, zcb_0, zcb_1, i10, i01, nEq1, n1Eq, nLt1, gI_eq, gI_nb, gI_na, x_badF, x_badT1, x_badT2, bt_0, bt_1, bit1_u, Bool.true_eq_false, Bool.false_eq_true, eq_self, Int32.or_zero, if_pos, if_neg, zok_some]
      rw [e]
      rfl
  exact key 0 zFU (-1, 31) (by decide) (Nat.zero_le _) (zfu_gt (by omega))
theorem r_nearest {D : zD} {ns : Nat} (h : gI D 102 16 = nI ns) (hn : ns ≤ 12) {j : Nat} (hj : j < 500) (p : Int32) (hp : un p < 2 ^ 30) (hpt : ∀ s, s < ns → un (gI D 105 s) < 2 ^ 30) : fn_X12_nearest_57 (nI j) p zFU (-1) 0 0 D = some ((sNea ns (gI D 105) (gI D 128 j) p).1, D) := by
  have hN : ∀ q : Int32 × zD, (zok (fn_X12_nearest_57 (nI j) p zFU (-1) 0 0 D) fun q => q = ((sNea ns (gI D 105) (gI D 128 j) p).1, D)) := fun q => by
    refine z_inv ns (fun n i (s : Int32 × Int32) => fn_X12_nearest_57 (nI j) p n s.1 s.2 (nI i) D) (fun i s => s.1 = (zfo (fNear (gI D 105) (gI D 128 j) p) i 0 (-1, 31)).1 ∧ ((s.1 = -1 ∧ (zfo (fNear (gI D 105) (gI D 128 j) p) i 0 (-1, 31)).2 = 31) ∨ ((∃ m, m < 100 ∧ s.1 = nI m) ∧ (zfo (fNear (gI D 105) (gI D 128 j) p) i 0 (-1, 31)).2 ≤ 32 ∧ s.2 = nI (zfo (fNear (gI D 105) (gI D 128 j) p) i 0 (-1, 31)).2))) _ ?_ ?_ 0 zFU (-1, 0) (Nat.zero_le _) (zfu_gt (by omega)) ⟨rfl, Or.inl ⟨rfl, rfl⟩⟩
    · rintro n i ⟨x, c⟩ hi ⟨e1, e2⟩ ih
      have hb := pc_un (c := 30) (by omega) (un_and (y := gI D 128 j ^^^ -1) (by omega) (un_xor (by omega) hp (hpt i hi)))
      show zok (fn_X12_nearest_57 (nI j) p (n + 1) x c (nI i) D) _
      have hz := zfo_last (fNear (gI D 105) (gI D 128 j) p) i 0 (-1, 31)
      rw [Nat.zero_add] at hz
      rw [fn_X12_nearest_57, h]
      generalize zfo (fNear (gI D 105) (gI D 128 j) p) i 0 (-1, 31) = Z at *
      generalize hY : zfo (fNear (gI D 105) (gI D 128 j) p) (i + 1) 0 (-1, 31) = Y at *
      unfold fNear at hz
      generalize hB : pc ((p ^^^ gI D 105 i) &&& (gI D 128 j ^^^ -1)) = B at *
      rcases e2 with ⟨rfl, e3⟩ | ⟨⟨m, hm, rfl⟩, e3, rfl⟩
      · simp (disch := omega) only [Option.bind_some, Option.map_some, zlet_eq, ↓reduceIte, L_2, L_3, L_4, L_5, L_6, L_7, L_8, L_9, L_10, L_12, L_13, L_20, L_24, L_25, L_26, L_27, L_30, L_32, L_33, L_34, L_40, L_48, L_57, L_58, L_60, L_64, L_90, L_93, L_97, L_99, L_100, L_122, L_144, L_255, L_364, L_480, L_500, L_800, L_1000, L_100000, L_4096, L_1023, L_1024, nLe, nLt, nEq, nI_1, nI_add, pk_mul, nSn, nDn, nCl, zck_nI, zdv_nI, nNeg, nLe0, n0Lt, nEq0, nM1, m1N, m1Lt, nLm1, zcb_0, zcb_1, i10, i01, nEq1, n1Eq, nLt1, gI_eq, gI_nb, gI_na, x_badF, x_badT1, x_badT2, bt_0, bt_1, bit1_u, Bool.true_eq_false, Bool.false_eq_true, eq_self, Int32.or_zero, if_pos, if_neg, z_ones, Int32.xor_comm (gI D 105 i) p, hB]
        refine ih (nI i, nI B) ?_
        rw [e3, if_pos (by omega)] at hz
        rw [hz]
        exact ⟨rfl, Or.inr ⟨⟨i, by omega, rfl⟩, by simp only []; omega, rfl⟩⟩
      · by_cases g : B < Z.2
        · simp (disch := omega) only [Option.bind_some, Option.map_some, zlet_eq, ↓reduceIte, L_2, L_3, L_4, L_5, L_6, L_7, L_8, L_9, L_10, L_12, L_13, L_20, L_24, L_25, L_26, L_27, L_30, L_32, L_33, L_34, L_40, L_48, L_57, L_58, L_60, L_64, L_90, L_93, L_97, L_99, L_100, L_122, L_144, L_255, L_364, L_480, L_500, L_800, L_1000, L_100000, L_4096, L_1023, L_1024, nLe, nLt, nEq, nI_1, nI_add, pk_mul, nSn, nDn, nCl, zck_nI, zdv_nI, nNeg, nLe0, n0Lt, nEq0, nM1, m1N, m1Lt, nLm1, zcb_0, zcb_1, i10, i01, nEq1, n1Eq, nLt1, gI_eq, gI_nb, gI_na, x_badF, x_badT1, x_badT2, bt_0, bt_1, bit1_u, Bool.true_eq_false, Bool.false_eq_true, eq_self, Int32.or_zero, if_pos, if_neg, z_ones, Int32.xor_comm (gI D 105 i) p, hB]
          refine ih (nI i, nI B) ?_
          rw [if_pos g] at hz
          rw [hz]
          exact ⟨rfl, Or.inr ⟨⟨i, by omega, rfl⟩, by simp only []; omega, rfl⟩⟩
        · simp (disch := omega) only [Option.bind_some, Option.map_some, zlet_eq, ↓reduceIte, L_2, L_3, L_4, L_5, L_6, L_7, L_8, L_9, L_10, L_12, L_13, L_20, L_24, L_25, L_26, L_27, L_30, L_32, L_33, L_34, L_40, L_48, L_57, L_58, L_60, L_64, L_90, L_93, L_97, L_99, L_100, L_122, L_144, L_255, L_364, L_480, L_500, L_800, L_1000, L_100000, L_4096, L_1023, L_1024, nLe, nLt, nEq, nI_1, nI_add, pk_mul, nSn, nDn, nCl, zck_nI, zdv_nI, nNeg, nLe0, n0Lt, nEq0, nM1, m1N, m1Lt, nLm1, zcb_0, zcb_1, i10, i01, nEq1, n1Eq, nLt1, gI_eq, gI_nb, gI_na, x_badF, x_badT1, x_badT2, bt_0, bt_1, bit1_u, Bool.true_eq_false, Bool.false_eq_true, eq_self, Int32.or_zero, if_pos, if_neg, z_ones, Int32.xor_comm (gI D 105 i) p, hB]
          refine ih (nI m, nI Z.2) ?_
          rw [if_neg g] at hz
          rw [hz]
          exact ⟨e1, Or.inr ⟨⟨m, by omega, rfl⟩, e3, rfl⟩⟩
    · rintro n ⟨x, c⟩ ⟨e1, _⟩
      show zok (fn_X12_nearest_57 (nI j) p (n + 1) x c (nI ns) D) _
      rw [fn_X12_nearest_57, h]
      simp (disch := omega) only [Option.bind_some, Option.map_some, zlet_eq, ↓reduceIte, L_2, L_3, L_4, L_5, L_6, L_7, L_8, L_9, L_10, L_12, L_13, L_20, L_24, L_25, L_26, L_27, L_30, L_32, L_33, L_34, L_40, L_48, L_57, L_58, L_60, L_64, L_90, L_93, L_97, L_99, L_100, L_122, L_144, L_255, L_364, L_480, L_500, L_800, L_1000, L_100000, L_4096, L_1023, L_1024, nLe, nLt, nEq, nI_1, nI_add, pk_mul, nSn, nDn, nCl, zck_nI, zdv_nI, nNeg, nLe0, n0Lt, nEq0, nM1, m1N, m1Lt, nLm1, zcb_0, zcb_1, i10, i01, nEq1, n1Eq, nLt1, gI_eq, gI_nb, gI_na, x_badF, x_badT1, x_badT2, bt_0, bt_1, bit1_u, Bool.true_eq_false, Bool.false_eq_true, eq_self, Int32.or_zero, if_pos, if_neg, zok_some]
      rw [show x = _ from e1]
      rfl
  exact (hN (0, D)).eq
theorem t_nearest {D : zD} {P : Nat → Nat} (h : iv P D) (v u : Int32) : twin (wk2 2 1) (wP D (fn_X11_nearest v u D)) (fn_X12_nearest v u) := by
  have h' := h
  obtain ⟨⟨⟨hb, ⟨a0, a1, a2, a3⟩, ⟨b0, b1, b2, b3⟩, hs, hw⟩, ⟨hc, c1, c2, hcv⟩, ⟨hd, ⟨z0, z1, z2⟩, ⟨y0, y1, y2⟩, hp, ht⟩, ⟨hi, i0, i1, him⟩, ⟨hta, ta0, ta1, hpl, htb⟩⟩, hK, hO⟩ := h
  replace y0 : gI _ 102 34 = nI (P 5) := y0
  replace y1 : gI _ 102 35 = nI (P 6) := y1
  replace y2 : gI _ 102 36 = nI (P 7) := y2
  unfold fn_X11_nearest
  have h30 := wh_le (w := P 0) (h := P 1) (by omega) (by omega)
  have hpw : 2 ^ (P 0 * P 1) ≤ 2 ^ 30 := Nat.pow_le_pow_right (by decide) h30
  rcases x_inN (v := v) (n := P 4) (by omega) with ⟨e, g⟩ | ⟨e, j, hj, rfl⟩
  · refine twin_t h' (e := 2) (t := 1) rfl (by decide) (by rw [c_part1 c1 g]; rfl) fun E hE he => ?_
    rw [gE he] at c2
    unfold fn_X12_nearest fn_X12_nearest_19 fn_X12_isCover
    simp (disch := omega) only [Option.bind_some, Option.map_some, zlet_eq, ↓reduceIte, L_2, L_3, L_4, L_5, L_6, L_7, L_8, L_9, L_10, L_12, L_13, L_20, L_24, L_25, L_26, L_27, L_30, L_32, L_33, L_34, L_40, L_48, L_57, L_58, L_60, L_64, L_90, L_93, L_97, L_99, L_100, L_122, L_144, L_255, L_364, L_480, L_500, L_800, L_1000, L_100000, L_4096, L_1023, L_1024, nLe, nLt, nEq, nI_1, nI_add, pk_mul, nSn, nDn, nCl, zck_nI, zdv_nI, nNeg, nLe0, n0Lt, nEq0, nM1, m1N, m1Lt, nLm1, zcb_0, zcb_1, i10, i01, nEq1, n1Eq, nLt1, gI_eq, gI_nb, gI_na, x_badF, x_badT1, x_badT2, bt_0, bt_1, bit1_u, Bool.true_eq_false, Bool.false_eq_true, eq_self, Int32.or_zero, if_pos, if_neg, c2, e]
  · rcases x_isPaint (w := P 0) (h := P 1) (by omega) (by omega) u with ⟨g, q⟩ | ⟨g, q⟩
    · refine twin_t h' (e := 1) (t := 2) rfl (by decide) (by rw [c_part2 c1 (by omega) a0 a1 (by omega) (by omega) hj g]; rfl) fun E hE he => ?_
      rw [gE he] at c2 b0 b1
      have q := q (sI E 102 0 0) ((gI_nb (by omega)).trans b0) ((gI_nb (by omega)).trans b1)
      unfold fn_X12_nearest fn_X12_nearest_19 fn_X12_nearest_40 fn_X12_isCover
      simp (disch := omega) only [Option.bind_some, Option.map_some, zlet_eq, ↓reduceIte, L_2, L_3, L_4, L_5, L_6, L_7, L_8, L_9, L_10, L_12, L_13, L_20, L_24, L_25, L_26, L_27, L_30, L_32, L_33, L_34, L_40, L_48, L_57, L_58, L_60, L_64, L_90, L_93, L_97, L_99, L_100, L_122, L_144, L_255, L_364, L_480, L_500, L_800, L_1000, L_100000, L_4096, L_1023, L_1024, nLe, nLt, nEq, nI_1, nI_add, pk_mul, nSn, nDn, nCl, zck_nI, zdv_nI, nNeg, nLe0, n0Lt, nEq0, nM1, m1N, m1Lt, nLm1, zcb_0, zcb_1, i10, i01, nEq1, n1Eq, nLt1, gI_eq, gI_nb, gI_na, x_badF, x_badT1, x_badT2, bt_0, bt_1, bit1_u, Bool.true_eq_false, Bool.false_eq_true, eq_self, Int32.or_zero, if_pos, if_neg, c2, e, q]
    · refine twin_v h' (v := (sNea (P 2) (gI D 4) (gI D 21 j) u).1) ?_ fun E hE he => ?_
      · rw [c_part3 c1 (by omega) a0 a1 (by omega) (by omega) hj g, Option.bind_some, if_pos rfl, v_at c1 hj (by omega), Option.bind_some, c_likest a2 (by omega)]
        rfl
      · rw [sNea_cong fun s hs' => (hs s hs').1, (hcv j hj).1]
        have hpt : ∀ s, s < P 2 → un (gI E 105 s) < 2 ^ 30 := fun s hs' => by
          have := (hs s hs').2.2.1
          rw [gE he] at this
          omega
        rw [gE he] at c2 b0 b1 b2 y0
        have q := q (sI E 102 0 0) ((gI_nb (by omega)).trans b0) ((gI_nb (by omega)).trans b1)
        have m := r_nearest (D := sI E 102 0 0) (ns := P 2) ((gI_nb (by omega)).trans b2) (by omega) (j := j) (by omega) u (by omega) (fun s hs' => by rw [gI_na (by omega)]; exact hpt s hs')
        rw [gIf (by omega), gIf (by omega)] at m
        rw [show gI D 105 = gI E 105 from funext fun b => gE he 105 b, gE he 128 j]
        unfold fn_X12_nearest fn_X12_nearest_19 fn_X12_nearest_40 fn_X12_isCover
        simp (disch := omega) only [Option.bind_some, Option.map_some, zlet_eq, ↓reduceIte, L_2, L_3, L_4, L_5, L_6, L_7, L_8, L_9, L_10, L_12, L_13, L_20, L_24, L_25, L_26, L_27, L_30, L_32, L_33, L_34, L_40, L_48, L_57, L_58, L_60, L_64, L_90, L_93, L_97, L_99, L_100, L_122, L_144, L_255, L_364, L_480, L_500, L_800, L_1000, L_100000, L_4096, L_1023, L_1024, nLe, nLt, nEq, nI_1, nI_add, pk_mul, nSn, nDn, nCl, zck_nI, zdv_nI, nNeg, nLe0, n0Lt, nEq0, nM1, m1N, m1Lt, nLm1, zcb_0, zcb_1, i10, i01, nEq1, n1Eq, nLt1, gI_eq, gI_nb, gI_na, x_badF, x_badT1, x_badT2, bt_0, bt_1, bit1_u, Bool.true_eq_false, Bool.false_eq_true, eq_self, Int32.or_zero, if_pos, if_neg, c2, e, q, m]
theorem t_confused {D : zD} {P : Nat → Nat} (h : iv P D) (v u : Int32) : twin (wk2 3 1) (wP D (fn_X11_confused v u D)) (fn_X12_confused v u) := by
  have h' := h
  obtain ⟨⟨⟨hb, ⟨a0, a1, a2, a3⟩, ⟨b0, b1, b2, b3⟩, hs, hw⟩, ⟨hc, c1, c2, hcv⟩, ⟨hd, ⟨z0, z1, z2⟩, ⟨y0, y1, y2⟩, hp, ht⟩, ⟨hi, i0, i1, him⟩, ⟨hta, ta0, ta1, hpl, htb⟩⟩, hK, hO⟩ := h
  replace y0 : gI _ 102 34 = nI (P 5) := y0
  replace y1 : gI _ 102 35 = nI (P 6) := y1
  replace y2 : gI _ 102 36 = nI (P 7) := y2
  unfold fn_X11_confused
  rcases x_inN (v := v) (n := P 2) (by omega) with ⟨e, g⟩ | ⟨e, j, hj, rfl⟩
  · refine twin_t h' (e := 3) (t := 1) rfl (by decide) (by rw [c_needSign a2 g]; rfl) fun E hE he => ?_
    rw [gE he] at b2
    unfold fn_X12_confused fn_X12_confused_22 fn_X12_confused_27 fn_X12_isSign
    simp (disch := omega) only [Option.bind_some, Option.map_some, zlet_eq, ↓reduceIte, L_2, L_3, L_4, L_5, L_6, L_7, L_8, L_9, L_10, L_12, L_13, L_20, L_24, L_25, L_26, L_27, L_30, L_32, L_33, L_34, L_40, L_48, L_57, L_58, L_60, L_64, L_90, L_93, L_97, L_99, L_100, L_122, L_144, L_255, L_364, L_480, L_500, L_800, L_1000, L_100000, L_4096, L_1023, L_1024, nLe, nLt, nEq, nI_1, nI_add, pk_mul, nSn, nDn, nCl, zck_nI, zdv_nI, nNeg, nLe0, n0Lt, nEq0, nM1, m1N, m1Lt, nLm1, zcb_0, zcb_1, i10, i01, nEq1, n1Eq, nLt1, gI_eq, gI_nb, gI_na, x_badF, x_badT1, x_badT2, bt_0, bt_1, bit1_u, Bool.true_eq_false, Bool.false_eq_true, eq_self, Int32.or_zero, if_pos, if_neg, b2, e]
  · rcases x_inN (v := u) (n := P 2) (by omega) with ⟨e2, g⟩ | ⟨e2, i, hi2, rfl⟩
    · refine twin_t h' (e := 3) (t := 1) rfl (by decide) (by rw [c_needSignJ a2 hj (by omega), c_needSign a2 g]; rfl) fun E hE he => ?_
      rw [gE he] at b2
      unfold fn_X12_confused fn_X12_confused_22 fn_X12_confused_27 fn_X12_isSign
      simp (disch := omega) only [Option.bind_some, Option.map_some, zlet_eq, ↓reduceIte, L_2, L_3, L_4, L_5, L_6, L_7, L_8, L_9, L_10, L_12, L_13, L_20, L_24, L_25, L_26, L_27, L_30, L_32, L_33, L_34, L_40, L_48, L_57, L_58, L_60, L_64, L_90, L_93, L_97, L_99, L_100, L_122, L_144, L_255, L_364, L_480, L_500, L_800, L_1000, L_100000, L_4096, L_1023, L_1024, nLe, nLt, nEq, nI_1, nI_add, pk_mul, nSn, nDn, nCl, zck_nI, zdv_nI, nNeg, nLe0, n0Lt, nEq0, nM1, m1N, m1Lt, nLm1, zcb_0, zcb_1, i10, i01, nEq1, n1Eq, nLt1, gI_eq, gI_nb, gI_na, x_badF, x_badT1, x_badT2, bt_0, bt_1, bit1_u, Bool.true_eq_false, Bool.false_eq_true, eq_self, Int32.or_zero, if_pos, if_neg, b2, e, e2]
    · rw [c_needSignJ a2 hj (by omega), c_needSignJ a2 hi2 (by omega)]
      by_cases hji : j = i
      · subst hji
        refine twin_t h' (e := 1) (t := 2) rfl (by decide) (by simp (disch := omega) only [Option.bind_some, Option.map_some, zlet_eq, ↓reduceIte, L_2, L_3, L_4, L_5, L_6, L_7, L_8, L_9, L_10, L_12, L_13, L_20, L_24, L_25, L_26, L_27, L_30, L_32, L_33, L_34, L_40, L_48, L_57, L_58, L_60, L_64, L_90, L_93, L_97, L_99, L_100, L_122, L_144, L_255, L_364, L_480, L_500, L_800, L_1000, L_100000, L_4096, L_1023, L_1024, nLe, nLt, nEq, nI_1, nI_add, pk_mul, nSn, nDn, nCl, zck_nI, zdv_nI, nNeg, nLe0, n0Lt, nEq0, nM1, m1N, m1Lt, nLm1, zcb_0, zcb_1, i10, i01, nEq1, n1Eq, nLt1, gI_eq, gI_nb, gI_na, x_badF, x_badT1, x_badT2, bt_0, bt_1, bit1_u, Bool.true_eq_false, Bool.false_eq_true, eq_self, Int32.or_zero, if_pos, if_neg]) fun E hE he => ?_
        rw [gE he] at b2
        unfold fn_X12_confused fn_X12_confused_27 fn_X12_confused_45 fn_X12_isSign
        simp (disch := omega) only [Option.bind_some, Option.map_some, zlet_eq, ↓reduceIte, L_2, L_3, L_4, L_5, L_6, L_7, L_8, L_9, L_10, L_12, L_13, L_20, L_24, L_25, L_26, L_27, L_30, L_32, L_33, L_34, L_40, L_48, L_57, L_58, L_60, L_64, L_90, L_93, L_97, L_99, L_100, L_122, L_144, L_255, L_364, L_480, L_500, L_800, L_1000, L_100000, L_4096, L_1023, L_1024, nLe, nLt, nEq, nI_1, nI_add, pk_mul, nSn, nDn, nCl, zck_nI, zdv_nI, nNeg, nLe0, n0Lt, nEq0, nM1, m1N, m1Lt, nLm1, zcb_0, zcb_1, i10, i01, nEq1, n1Eq, nLt1, gI_eq, gI_nb, gI_na, x_badF, x_badT1, x_badT2, bt_0, bt_1, bit1_u, Bool.true_eq_false, Bool.false_eq_true, eq_self, Int32.or_zero, if_pos, if_neg, b2, e, e2]
      · refine twin_v h' (v := sFi (P 4) (gI D 128) (2 * P 5) (gI D 105 j ^^^ gI D 105 i)) ?_ fun E hE he => ?_
        · simp (disch := omega) only [Option.bind_some, Option.map_some, zlet_eq, ↓reduceIte, L_2, L_3, L_4, L_5, L_6, L_7, L_8, L_9, L_10, L_12, L_13, L_20, L_24, L_25, L_26, L_27, L_30, L_32, L_33, L_34, L_40, L_48, L_57, L_58, L_60, L_64, L_90, L_93, L_97, L_99, L_100, L_122, L_144, L_255, L_364, L_480, L_500, L_800, L_1000, L_100000, L_4096, L_1023, L_1024, nLe, nLt, nEq, nI_1, nI_add, pk_mul, nSn, nDn, nCl, zck_nI, zdv_nI, nNeg, nLe0, n0Lt, nEq0, nM1, m1N, m1Lt, nLm1, zcb_0, zcb_1, i10, i01, nEq1, n1Eq, nLt1, gI_eq, gI_nb, gI_na, x_badF, x_badT1, x_badT2, bt_0, bt_1, bit1_u, Bool.true_eq_false, Bool.false_eq_true, eq_self, Int32.or_zero, if_pos, if_neg, v_paint a2 hj, v_paint a2 hi2, z0, c_first c1]
          rw [sFi_cong fun k hk => (hcv k hk).1, (hs j hj).1, (hs i hi2).1]
        · rw [gE he] at b2 c2 y0
          have m := r_first (D := sI E 102 0 0) (nc := P 4) ((gI_nb (by omega)).trans c2) (by omega) (gI E 105 j) (gI E 105 i) (d := P 5) (by omega) ((gI_nb (by omega)).trans y0)
          rw [gIf (by omega)] at m
          rw [show gI D 128 = gI E 128 from funext fun b => gE he 128 b, gE he 105 j, gE he 105 i]
          unfold fn_X12_confused fn_X12_confused_27 fn_X12_confused_45 fn_X12_isSign
          simp (disch := omega) only [Option.bind_some, Option.map_some, zlet_eq, ↓reduceIte, L_2, L_3, L_4, L_5, L_6, L_7, L_8, L_9, L_10, L_12, L_13, L_20, L_24, L_25, L_26, L_27, L_30, L_32, L_33, L_34, L_40, L_48, L_57, L_58, L_60, L_64, L_90, L_93, L_97, L_99, L_100, L_122, L_144, L_255, L_364, L_480, L_500, L_800, L_1000, L_100000, L_4096, L_1023, L_1024, nLe, nLt, nEq, nI_1, nI_add, pk_mul, nSn, nDn, nCl, zck_nI, zdv_nI, nNeg, nLe0, n0Lt, nEq0, nM1, m1N, m1Lt, nLm1, zcb_0, zcb_1, i10, i01, nEq1, n1Eq, nLt1, gI_eq, gI_nb, gI_na, x_badF, x_badT1, x_badT2, bt_0, bt_1, bit1_u, Bool.true_eq_false, Bool.false_eq_true, eq_self, Int32.or_zero, if_pos, if_neg, b2, e, e2, m]
