/-! THE MATHEMATICS: the reference's steps -/
section M74
variable {D : zD} {P : Nat → Nat} {nc c ns d w k : Nat} {cv : Nat → Int32}
/-- now and the pairs, of paints pt; the board's sides -/
def rt (w k ns nc d : Nat) (cv : Nat → Int32) (pt : Nat → Int32) (D : zD) : Prop := (2 ≤ w ∧ w ≤ 6 ∧ 2 ≤ k ∧ k ≤ 5 ∧ gI D 102 14 = nI w ∧ gI D 102 15 = nI k) ∧ rcv ns nc d cv D ∧ (∀ s, s < ns → gI D 195 s = pt s) ∧ ∀ i j, i < ns → j < ns → gI D (183 + i) j = bI (offd nc cv (2 * d) pt i j)
theorem r_cells (h0 : gI D 102 14 = nI w) (h1 : gI D 102 15 = nI k) : fn_X12_cells D = some (nI (w * k)) := by
  unfold fn_X12_cells
  rw [h0, h1, pk_mul]
theorem r_flips (hb : 2 ≤ w ∧ w ≤ 6 ∧ 2 ≤ k ∧ k ≤ 5 ∧ gI D 102 14 = nI w ∧ gI D 102 15 = nI k) (hn : ns ≤ 12) {pt : Nat → Int32} (hp : ∀ s, s < ns → gI D 195 s = pt s) {x : Nat} (hx : x < ns * (w * k)) : zok (fn_X12_flips (nI x) D) fun E => (∀ s, s < ns → gI E 195 s = fl1 (w * k) pt x s) ∧ agL pN D E := by
  obtain ⟨w2, w6, k2, k5, b0, b1⟩ := hb
  have h30 := wh_le w6 k5
  have h4 := cpos w2 k2
  have hns := nsc hn h30
  obtain ⟨d1, d2, d3, d4⟩ := dm3 hx
  unfold fn_X12_flips
  rw [r_cells b0 b1, Option.bind_some, zdv_nI d3 (by omega), nDn _ _ (by omega) d3 (by omega), zck_nI (by omega) (by omega), Option.bind_some, zdv_nI d3 (by omega), zck_nI (by omega) (by omega)]
  rw [nRn x _ (by omega) d3 (by omega), nI_clamp (by omega), zlet_eq, bit1_u, zok_some]
  refine ⟨fun s hs => ?_, agL_sI agL.refl (by unfold pN; omega)⟩
  unfold fl1 flp
  rw [gI_if]
  by_cases q : s = x / (w * k)
  · subst q
    rw [if_pos rfl, if_pos rfl, hp _ hs]
  · rw [if_neg q, if_neg q, hp s hs]
theorem flp_twice (pt : Nat → Int32) (s i : Nat) : flp (flp pt s i) s i = pt := by
  funext t
  unfold flp
  by_cases q : t = s
  · rw [if_pos q, if_pos q, Int32.xor_assoc, Int32.xor_self, Int32.xor_zero]
  · rw [if_neg q, if_neg q]
/-- a cell is changed, and its sign's pairs are laid anew -/
theorem r_move {pt : Nat → Int32} (h : rt w k ns nc d cv pt D) {x : Nat} (hx : x < ns * (w * k)) : zok ((fn_X12_flips (nI x) D).bind fun D19 => (fn_X12_cells D19).bind fun x20 => zdv x20 <| (fn_X12_layPairsOf (nI x / x20) D19)) fun E => rt w k ns nc d cv (fl1 (w * k) pt x) E ∧ agL pRN D E := by
  obtain ⟨hb, hr, hp, hq⟩ := h
  have hb' := hb
  obtain ⟨w2, w6, k2, k5, b0, b1⟩ := hb
  have hn := hr.1.1
  have h30 := wh_le w6 k5
  have h4 := cpos w2 k2
  have hns := nsc hn h30
  obtain ⟨d1, d2, d3, d4⟩ := dm3 hx
  refine (r_flips hb' hn hp hx).bind fun E ⟨e1, e2⟩ => ?_
  have f0 : gI E 102 14 = nI w := by rw [e2.1 _ _ (by unfold pN; omega), b0]
  have f1 : gI E 102 15 = nI k := by rw [e2.1 _ _ (by unfold pN; omega), b1]
  rw [r_cells f0 f1, Option.bind_some, zdv_nI d3 (by omega), nDn _ _ (by omega) d3 (by omega)]
  refine (r_layPairsOf (pt := fl1 (w * k) pt x) (hr.keep e2 (by unfold pN; intros; omega)) e1 d1).mono fun F ⟨g1, g2⟩ => ⟨⟨⟨w2, w6, k2, k5, by rw [g2.1 _ _ (by unfold pR; omega), f0], by rw [g2.1 _ _ (by unfold pR; omega), f1]⟩, (hr.keep e2 (by unfold pN; intros; omega)).keep g2 (by unfold pR; intros; omega), fun s hs => by rw [g2.1 _ _ (by unfold pR; omega)]; exact e1 s hs, fun i j hi hj => ?_⟩, (e2.mono (by unfold pRN pN; intros; omega)).trans (g2.mono (by unfold pRN pR; intros; omega))⟩
  rw [g1 i j hi hj]
  by_cases q : i = x / (w * k) ∨ j = x / (w * k)
  · rw [if_pos q]
  · rw [if_neg q, e2.1 _ _ (by unfold pN; omega), hq i j hi hj]
    unfold fl1
    rw [offd_out (by omega) (by omega)]
theorem r_steps67 {v : Int32} {pt : Nat → Int32} {n0 k0 : Nat} (K : Int32 → Int32 → Int32 → zD → Option (Int32 × zD)) (Q : Int32 × zD → Prop) (h : rt w k ns nc d cv pt D)
    (hK0 : ∀ E, rt w k ns nc d cv pt E → agL pRN D E → (sBest (w * k) ns nc cv (2 * d) pt).1 = 0 → zok (K (nI n0) (nI k0) 0 E) Q)
    (hK1 : ∀ E, rt w k ns nc d cv (fl1 (w * k) pt ((sBest (w * k) ns nc cv (2 * d) pt).1 - 1)) E → agL pRN D E → (sBest (w * k) ns nc cv (2 * d) pt).1 ≠ 0 → zok (K (nI (sBest (w * k) ns nc cv (2 * d) pt).2) (nI (k0 + 1)) 1 E) Q)
    (hn0 : n0 = prA ns nc cv (2 * d) pt) : zok (fn_X12_steps_67 v K zFU (nI n0) (nI k0) (-1) (nI n0) 0 D) Q := by
  have hr := h.2.1
  have hn := hr.1.1
  obtain ⟨w2, w6, k2, k5, b0, b1⟩ := h.1
  have h30 := wh_le w6 k5
  have h4 := cpos w2 k2
  have hns := nsc hn h30
  have hpl : ∀ pt, prA ns nc cv (2 * d) pt ≤ 144 := fun pt => prA_le hn
  subst hn0
  have i0 : (-1 : Int32) = bs 1 0 := rfl
  refine z_inv (ns * (w * k)) (fun n a (s : (Nat × Nat) × zD) => fn_X12_steps_67 v K n (nI (prA ns nc cv (2 * d) pt)) (nI k0) (bs 1 s.1.1) (nI s.1.2) (nI a) s.2) (fun a s => (s.1 = zfo (fBest (w * k) ns nc cv (2 * d) pt) a 0 (0, prA ns nc cv (2 * d) pt) ∧ s.1.2 ≤ 144 ∧ s.1.1 ≤ 400) ∧ rt w k ns nc d cv pt s.2 ∧ agL pRN D s.2) _ ?_ ?_ 0 zFU ((0, prA ns nc cv (2 * d) pt), D) (Nat.zero_le _) (zfu_gt (by omega)) ⟨⟨rfl, hpl pt, Nat.zero_le _⟩, h, agL.refl⟩
  · rintro n a ⟨⟨i1, l1⟩, E⟩ ha ⟨⟨hst, hl, hi1⟩, hE, hag⟩ ih
    show zok (fn_X12_steps_67 v K (n + 1) (nI (prA ns nc cv (2 * d) pt)) (nI k0) (bs 1 i1) (nI l1) (nI a) E) _
    have hl' : l1 ≤ 144 := hl
    have hE' := hE
    obtain ⟨⟨_, _, _, _, c0, c1⟩, hrE, _, _⟩ := hE
    have hz := zfo_last (fBest (w * k) ns nc cv (2 * d) pt) a 0 (0, prA ns nc cv (2 * d) pt)
    rw [Nat.zero_add, ← hst] at hz
    unfold fBest at hz
    have hq := hpl (fl1 (w * k) pt a)
    rw [fn_X12_steps_67, r_cells c0 c1, Option.bind_some, hrE.2.1, pk_mul, if_neg (nI_ge ha (by omega))]
    have m1 := r_move hE' ha
    rw [zok_bind] at m1
    refine zok_bind.mpr (m1.mono fun F hF => ?_)
    rw [zok_bind] at hF
    refine zok_bind.mpr (hF.mono fun x20 hF => ?_)
    unfold zdv at hF ⊢
    by_cases hx0 : x20 = 0
    · rw [if_pos hx0] at hF
      obtain ⟨_, hbad, _⟩ := hF
      cases hbad
    · rw [if_neg hx0] at hF ⊢
      refine zok_bind.mpr (hF.mono fun G ⟨g1, g2⟩ => ?_)
      rw [r_pairs (f := offd nc cv (2 * d) (fl1 (w * k) pt a)) g1.2.1.2.1 hn g1.2.2.2, offd_prs, Option.bind_some]
      have m2 := r_move g1 ha
      rw [zok_bind] at m2
      refine zok_bind.mpr (m2.mono fun F hF => ?_)
      rw [zok_bind] at hF
      refine zok_bind.mpr (hF.mono fun x24 hF => ?_)
      unfold zdv at hF
      by_cases hx1 : x24 = 0
      · rw [if_pos hx1] at hF
        obtain ⟨_, hbad, _⟩ := hF
        cases hbad
      · rw [if_neg hx1] at hF ⊢
        refine zok_bind.mpr (hF.mono fun G2 ⟨r1, r2⟩ => ?_)
        have htw : fl1 (w * k) (fl1 (w * k) pt a) a = pt := flp_twice pt _ _
        rw [htw] at r1
        rw [nI_1]
        by_cases g : prA ns nc cv (2 * d) (fl1 (w * k) pt a) < l1
        · rw [if_pos (nI_lt g (by omega))]
          rw [if_pos (show _ < (i1, l1).2 from g)] at hz
          have := ih ((a + 1, prA ns nc cv (2 * d) (fl1 (w * k) pt a)), G2) ⟨⟨hz.symm, hq, by show a + 1 ≤ 400; omega⟩, r1, (hag.trans g2).trans r2⟩
          have e1 : bs 1 (a + 1) = nI a := by unfold bs; rw [if_neg (by omega), Nat.add_sub_cancel, Nat.div_one]
          rw [show ((a + 1, prA ns nc cv (2 * d) (fl1 (w * k) pt a)), G2).1.1 = a + 1 from rfl, e1] at this
          exact this
        · rw [if_neg (nI_nlt (by omega) (by omega))]
          rw [if_neg (show ¬ _ < (i1, l1).2 from g)] at hz
          exact ih ((i1, l1), G2) ⟨⟨hz.symm, hl, hi1⟩, r1, (hag.trans g2).trans r2⟩
  · rintro n ⟨⟨i1, l1⟩, E⟩ ⟨⟨hst, hl, hi1⟩, hE, hag⟩
    show zok (fn_X12_steps_67 v K (n + 1) (nI (prA ns nc cv (2 * d) pt)) (nI k0) (bs 1 i1) (nI l1) (nI (ns * (w * k))) E) _
    have hE' := hE
    obtain ⟨⟨_, _, _, _, c0, c1⟩, hrE, _, _⟩ := hE
    rw [fn_X12_steps_67, r_cells c0 c1, Option.bind_some, hrE.2.1, pk_mul, if_pos (nI_le (Nat.le_refl _) (by omega))]
    unfold fn_X12_steps_145 fn_X12_steps_156
    have hb : sBest (w * k) ns nc cv (2 * d) pt = (i1, l1) := by rw [sBest_eq]; exact hst.symm
    by_cases q : i1 = 0
    · rw [if_pos (by unfold bs; rw [if_pos q]), if_pos rfl]
      exact hK0 E hE' hag (by rw [hb]; exact q)
    · have hlt := (sBest_lt (c := w * k) (ns := ns) (nc := nc) (cv := cv) (e := 2 * d) pt).1
      rw [hb] at hlt
      have hlt' : i1 ≤ ns * (w * k) := hlt
      have e1 : bs 1 i1 = nI (i1 - 1) := by unfold bs; rw [if_neg q, Nat.div_one]
      rw [e1, if_neg (fun r => (nM1 _ (by omega)).mp r), if_neg (by decide), nI_1]
      have m1 := r_move hE' (x := i1 - 1) (by omega)
      rw [zok_bind] at m1
      refine zok_bind.mpr (m1.mono fun F hF => ?_)
      rw [zok_bind] at hF
      refine zok_bind.mpr (hF.mono fun x20 hF => ?_)
      unfold zdv at hF ⊢
      by_cases hx0 : x20 = 0
      · rw [if_pos hx0] at hF
        obtain ⟨_, hbad, _⟩ := hF
        cases hbad
      · rw [if_neg hx0] at hF ⊢
        refine zok_bind.mpr (hF.mono fun G ⟨g1, g2⟩ => ?_)
        have := hK1 G (by rw [hb]; exact g1) (hag.trans g2) (by rw [hb]; exact q)
        rw [hb] at this
        exact this
theorem r_steps43 {v : Int32} : ∀ (m kk n : Nat) (pt : Nat → Int32) (D : zD), kk + m = 30 → m + 1 < n → rt w k ns nc d cv pt D → zok (fn_X12_steps_43 v n (nI (prA ns nc cv (2 * d) pt)) (nI kk) 1 D) fun q => q.1 = (if v = 0 then nI (sSteps (w * k) ns nc cv (2 * d) m pt kk).1 else nI (sSteps (w * k) ns nc cv (2 * d) m pt kk).2) ∧ agL pRN D q.2 := by
  intro m
  induction m with
  | zero =>
    intro kk n pt D hk hn' h
    obtain ⟨n, rfl⟩ : ∃ q, n = q + 1 := ⟨n - 1, by omega⟩
    have hpl := prA_le (nc := nc) (cv := cv) (e := 2 * d) (pt := pt) h.2.1.1.1
    rw [fn_X12_steps_43]
    unfold fn_X12_steps_192
    rw [if_pos (show (30 : Int32) ≤ nI kk from nI_le (a := 30) (by omega) (by omega))]
    have e : ∀ (x : Option (Int32 × zD)), (if nI (prA ns nc cv (2 * d) pt) ≤ 0 then x else x) = x := fun x => by split <;> rfl
    rw [e]
    by_cases q : v = 0
    · rw [if_pos q, zok_some, if_pos q]
      exact ⟨rfl, agL.refl⟩
    · rw [if_neg q, zok_some, if_neg q]
      exact ⟨rfl, agL.refl⟩
  | succ m ih =>
    intro kk n pt D hk hn' h
    obtain ⟨n, rfl⟩ : ∃ q, n = q + 1 := ⟨n - 1, by omega⟩
    have hpl := prA_le (nc := nc) (cv := cv) (e := 2 * d) (pt := pt) h.2.1.1.1
    rw [fn_X12_steps_43, sSteps]
    by_cases g : 0 < prA ns nc cv (2 * d) pt
    · rw [if_neg (fun q => by have := (nLe0 _ (by omega)).mp q; omega), if_neg (show ¬ (30 : Int32) ≤ nI kk from nI_ge (b := 30) (by omega) (by omega)), if_neg (by decide), if_pos g]
      refine r_steps67 _ _ h (fun E hE hag hb => ?_) (fun E hE hag hb => ?_) rfl
      · rw [if_pos hb]
        obtain ⟨n, rfl⟩ : ∃ q, n = q + 1 := ⟨n - 1, by omega⟩
        rw [fn_X12_steps_43, if_neg (fun q => by have := (nLe0 _ (by omega)).mp q; omega), if_neg (show ¬ (30 : Int32) ≤ nI kk from nI_ge (b := 30) (by omega) (by omega)), if_pos rfl]
        unfold fn_X12_steps_192
        by_cases q : v = 0
        · rw [if_pos q, zok_some, if_pos q]
          exact ⟨rfl, hag⟩
        · rw [if_neg q, zok_some, if_neg q]
          exact ⟨rfl, hag⟩
      · rw [if_neg hb, (sBest_lt (c := w * k) (ns := ns) (nc := nc) (cv := cv) (e := 2 * d) pt).2 hb]
        exact (ih (kk + 1) n _ E (by omega) (by omega) hE).mono fun q ⟨q1, q2⟩ => ⟨q1, hag.trans q2⟩
    · rw [if_pos ((nLe0 _ (by omega)).mpr (by omega)), if_neg g]
      unfold fn_X12_steps_192
      by_cases q : v = 0
      · rw [if_pos q, zok_some, if_pos q]
        exact ⟨rfl, agL.refl⟩
      · rw [if_neg q, zok_some, if_neg q]
        exact ⟨rfl, agL.refl⟩
theorem iv_rt {E : zD} (h : iv P D) (g : agL pRN D E) (h1 : ∀ s, s < P 2 → gI E 195 s = gI D 105 s) (h2 : ∀ i j, i < P 2 → j < P 2 → gI E (183 + i) j = bI (offd (P 4) (gI D 128) (2 * P 5) (gI D 105) i j)) : rt (P 0) (P 1) (P 2) (P 4) (P 5) (gI D 128) (gI D 105) E := by
  have hr := (iv_rcv h).keep g (by unfold pRN; intros; omega)
  obtain ⟨⟨⟨hb, ⟨a0, a1, a2, a3⟩, ⟨b0, b1, b2, b3⟩, hs, hw⟩, ⟨hc, c1, c2, hcv⟩, ⟨hd, ⟨z0, z1, z2⟩, ⟨y0, y1, y2⟩, hp, ht⟩, ⟨hi, i0, i1, him⟩, ⟨hta, ta0, ta1, hpl, htb⟩⟩, hK, hO⟩ := h
  replace y0 : gI _ 102 34 = nI (P 5) := y0
  replace y1 : gI _ 102 35 = nI (P 6) := y1
  replace y2 : gI _ 102 36 = nI (P 7) := y2
  exact ⟨⟨hb.1, hb.2.1, hb.2.2.1, hb.2.2.2.1, by rw [g.1 _ _ (by unfold pRN; omega), b0], by rw [g.1 _ _ (by unfold pRN; omega), b1]⟩, hr, h1, h2⟩
theorem tk_steps (h : iv P D) (v : Int32) : twin (wk1 1) (fn_X11_steps v D) (fn_X12_steps v) := by
  have h' := h
  obtain ⟨⟨⟨hb, ⟨a0, a1, a2, a3⟩, ⟨b0, b1, b2, b3⟩, hs, hw⟩, ⟨hc, c1, c2, hcv⟩, ⟨hd, ⟨z0, z1, z2⟩, ⟨y0, y1, y2⟩, hp, ht⟩, ⟨hi, i0, i1, him⟩, ⟨hta, ta0, ta1, hpl, htb⟩⟩, hK, hO⟩ := h
  replace y0 : gI _ 102 34 = nI (P 5) := y0
  replace y1 : gI _ 102 35 = nI (P 6) := y1
  replace y2 : gI _ 102 36 = nI (P 7) := y2
  have hst := c_steps h'
  unfold fn_X11_steps
  rcases x_inK (v := v) (n := 1) (by omega) with ⟨e, g⟩ | ⟨e, j, hj, rfl⟩
  · replace e : fn_X12_in v 0 1 = some 0 := e
    refine twin_tt h' (e := 1) (t := 1) rfl (by decide) (by rw [show (1 : Int32) = nI 1 from rfl, c_needWhat (by omega) g]; rfl) fun E hE he => ?_
    unfold fn_X12_steps fn_X12_steps_20
    simp (disch := omega) only [Option.bind_some, Option.map_some, zlet_eq, ↓reduceIte, L_2, L_3, L_4, L_5, L_6, L_7, L_8, L_9, L_10, L_12, L_13, L_20, L_24, L_25, L_26, L_27, L_30, L_32, L_33, L_34, L_40, L_48, L_57, L_58, L_60, L_64, L_90, L_93, L_97, L_99, L_100, L_122, L_144, L_255, L_364, L_480, L_500, L_800, L_1000, L_100000, L_4096, L_1023, L_1024, nLe, nLt, nEq, nI_1, nI_add, pk_mul, nSn, nDn, nCl, zck_nI, zdv_nI, nNeg, nLe0, n0Lt, nEq0, nM1, m1N, m1Lt, nLm1, zcb_0, zcb_1, i10, i01, nEq1, n1Eq, nLt1, gI_eq, gI_nb, gI_na, x_badF, x_badT1, x_badT2, bt_0, bt_1, bit1_u, Bool.true_eq_false, Bool.false_eq_true, eq_self, Int32.or_zero, L_11, L_14, L_15, L_16, L_17, L_18, L_19, L_21, L_22, L_23, L_28, L_29, if_pos, if_neg, e]
  · replace e : fn_X12_in (nI j) 0 1 = some 1 := e
    rw [show fn_X11_needWhat (nI j) 1 = some 0 from c_needWhatJ (n := 1) (by omega) hj, Option.bind_some, if_pos rfl, show fn_X11_keptAt 5 D = some (gI D 101 5) from c_keptAt (k := 5) (by omega), Option.bind_some]
    have main : ∀ F, iv P F → gI F 105 = gI D 105 → gI F 128 = gI D 128 → (gI F 101 5 = nI (sSteps (P 0 * P 1) (P 2) (P 4) (gI D 128) (2 * P 5) 30 (gI D 105) 0).1 ∧ gI F 101 6 = nI (sSteps (P 0 * P 1) (P 2) (P 4) (gI D 128) (2 * P 5) 30 (gI D 105) 0).2) → twin (wk1 1) (fn_X11_steps_49 (nI j) F) (fn_X12_steps (nI j)) := by
      intro F hF f105 f128 ⟨k0, k1⟩
      unfold fn_X11_steps_49
      rw [show (5 : Int32) + nI j = nI (5 + j) from nI_add 5 j, c_keptAt (by omega), Option.bind_some]
      refine zok_some.mpr fun E hE => ?_
      have hi' := (hF.int hE).thr 0
      have m := r_lay hi'
      rw [zok_bind] at m
      unfold fn_X12_steps fn_X12_steps_20
      simp (disch := omega) only [Option.bind_some, Option.map_some, zlet_eq, ↓reduceIte, L_2, L_3, L_4, L_5, L_6, L_7, L_8, L_9, L_10, L_12, L_13, L_20, L_24, L_25, L_26, L_27, L_30, L_32, L_33, L_34, L_40, L_48, L_57, L_58, L_60, L_64, L_90, L_93, L_97, L_99, L_100, L_122, L_144, L_255, L_364, L_480, L_500, L_800, L_1000, L_100000, L_4096, L_1023, L_1024, nLe, nLt, nEq, nI_1, nI_add, pk_mul, nSn, nDn, nCl, zck_nI, zdv_nI, nNeg, nLe0, n0Lt, nEq0, nM1, m1N, m1Lt, nLm1, zcb_0, zcb_1, i10, i01, nEq1, n1Eq, nLt1, gI_eq, gI_nb, gI_na, x_badF, x_badT1, x_badT2, bt_0, bt_1, bit1_u, Bool.true_eq_false, Bool.false_eq_true, eq_self, Int32.or_zero, L_11, L_14, L_15, L_16, L_17, L_18, L_19, L_21, L_22, L_23, L_28, L_29, if_pos, if_neg, e]
      refine zok_bind.mpr (m.mono fun E1 hE1 => ?_)
      refine zok_bind.mpr (hE1.mono fun r ⟨r1, r2, r3, r4⟩ => ?_)
      have hrt := iv_rt hi' r4 r2 r3
      rw [r1]
      refine (r_steps43 (v := nI j) 30 0 zFU _ r.2 (by omega) (by unfold zFU; omega) hrt).mono fun q ⟨q1, q2⟩ => ⟨⟨P, pRN_iv (pRN_iv hi' r4) q2⟩, ⟨?_, ?_⟩, ?_⟩
      · rw [q2.1 _ _ (by unfold pRN; omega), r4.1 _ _ (by unfold pRN; omega), gI_eq]
      · rw [q1]
        have g105 : gI (sI E 102 0 0) 105 = gI D 105 := by rw [gIf (by omega), ← f105]; exact funext fun b => by show E.2 105 b = _; rw [hE]; rfl
        have g128 : gI (sI E 102 0 0) 128 = gI D 128 := by rw [gIf (by omega), ← f128]; exact funext fun b => by show E.2 128 b = _; rw [hE]; rfl
        rw [g105, g128]
        rcases (show j = 0 ∨ j = 1 by omega) with rfl | rfl
        · rw [if_pos (show nI 0 = 0 from rfl)]
          exact k0.symm
        · rw [if_neg (show ¬ nI 1 = 0 by decide)]
          exact k1.symm
      · rw [q2.l, r4.l]
        rfl
    by_cases q : gI D 101 5 = -1000000
    · rw [if_pos q]
      obtain ⟨r, er, e1, e2, e3, e4, e5⟩ := hst
      rw [Option.bind_eq_some_iff] at er
      obtain ⟨D6, e6, e7⟩ := er
      rw [e6, Option.bind_some, e7, Option.bind_some, show ∀ v (F : zD), fn_X11_keep 5 v F = some (sI F 101 5 v) from fun v F => c_keep (k := 5) (by omega) _, Option.bind_some]
      unfold fn_X6_pairsLeft
      rw [Option.bind_some, show ∀ v (F : zD), fn_X11_keep 6 v F = some (sI F 101 6 v) from fun v F => c_keep (k := 6) (by omega) _, Option.bind_some, gI_na (by omega), e1, e2]
      generalize hS1 : (sSteps (P 0 * P 1) (P 2) (P 4) (gI D 128) (2 * P 5) 30 (gI D 105) 0).1 = S1 at *
      generalize hS2 : (sSteps (P 0 * P 1) (P 2) (P 4) (gI D 128) (2 * P 5) 30 (gI D 105) 0).2 = S2 at *
      have hg : ag pM r.2 (sI (sI r.2 101 5 (nI S1)) 101 6 (nI S2)) := (ag.refl.sI (by unfold pM; omega)).sI (by unfold pM; omega)
      exact main _ (pM_iv e3 hg (e3.2.1.mk hg (Or.inl ⟨by simp (disch := omega) only [Option.bind_some, Option.map_some, zlet_eq, ↓reduceIte, L_2, L_3, L_4, L_5, L_6, L_7, L_8, L_9, L_10, L_12, L_13, L_20, L_24, L_25, L_26, L_27, L_30, L_32, L_33, L_34, L_40, L_48, L_57, L_58, L_60, L_64, L_90, L_93, L_97, L_99, L_100, L_122, L_144, L_255, L_364, L_480, L_500, L_800, L_1000, L_100000, L_4096, L_1023, L_1024, nLe, nLt, nEq, nI_1, nI_add, pk_mul, nSn, nDn, nCl, zck_nI, zdv_nI, nNeg, nLe0, n0Lt, nEq0, nM1, m1N, m1Lt, nLm1, zcb_0, zcb_1, i10, i01, nEq1, n1Eq, nLt1, gI_eq, gI_nb, gI_na, x_badF, x_badT1, x_badT2, bt_0, bt_1, bit1_u, Bool.true_eq_false, Bool.false_eq_true, eq_self, Int32.or_zero, L_11, L_14, L_15, L_16, L_17, L_18, L_19, L_21, L_22, L_23, L_28, L_29, if_pos, if_neg], by simp (disch := omega) only [Option.bind_some, Option.map_some, zlet_eq, ↓reduceIte, L_2, L_3, L_4, L_5, L_6, L_7, L_8, L_9, L_10, L_12, L_13, L_20, L_24, L_25, L_26, L_27, L_30, L_32, L_33, L_34, L_40, L_48, L_57, L_58, L_60, L_64, L_90, L_93, L_97, L_99, L_100, L_122, L_144, L_255, L_364, L_480, L_500, L_800, L_1000, L_100000, L_4096, L_1023, L_1024, nLe, nLt, nEq, nI_1, nI_add, pk_mul, nSn, nDn, nCl, zck_nI, zdv_nI, nNeg, nLe0, n0Lt, nEq0, nM1, m1N, m1Lt, nLm1, zcb_0, zcb_1, i10, i01, nEq1, n1Eq, nLt1, gI_eq, gI_nb, gI_na, x_badF, x_badT1, x_badT2, bt_0, bt_1, bit1_u, Bool.true_eq_false, Bool.false_eq_true, eq_self, Int32.or_zero, L_11, L_14, L_15, L_16, L_17, L_18, L_19, L_21, L_22, L_23, L_28, L_29, if_pos, if_neg]⟩) (Or.inl ⟨by simp (disch := omega) only [Option.bind_some, Option.map_some, zlet_eq, ↓reduceIte, L_2, L_3, L_4, L_5, L_6, L_7, L_8, L_9, L_10, L_12, L_13, L_20, L_24, L_25, L_26, L_27, L_30, L_32, L_33, L_34, L_40, L_48, L_57, L_58, L_60, L_64, L_90, L_93, L_97, L_99, L_100, L_122, L_144, L_255, L_364, L_480, L_500, L_800, L_1000, L_100000, L_4096, L_1023, L_1024, nLe, nLt, nEq, nI_1, nI_add, pk_mul, nSn, nDn, nCl, zck_nI, zdv_nI, nNeg, nLe0, n0Lt, nEq0, nM1, m1N, m1Lt, nLm1, zcb_0, zcb_1, i10, i01, nEq1, n1Eq, nLt1, gI_eq, gI_nb, gI_na, x_badF, x_badT1, x_badT2, bt_0, bt_1, bit1_u, Bool.true_eq_false, Bool.false_eq_true, eq_self, Int32.or_zero, L_11, L_14, L_15, L_16, L_17, L_18, L_19, L_21, L_22, L_23, L_28, L_29, if_pos, if_neg], by simp (disch := omega) only [Option.bind_some, Option.map_some, zlet_eq, ↓reduceIte, L_2, L_3, L_4, L_5, L_6, L_7, L_8, L_9, L_10, L_12, L_13, L_20, L_24, L_25, L_26, L_27, L_30, L_32, L_33, L_34, L_40, L_48, L_57, L_58, L_60, L_64, L_90, L_93, L_97, L_99, L_100, L_122, L_144, L_255, L_364, L_480, L_500, L_800, L_1000, L_100000, L_4096, L_1023, L_1024, nLe, nLt, nEq, nI_1, nI_add, pk_mul, nSn, nDn, nCl, zck_nI, zdv_nI, nNeg, nLe0, n0Lt, nEq0, nM1, m1N, m1Lt, nLm1, zcb_0, zcb_1, i10, i01, nEq1, n1Eq, nLt1, gI_eq, gI_nb, gI_na, x_badF, x_badT1, x_badT2, bt_0, bt_1, bit1_u, Bool.true_eq_false, Bool.false_eq_true, eq_self, Int32.or_zero, L_11, L_14, L_15, L_16, L_17, L_18, L_19, L_21, L_22, L_23, L_28, L_29, if_pos, if_neg], by simp (disch := omega) only [Option.bind_some, Option.map_some, zlet_eq, ↓reduceIte, L_2, L_3, L_4, L_5, L_6, L_7, L_8, L_9, L_10, L_12, L_13, L_20, L_24, L_25, L_26, L_27, L_30, L_32, L_33, L_34, L_40, L_48, L_57, L_58, L_60, L_64, L_90, L_93, L_97, L_99, L_100, L_122, L_144, L_255, L_364, L_480, L_500, L_800, L_1000, L_100000, L_4096, L_1023, L_1024, nLe, nLt, nEq, nI_1, nI_add, pk_mul, nSn, nDn, nCl, zck_nI, zdv_nI, nNeg, nLe0, n0Lt, nEq0, nM1, m1N, m1Lt, nLm1, zcb_0, zcb_1, i10, i01, nEq1, n1Eq, nLt1, gI_eq, gI_nb, gI_na, x_badF, x_badT1, x_badT2, bt_0, bt_1, bit1_u, Bool.true_eq_false, Bool.false_eq_true, eq_self, Int32.or_zero, L_11, L_14, L_15, L_16, L_17, L_18, L_19, L_21, L_22, L_23, L_28, L_29, if_pos, if_neg]⟩) (Or.inr ⟨by rw [e4, e5, hS1]; simp (disch := omega) only [Option.bind_some, Option.map_some, zlet_eq, ↓reduceIte, L_2, L_3, L_4, L_5, L_6, L_7, L_8, L_9, L_10, L_12, L_13, L_20, L_24, L_25, L_26, L_27, L_30, L_32, L_33, L_34, L_40, L_48, L_57, L_58, L_60, L_64, L_90, L_93, L_97, L_99, L_100, L_122, L_144, L_255, L_364, L_480, L_500, L_800, L_1000, L_100000, L_4096, L_1023, L_1024, nLe, nLt, nEq, nI_1, nI_add, pk_mul, nSn, nDn, nCl, zck_nI, zdv_nI, nNeg, nLe0, n0Lt, nEq0, nM1, m1N, m1Lt, nLm1, zcb_0, zcb_1, i10, i01, nEq1, n1Eq, nLt1, gI_eq, gI_nb, gI_na, x_badF, x_badT1, x_badT2, bt_0, bt_1, bit1_u, Bool.true_eq_false, Bool.false_eq_true, eq_self, Int32.or_zero, L_11, L_14, L_15, L_16, L_17, L_18, L_19, L_21, L_22, L_23, L_28, L_29, if_pos, if_neg], by rw [e4, e5, hS2]; simp (disch := omega) only [Option.bind_some, Option.map_some, zlet_eq, ↓reduceIte, L_2, L_3, L_4, L_5, L_6, L_7, L_8, L_9, L_10, L_12, L_13, L_20, L_24, L_25, L_26, L_27, L_30, L_32, L_33, L_34, L_40, L_48, L_57, L_58, L_60, L_64, L_90, L_93, L_97, L_99, L_100, L_122, L_144, L_255, L_364, L_480, L_500, L_800, L_1000, L_100000, L_4096, L_1023, L_1024, nLe, nLt, nEq, nI_1, nI_add, pk_mul, nSn, nDn, nCl, zck_nI, zdv_nI, nNeg, nLe0, n0Lt, nEq0, nM1, m1N, m1Lt, nLm1, zcb_0, zcb_1, i10, i01, nEq1, n1Eq, nLt1, gI_eq, gI_nb, gI_na, x_badF, x_badT1, x_badT2, bt_0, bt_1, bit1_u, Bool.true_eq_false, Bool.false_eq_true, eq_self, Int32.or_zero, L_11, L_14, L_15, L_16, L_17, L_18, L_19, L_21, L_22, L_23, L_28, L_29, if_pos, if_neg]⟩) (Or.inl (by simp (disch := omega) only [Option.bind_some, Option.map_some, zlet_eq, ↓reduceIte, L_2, L_3, L_4, L_5, L_6, L_7, L_8, L_9, L_10, L_12, L_13, L_20, L_24, L_25, L_26, L_27, L_30, L_32, L_33, L_34, L_40, L_48, L_57, L_58, L_60, L_64, L_90, L_93, L_97, L_99, L_100, L_122, L_144, L_255, L_364, L_480, L_500, L_800, L_1000, L_100000, L_4096, L_1023, L_1024, nLe, nLt, nEq, nI_1, nI_add, pk_mul, nSn, nDn, nCl, zck_nI, zdv_nI, nNeg, nLe0, n0Lt, nEq0, nM1, m1N, m1Lt, nLm1, zcb_0, zcb_1, i10, i01, nEq1, n1Eq, nLt1, gI_eq, gI_nb, gI_na, x_badF, x_badT1, x_badT2, bt_0, bt_1, bit1_u, Bool.true_eq_false, Bool.false_eq_true, eq_self, Int32.or_zero, L_11, L_14, L_15, L_16, L_17, L_18, L_19, L_21, L_22, L_23, L_28, L_29, if_pos, if_neg])) (Or.inl (by simp (disch := omega) only [Option.bind_some, Option.map_some, zlet_eq, ↓reduceIte, L_2, L_3, L_4, L_5, L_6, L_7, L_8, L_9, L_10, L_12, L_13, L_20, L_24, L_25, L_26, L_27, L_30, L_32, L_33, L_34, L_40, L_48, L_57, L_58, L_60, L_64, L_90, L_93, L_97, L_99, L_100, L_122, L_144, L_255, L_364, L_480, L_500, L_800, L_1000, L_100000, L_4096, L_1023, L_1024, nLe, nLt, nEq, nI_1, nI_add, pk_mul, nSn, nDn, nCl, zck_nI, zdv_nI, nNeg, nLe0, n0Lt, nEq0, nM1, m1N, m1Lt, nLm1, zcb_0, zcb_1, i10, i01, nEq1, n1Eq, nLt1, gI_eq, gI_nb, gI_na, x_badF, x_badT1, x_badT2, bt_0, bt_1, bit1_u, Bool.true_eq_false, Bool.false_eq_true, eq_self, Int32.or_zero, L_11, L_14, L_15, L_16, L_17, L_18, L_19, L_21, L_22, L_23, L_28, L_29, if_pos, if_neg])) (Or.inl (by simp (disch := omega) only [Option.bind_some, Option.map_some, zlet_eq, ↓reduceIte, L_2, L_3, L_4, L_5, L_6, L_7, L_8, L_9, L_10, L_12, L_13, L_20, L_24, L_25, L_26, L_27, L_30, L_32, L_33, L_34, L_40, L_48, L_57, L_58, L_60, L_64, L_90, L_93, L_97, L_99, L_100, L_122, L_144, L_255, L_364, L_480, L_500, L_800, L_1000, L_100000, L_4096, L_1023, L_1024, nLe, nLt, nEq, nI_1, nI_add, pk_mul, nSn, nDn, nCl, zck_nI, zdv_nI, nNeg, nLe0, n0Lt, nEq0, nM1, m1N, m1Lt, nLm1, zcb_0, zcb_1, i10, i01, nEq1, n1Eq, nLt1, gI_eq, gI_nb, gI_na, x_badF, x_badT1, x_badT2, bt_0, bt_1, bit1_u, Bool.true_eq_false, Bool.false_eq_true, eq_self, Int32.or_zero, L_11, L_14, L_15, L_16, L_17, L_18, L_19, L_21, L_22, L_23, L_28, L_29, if_pos, if_neg])) (fun s hs' => Or.inl ⟨by simp (disch := omega) only [Option.bind_some, Option.map_some, zlet_eq, ↓reduceIte, L_2, L_3, L_4, L_5, L_6, L_7, L_8, L_9, L_10, L_12, L_13, L_20, L_24, L_25, L_26, L_27, L_30, L_32, L_33, L_34, L_40, L_48, L_57, L_58, L_60, L_64, L_90, L_93, L_97, L_99, L_100, L_122, L_144, L_255, L_364, L_480, L_500, L_800, L_1000, L_100000, L_4096, L_1023, L_1024, nLe, nLt, nEq, nI_1, nI_add, pk_mul, nSn, nDn, nCl, zck_nI, zdv_nI, nNeg, nLe0, n0Lt, nEq0, nM1, m1N, m1Lt, nLm1, zcb_0, zcb_1, i10, i01, nEq1, n1Eq, nLt1, gI_eq, gI_nb, gI_na, x_badF, x_badT1, x_badT2, bt_0, bt_1, bit1_u, Bool.true_eq_false, Bool.false_eq_true, eq_self, Int32.or_zero, L_11, L_14, L_15, L_16, L_17, L_18, L_19, L_21, L_22, L_23, L_28, L_29, if_pos, if_neg], by simp (disch := omega) only [Option.bind_some, Option.map_some, zlet_eq, ↓reduceIte, L_2, L_3, L_4, L_5, L_6, L_7, L_8, L_9, L_10, L_12, L_13, L_20, L_24, L_25, L_26, L_27, L_30, L_32, L_33, L_34, L_40, L_48, L_57, L_58, L_60, L_64, L_90, L_93, L_97, L_99, L_100, L_122, L_144, L_255, L_364, L_480, L_500, L_800, L_1000, L_100000, L_4096, L_1023, L_1024, nLe, nLt, nEq, nI_1, nI_add, pk_mul, nSn, nDn, nCl, zck_nI, zdv_nI, nNeg, nLe0, n0Lt, nEq0, nM1, m1N, m1Lt, nLm1, zcb_0, zcb_1, i10, i01, nEq1, n1Eq, nLt1, gI_eq, gI_nb, gI_na, x_badF, x_badT1, x_badT2, bt_0, bt_1, bit1_u, Bool.true_eq_false, Bool.false_eq_true, eq_self, Int32.or_zero, L_11, L_14, L_15, L_16, L_17, L_18, L_19, L_21, L_22, L_23, L_28, L_29, if_pos, if_neg]⟩))) (by rw [gIf (by omega), gIf (by omega), e4]) (by rw [gIf (by omega), gIf (by omega), e5]) ⟨by simp (disch := omega) only [Option.bind_some, Option.map_some, zlet_eq, ↓reduceIte, L_2, L_3, L_4, L_5, L_6, L_7, L_8, L_9, L_10, L_12, L_13, L_20, L_24, L_25, L_26, L_27, L_30, L_32, L_33, L_34, L_40, L_48, L_57, L_58, L_60, L_64, L_90, L_93, L_97, L_99, L_100, L_122, L_144, L_255, L_364, L_480, L_500, L_800, L_1000, L_100000, L_4096, L_1023, L_1024, nLe, nLt, nEq, nI_1, nI_add, pk_mul, nSn, nDn, nCl, zck_nI, zdv_nI, nNeg, nLe0, n0Lt, nEq0, nM1, m1N, m1Lt, nLm1, zcb_0, zcb_1, i10, i01, nEq1, n1Eq, nLt1, gI_eq, gI_nb, gI_na, x_badF, x_badT1, x_badT2, bt_0, bt_1, bit1_u, Bool.true_eq_false, Bool.false_eq_true, eq_self, Int32.or_zero, L_11, L_14, L_15, L_16, L_17, L_18, L_19, L_21, L_22, L_23, L_28, L_29, if_pos, if_neg], by simp (disch := omega) only [Option.bind_some, Option.map_some, zlet_eq, ↓reduceIte, L_2, L_3, L_4, L_5, L_6, L_7, L_8, L_9, L_10, L_12, L_13, L_20, L_24, L_25, L_26, L_27, L_30, L_32, L_33, L_34, L_40, L_48, L_57, L_58, L_60, L_64, L_90, L_93, L_97, L_99, L_100, L_122, L_144, L_255, L_364, L_480, L_500, L_800, L_1000, L_100000, L_4096, L_1023, L_1024, nLe, nLt, nEq, nI_1, nI_add, pk_mul, nSn, nDn, nCl, zck_nI, zdv_nI, nNeg, nLe0, n0Lt, nEq0, nM1, m1N, m1Lt, nLm1, zcb_0, zcb_1, i10, i01, nEq1, n1Eq, nLt1, gI_eq, gI_nb, gI_na, x_badF, x_badT1, x_badT2, bt_0, bt_1, bit1_u, Bool.true_eq_false, Bool.false_eq_true, eq_self, Int32.or_zero, L_11, L_14, L_15, L_16, L_17, L_18, L_19, L_21, L_22, L_23, L_28, L_29, if_pos, if_neg]⟩
    · rw [if_neg q]
      rcases hK.2.2.2.1 with k | k
      · exact absurd k q
      · exact main D h' rfl rfl k
end M74
