/-! THE MATHEMATICS: strokes, both -/
section M86
variable {D : zD} {P : Nat → Nat} {nc c ns d W h : Nat} {bl : Nat → Bool}
theorem r_rows {s : Nat} (hs : s < 12) (h14 : gI D 102 14 = nI W) (h15 : gI D 102 15 = nI h) (hW : 2 ≤ W ∧ W ≤ 6) (hh : h ≤ 5) (hp : ∀ i, i < 30 → bt (gI D 105 s) i = bl i) (hbl : ∀ i, W * h ≤ i → bl i = false) : zok (fn_X12_strokes_30 (nI s) zFU 0 D) fun q => q.1 = nI (kO bl (hr W bl) (vr W bl) 30).1 ∧ agL pRs D q.2 := by
  have h30 := wh_le hW.2 hh
  refine z_inv (W * h) (fun n i (E : zD) => fn_X12_strokes_30 (nI s) n (nI i) E) (fun i E => (∀ j, j < i → gI E 196 j = nz (bl j) (hr W bl j) ∧ gI E 197 j = nz (bl j) (vr W bl j) ∧ gI E 198 j = -1) ∧ agL pRs D E) _ ?_ ?_ 0 zFU D (Nat.zero_le _) (zfu_gt (by omega)) ⟨fun j hj => absurd hj (Nat.not_lt_zero _), agL.refl⟩
  · intro n i E hi ⟨g1, g2⟩ ih
    show zok (fn_X12_strokes_30 (nI s) (n + 1) (nI i) E) _
    have e14 : gI E 102 14 = nI W := by rw [g2.1 _ _ (by unfold pRs; omega), h14]
    rw [fn_X12_strokes_30, r_cells (w := W) (k := h) e14 (by rw [g2.1 _ _ (by unfold pRs; omega), h15]), Option.bind_some, if_neg (nI_ge hi (by omega)), zck_nI hs (by omega), nI_clamp (by omega), g2.1 105 _ (by unfold pRs; omega)]
    have j0 := bt_1 (gI D 105 s) i (by omega)
    rw [hp i (by omega)] at j0
    have a1 := hr_le (W := W) (bl := bl) i
    have a2 := vr_le (W := W) (bl := bl) i
    have a3 := hr_le (W := W) (bl := bl) (i - 1)
    have a4 := vr_le (W := W) (bl := bl) (i - W)
    have fin : ∀ x y, x = nz (bl i) (hr W bl i) → y = nz (bl i) (vr W bl i) → zok (fn_X12_strokes_156 (nI s) (fn_X12_strokes_30 (nI s) n) (nI i) (nI i) y (sI E 196 i x)) fun q => q.1 = nI (kO bl (hr W bl) (vr W bl) 30).1 ∧ agL pRs D q.2 := by
      intro x y hx hy
      unfold fn_X12_strokes_156
      rw [zck_nI (by omega) (by omega), nI_clamp (by omega), zlet_eq, zck_nI (by omega) (by omega), zlet_eq, nI_1]
      refine ih _ ⟨fun j hj => ?_, agL_sI (agL_sI (agL_sI g2 (by unfold pRs; omega)) (by unfold pRs; omega)) (by unfold pRs; omega)⟩
      by_cases q : j = i
      · subst q
        exact ⟨by rw [gI_na (by omega), gI_na (by omega), gI_eq, hx], by rw [gI_na (by omega), gI_eq, hy], gI_eq⟩
      · rw [gI_na (by omega), gI_na (by omega), gI_nb q, gI_na (by omega), gI_nb q, gI_na (by omega), gI_nb q, gI_na (by omega), gI_na (by omega)]
        exact g1 j (by omega)
    by_cases q1 : bl i = true
    · rw [if_pos (j0.mpr q1)]
      unfold fn_X12_strokes_57
      rw [if_neg (show ¬ (1 : Int32) = 0 by decide), e14, zdv_nI (by omega) (by omega), nRn _ _ (by omega) (by omega) (by omega)]
      have hm := Nat.mod_lt i (show 0 < W by omega)
      -- the column
      have col : ∀ x, x = nz (bl i) (hr W bl i) → zok (fn_X12_strokes_104 (nI s) (fn_X12_strokes_30 (nI s) n) (nI i) 1 (nI i) x E) fun q => q.1 = nI (kO bl (hr W bl) (vr W bl) 30).1 ∧ agL pRs D q.2 := by
        intro x hx
        unfold fn_X12_strokes_104
        rw [zck_nI (by omega) (by omega), nI_clamp (by omega), zlet_eq, if_neg (show ¬ (1 : Int32) = 0 by decide), gI_na (by omega), e14]
        have new : ¬ (0 < W ∧ W ≤ i ∧ bl (i - W) = true) → zok (fn_X12_strokes_155 (nI s) (fn_X12_strokes_30 (nI s) n) (nI i) (nI i) (sI E 196 i x)) fun q => q.1 = nI (kO bl (hr W bl) (vr W bl) 30).1 ∧ agL pRs D q.2 := by
          intro q
          unfold fn_X12_strokes_155
          exact fin x _ hx (by rw [nz_t q1, vr, dif_neg q])
        by_cases q2 : i < W
        · rw [if_pos (nI_lt q2 (by omega))]
          exact new (by omega)
        · have g3 := g1 (i - W) (by omega)
          rw [if_neg (show ¬ nI i < nI W by rw [nLt _ _ (by omega) (by omega)]; omega), nSn _ _ (by omega), zck_nI (by omega) (by omega), zck_nI (by omega) (by omega), nI_clamp (by omega), gI_na (by omega), g3.2.1]
          by_cases q3 : bl (i - W) = true
          · rw [nz_t q3, if_neg (fun e => (nM1 _ (by omega)).mp e)]
            refine fin x _ hx ?_
            rw [nz_t q1, show vr W bl i = vr W bl (i - W) from by rw [vr, dif_pos ⟨by omega, by omega, q3⟩]]
          · rw [nz_f q3, if_pos rfl]
            exact new (fun r => q3 r.2.2)
      have newr : ¬ (0 < i % W ∧ 0 < i ∧ bl (i - 1) = true) → zok (fn_X12_strokes_103 (nI s) (fn_X12_strokes_30 (nI s) n) (nI i) 1 (nI i) E) fun q => q.1 = nI (kO bl (hr W bl) (vr W bl) 30).1 ∧ agL pRs D q.2 := by
        intro q
        unfold fn_X12_strokes_103
        exact col _ (by rw [nz_t q1, hr, dif_neg q])
      by_cases q2 : i % W = 0
      · rw [if_pos (show nI (i % W) ≤ 0 by rw [q2]; decide)]
        exact newr (by omega)
      · have hi0 : i ≠ 0 := fun e => q2 (by rw [e, Nat.zero_mod])
        have g3 := g1 (i - 1) (by omega)
        rw [if_neg (show ¬ nI (i % W) ≤ 0 from fun e => q2 ((nLe0 _ (by omega)).mp e)), nS1 _ (by omega), zck_nI (by omega) (by omega), zck_nI (by omega) (by omega), nI_clamp (by omega), g3.1]
        by_cases q3 : bl (i - 1) = true
        · rw [nz_t q3, if_neg (fun e => (nM1 _ (by omega)).mp e)]
          refine col _ ?_
          rw [nz_t q1, show hr W bl i = hr W bl (i - 1) from by rw [hr, dif_pos ⟨by omega, by omega, q3⟩]]
        · rw [nz_f q3, if_pos rfl]
          exact newr (fun r => q3 r.2.2)
    · rw [if_neg (fun e => q1 (j0.mp e))]
      unfold fn_X12_strokes_57
      rw [if_pos rfl]
      unfold fn_X12_strokes_104
      rw [zck_nI (by omega) (by omega), nI_clamp (by omega), zlet_eq, if_pos rfl]
      exact fin _ _ (nz_f q1 _).symm (nz_f q1 _).symm
  · intro n E ⟨g1, g2⟩
    show zok (fn_X12_strokes_30 (nI s) (n + 1) (nI (W * h)) E) _
    have e14 : gI E 102 14 = nI W := by rw [g2.1 _ _ (by unfold pRs; omega), h14]
    have e15 : gI E 102 15 = nI h := by rw [g2.1 _ _ (by unfold pRs; omega), h15]
    rw [fn_X12_strokes_30, r_cells (w := W) (k := h) e14 e15, Option.bind_some, if_pos (nI_le (Nat.le_refl _) (by omega))]
    exact (r_count e14 e15 h30 hW.2 hh hbl hr_le vr_le (nI s) (fun i hi => ⟨(g1 i hi).1, (g1 i hi).2.1⟩) (fun i hi => (g1 i hi).2.2)).mono fun q ⟨k1, k2⟩ => ⟨k1, g2.trans k2⟩
theorem pSt_iv {E : zD} (hi : iv P D) (g : ag pSt D E) : iv P E := hi.keep (g.mono (by unfold pSt pcr pA pB pS pI pT; intros; omega)) (g.mono (by unfold pSt pK; intros; omega)) (g.mono (by unfold pSt pO; intros; omega))
theorem pRs_iv {E : zD} (hi : iv P D) (g : agL pRs D E) : iv P E := hi.keep (g.1.mono (by unfold pRs pcr pA pB pS pI pT; intros; omega)) (g.1.mono (by unfold pRs pK; intros; omega)) (g.1.mono (by unfold pRs pO; intros; omega))
theorem tk_strokes (hv : iv P D) (v : Int32) : twin (wk1 3) (fn_X11_strokes v D) (fn_X12_strokes v) := by
  have h' := hv
  obtain ⟨⟨⟨hb, ⟨a0, a1, a2, a3⟩, ⟨b0, b1, b2, b3⟩, hs, hw⟩, ⟨hc, c1, c2, hcv⟩, ⟨hd, ⟨z0, z1, z2⟩, ⟨y0, y1, y2⟩, hp, ht⟩, ⟨hi, i0, i1, him⟩, ⟨hta, ta0, ta1, hpl, htb⟩⟩, hK, hO⟩ := hv
  replace y0 : gI _ 102 34 = nI (P 5) := y0
  replace y1 : gI _ 102 35 = nI (P 6) := y1
  replace y2 : gI _ 102 36 = nI (P 7) := y2
  have h30 := wh_le (w := P 0) (h := P 1) (by omega) (by omega)
  unfold fn_X11_strokes
  rcases x_inN (v := v) (n := P 2) (by omega) with ⟨e, g⟩ | ⟨e, s, hs', rfl⟩
  · refine twin_tt h' (e := 3) (t := 1) rfl (by decide) (by rw [c_needSign a2 g]; rfl) fun E hE he => ?_
    rw [gE he] at b2
    unfold fn_X12_strokes fn_X12_isSign
    rw [zlet_eq, gI_nb (by omega), b2, e, Option.bind_some, zcb_0, Option.bind_some, if_pos rfl]
    unfold fn_X12_strokes_19
    rw [x_badT1, Option.bind_some]
    exact if_neg (show ¬ (1 : Int32) = 0 by decide)
  · obtain ⟨s1, s2, s3, s4⟩ := hs s hs'
    have s5 := (un_iff (by omega)).mp s3
    have hp : ∀ i, i < 30 → bt (gI D 4 s) i = bt (gI D 105 s) i := fun i _ => by rw [s1]
    have hbl : ∀ i, P 0 * P 1 ≤ i → bt (gI D 105 s) i = false := fun i hi => by
      rcases Nat.lt_or_ge i 32 with g | g
      · exact s5 i hi g
      · exact b_big g
    rw [c_needSignJ a2 hs' (by omega), Option.bind_some, if_pos rfl, v_paint a2 hs' (by omega), Option.bind_some]
    refine (c_fewest (D := D) hp a0 a1 (by omega) (by omega) hbl).bind fun q ⟨q1, q2⟩ => ?_
    refine zok_some.mpr fun E hE => ?_
    have hi' := ((pSt_iv h' q2).int hE).thr 0
    have f105 : gI (sI E 102 0 0) 105 s = gI D 105 s := by
      rw [gI_na (by omega), ← q2 105 s (by unfold pSt; omega)]
      show E.2 105 s = _
      rw [hE]
      rfl
    unfold fn_X12_strokes fn_X12_isSign
    rw [zlet_eq, hi'.1.1.2.2.1.2.2.1, e, Option.bind_some, zcb_1, Option.bind_some, if_neg (by decide)]
    unfold fn_X12_strokes_19
    rw [x_badF, Option.bind_some, if_pos rfl]
    refine (r_rows (s := s) (by omega) hi'.1.1.2.2.1.1 hi'.1.1.2.2.1.2.1 (by omega) (by omega) (fun i _ => by rw [f105]) hbl).mono fun r ⟨r1, r2⟩ => ?_
    have hiv := pRs_iv hi' r2
    exact ⟨⟨P, hiv⟩, ⟨by rw [r2.1 _ _ (by unfold pRs; omega), gI_eq], by rw [r1, q1]⟩, by rw [r2.l]; rfl⟩
end M86
