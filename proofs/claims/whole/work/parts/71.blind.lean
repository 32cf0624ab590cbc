/-! THE MATHEMATICS: kept answers; blind -/
def pM (a _b : Nat) : Prop := a ≠ 101
section M71
variable {D : zD} {P : Nat → Nat}
theorem iv_K.mk {E : zD} (h : iv_K P D) (g : ag pM D E)
    (c0 : (gI E 101 0 = gI D 101 0 ∧ gI E 101 1 = gI D 101 1) ∨ (gI E 101 0 = nI (sBl (P 2) (gI D 105) (P 4) (gI D 128) (2 * P 5)) ∧ gI E 101 1 = nI (pby (P 2) (gI D 105) (gI D 128) (2 * P 5) (sBl (P 2) (gI D 105) (P 4) (gI D 128) (2 * P 5)))))
    (c2 : (gI E 101 2 = gI D 101 2 ∧ gI E 101 3 = gI D 101 3 ∧ gI E 101 4 = gI D 101 4) ∨ sp_ch (P 0 * P 1) (P 2) (gI D 105) (P 4) (gI D 128) (2 * P 5) (gI E 101 2) (gI E 101 3) (gI E 101 4))
    (c5 : (gI E 101 5 = gI D 101 5 ∧ gI E 101 6 = gI D 101 6) ∨ (gI E 101 5 = nI (sSteps (P 0 * P 1) (P 2) (P 4) (gI D 128) (2 * P 5) 30 (gI D 105) 0).1 ∧ gI E 101 6 = nI (sSteps (P 0 * P 1) (P 2) (P 4) (gI D 128) (2 * P 5) 30 (gI D 105) 0).2))
    (c7 : gI E 101 7 = gI D 101 7 ∨ gI E 101 7 = nI (sMM (cfp (P 4) (gI D 128) (2 * P 5) (gI D 105)) (P 2) (P 2) 0 (fun _ => true)))
    (c8 : gI E 101 8 = gI D 101 8 ∨ sp_mo (P 0 * P 1) (P 4) (gI D 128) (2 * P 5) (gI E 101 8))
    (c9 : gI E 101 9 = gI D 101 9 ∨ gI E 101 9 = sTaken (P 0 * P 1) (P 4) (gI D 128) (2 * P 5))
    (cl : ∀ s, s < P 2 → (gI E 101 (10 + 2 * s) = gI D 101 (10 + 2 * s) ∧ gI E 101 (11 + 2 * s) = gI D 101 (11 + 2 * s)) ∨ sp_le (P 0 * P 1) (P 2) (gI D 105) (2 * P 5) s (gI E 101 (10 + 2 * s)) (gI E 101 (11 + 2 * s))) : iv_K P E := by
  obtain ⟨h0, h1, h2, h3, h4, h5, h6, h7⟩ := h
  unfold iv_K
  rw [show gI E 105 = gI D 105 from funext fun b => g _ _ (by unfold pM; omega), show gI E 128 = gI D 128 from funext fun b => g _ _ (by unfold pM; omega), g 0 16 (by unfold pM; omega)]
  refine ⟨?_, ?_, ?_, ?_, ?_, ?_, ?_, fun s hs => ?_⟩
  · rcases h0 with h0 | ⟨h0, ht⟩
    · exact Or.inl h0
    · exact Or.inr ⟨h0, ht.keep fun k j a b => g k j (by unfold pM; omega)⟩
  · rcases c0 with c0 | c0
    · rw [c0.1, c0.2]; exact h1
    · exact Or.inr c0
  · rcases c2 with c2 | c2
    · rw [c2.1, c2.2.1, c2.2.2]; exact h2
    · exact Or.inr c2
  · rcases c5 with c5 | c5
    · rw [c5.1, c5.2]; exact h3
    · exact Or.inr c5
  · rcases c7 with c7 | c7
    · rw [c7]; exact h4
    · exact Or.inr c7
  · rcases c8 with c8 | c8
    · rw [c8]; exact h5
    · exact Or.inr c8
  · rcases c9 with c9 | c9
    · rw [c9]; exact h6
    · exact Or.inr c9
  · rcases cl s hs with cl | cl
    · rw [cl.1, cl.2]; exact h7 s hs
    · exact Or.inr cl
theorem pM_iv {E : zD} (h : iv P D) (g : ag pM D E) (k : iv_K P E) : iv P E := ⟨agC.C (g.mono (by unfold pM pcr pA pB pS pI pT; intros; omega)) h.1, k, (g.mono (by unfold pM pO; intros; omega)).O (g.mono (by unfold pM pS; intros; omega)) h.1.2.2.1.1.2.2 h.2.2⟩
theorem c_keptAt {k : Nat} (hk : k < 34) : fn_X11_keptAt (nI k) D = some (gI D 101 k) := by
  unfold fn_X11_keptAt
  rw [if_neg (nI_pos (by omega)), if_neg (show ¬ Int32.ofNat 34 ≤ nI k from nI_ge (b := 34) (by omega) (by omega)), zck_nI hk (by omega), nI_clamp (by omega)]
theorem c_keep {k : Nat} (hk : k < 34) (v : Int32) : fn_X11_keep (nI k) v D = some (sI D 101 k v) := by
  unfold fn_X11_keep
  rw [if_neg (nI_pos (by omega)), if_neg (show ¬ Int32.ofNat 34 ≤ nI k from nI_ge (b := 34) (by omega) (by omega)), zck_nI hk (by omega), nI_clamp (by omega)]
  rfl
theorem nUnk {n : Nat} (hn : n < 2147483648) : nI n ≠ (-1000000 : Int32) := fun e => by
  have h1 : (nI n).toInt = (-1000000 : Int32).toInt := by rw [e]
  rw [nI_toInt (by omega), show (-1000000 : Int32).toInt = -1000000 from rfl] at h1
  omega
/-! blind -/
theorem pby_cong {ns : Nat} {pt qt cv cw : Nat → Int32} {e k : Nat} (h : ∀ s, s < ns → pt s = qt s) (hk : cv k = cw k) : pby ns pt cv e k = pby ns qt cw e k := pst_ind fun i j hi hj => by rw [h i hi, h j (by omega), hk]
theorem sBl_cong {ns nc : Nat} {pt qt cv cw : Nat → Int32} {e : Nat} (h : ∀ s, s < ns → pt s = qt s) (hk : ∀ k, k < nc → cv k = cw k) : sBl ns pt nc cv e = sBl ns qt nc cw e := by
  unfold sBl
  rcases Nat.eq_zero_or_pos nc with q | q
  · subst q; rfl
  · have : ∀ m i b, i + m = nc → b < nc → zfo (fun k b => if pby ns pt cv e b < pby ns pt cv e k then k else b) m i b = zfo (fun k b => if pby ns qt cw e b < pby ns qt cw e k then k else b) m i b := by
      intro m
      induction m with
      | zero => intro i b _ _; rfl
      | succ m ih =>
        intro i b hi hb
        rw [zfo, zfo, pby_cong h (hk b hb), pby_cong h (hk i (by omega))]
        refine ih (i + 1) _ (by omega) ?_
        split <;> omega
    exact this nc 0 0 (by omega) q
theorem sBl_lt {ns nc : Nat} {pt cv : Nat → Int32} {e : Nat} (h : 1 ≤ nc) : sBl ns pt nc cv e < nc := by
  unfold sBl
  refine zfo_inv (N := nc) (fun _ b => b < nc) (fun k b hk hb => ?_) (by omega) (by omega)
  split <;> omega
theorem pby_le {ns : Nat} {pt cv : Nat → Int32} {e k : Nat} (hn : ns ≤ 12) : pby ns pt cv e k ≤ 144 := prs_le hn
theorem c_pairsBy {ns nc e k : Nat} (h2 : gI D 3 2 = nI ns) (hn : ns ≤ 12) (h20 : gI D 20 1 = nI nc) (hnc : nc ≤ 500) (hk : k < nc) (he : e < 100) : fn_X3_pairsMixedBy 20 (nI k) 3 (nI e) D = some (nI (pby ns (gI D 4) (gI D 21) e k)) := by
  unfold fn_X3_pairsMixedBy
  rw [v_at h20 hk hnc, Option.bind_some]
  unfold pby
  generalize hf : (fun i j => decide (pc ((gI D 4 i ^^^ gI D 4 j) &&& (gI D 21 k ^^^ -1)) ≤ e)) = f
  have hfv : ∀ i j, f i j = decide (pc ((gI D 4 i ^^^ gI D 4 j) &&& (gI D 21 k ^^^ -1)) ≤ e) := fun i j => by rw [← hf]
  rw [← prs_up (f := f) (fun i j => by rw [hfv, hfv, Int32.xor_comm])]
  have e1 := z_fori ns (fun n s (q : Nat) => fn_X3_pairsMixedBy_13 20 (nI k) 3 (nI e) D n (gI D (20 + 1) k) (nI q) (nI s)) (fun s q => q + fb_ct (fun j => f s (s + 1 + j)) (ns - (s + 1))) (fun q => some (nI q)) (fun s q => q = fb_sm (fun i => fb_ct (fun j => f i (i + 1 + j)) (ns - (i + 1))) s) ?_ ?_ 0 zFU 0 (Nat.zero_le _) (zfu_gt (by omega)) rfl
  · refine Eq.trans e1 ?_
    congr 2
    exact zfo_inv (σ := Nat) (f := fun s q => q + fb_ct (fun j => f s (s + 1 + j)) (ns - (s + 1))) (m := ns - 0) (i := 0) (s := 0) (N := ns) (fun s q => q = fb_sm (fun i => fb_ct (fun j => f i (i + 1 + j)) (ns - (i + 1))) s) (fun s q _ hq => by rw [hq]; rfl) (by omega) rfl
  · intro n s q hs hq
    refine ⟨?_, by rw [hq]; rfl⟩
    show fn_X3_pairsMixedBy_13 20 (nI k) 3 (nI e) D (n + 1) (gI D (20 + 1) k) (nI q) (nI s) = fn_X3_pairsMixedBy_13 20 (nI k) 3 (nI e) D n (gI D (20 + 1) k) (nI (q + fb_ct (fun j => f s (s + 1 + j)) (ns - (s + 1)))) (nI (s + 1))
    rw [fn_X3_pairsMixedBy_13, h2]
    simp (disch := omega) only [Option.bind_some, Option.map_some, zlet_eq, ↓reduceIte, L_2, L_3, L_4, L_5, L_6, L_7, L_8, L_9, L_10, L_12, L_13, L_20, L_24, L_25, L_26, L_27, L_30, L_32, L_33, L_34, L_40, L_48, L_57, L_58, L_60, L_64, L_90, L_93, L_97, L_99, L_100, L_122, L_144, L_255, L_364, L_480, L_500, L_800, L_1000, L_100000, L_4096, L_1023, L_1024, nLe, nLt, nEq, nI_1, nI_add, pk_mul, nSn, nDn, nCl, zck_nI, zdv_nI, nNeg, nLe0, n0Lt, nEq0, nM1, m1N, m1Lt, nLm1, zcb_0, zcb_1, i10, i01, nEq1, n1Eq, nLt1, gI_eq, gI_nb, gI_na, x_badF, x_badT1, x_badT2, bt_0, bt_1, bit1_u, Bool.true_eq_false, Bool.false_eq_true, eq_self, Int32.or_zero, L_11, L_14, L_15, L_16, L_17, L_18, L_19, L_21, L_22, L_23, L_28, L_29, if_pos, if_neg]
    have e2 := z_fori ns (fun m o (r : Nat) => fn_X3_pairsMixedBy_28 20 (nI k) 3 (nI e) D (fn_X3_pairsMixedBy_13 20 (nI k) 3 (nI e) D n) m (gI D (20 + 1) k) (nI r) (nI s) (nI o)) (fun o r => r + if f s o = true then 1 else 0) (fun r => fn_X3_pairsMixedBy_13 20 (nI k) 3 (nI e) D n (gI D (20 + 1) k) (nI r) (nI (s + 1))) (fun o r => s + 1 ≤ o ∧ r = q + fb_ct (fun j => f s (s + 1 + j)) (o - (s + 1))) ?_ ?_ (s + 1) zFU q (by omega) (zfu_gt (by omega)) ⟨by omega, by rw [Nat.sub_self]; rfl⟩
    · refine Eq.trans e2 ?_
      congr 2
      exact (zfo_inv (N := ns) (fun o r => s + 1 ≤ o ∧ r = q + fb_ct (fun j => f s (s + 1 + j)) (o - (s + 1))) (fun o r _ hr => ⟨by omega, by rw [hr.2, show o + 1 - (s + 1) = (o - (s + 1)) + 1 by omega, fb_ct_succ, show s + 1 + (o - (s + 1)) = o by omega]; omega⟩) (by omega) ⟨by omega, by rw [Nat.sub_self]; rfl⟩).2
    · intro m o r ho ⟨hr0, hr⟩
      refine ⟨?_, by omega, by rw [hr, show o + 1 - (s + 1) = (o - (s + 1)) + 1 by omega, fb_ct_succ, show s + 1 + (o - (s + 1)) = o by omega]; omega⟩
      show fn_X3_pairsMixedBy_28 20 (nI k) 3 (nI e) D (fn_X3_pairsMixedBy_13 20 (nI k) 3 (nI e) D n) (m + 1) (gI D (20 + 1) k) (nI r) (nI s) (nI o) = fn_X3_pairsMixedBy_28 20 (nI k) 3 (nI e) D (fn_X3_pairsMixedBy_13 20 (nI k) 3 (nI e) D n) m (gI D (20 + 1) k) (nI (r + if f s o = true then 1 else 0)) (nI s) (nI (o + 1))
      rw [fn_X3_pairsMixedBy_28, h2, if_neg (nI_ge ho (by omega)), v_paint h2 hs hn, Option.bind_some, v_paint h2 ho hn, Option.bind_some, zlet_eq, pc_bit, Option.bind_some, hfv, nI_1, nI_1]
      have hb := pc_le ((gI D 4 s ^^^ gI D 4 o) &&& (gI D 21 k ^^^ -1))
      show (if nI e < nI (pc ((gI D 4 s ^^^ gI D 4 o) &&& (gI D 21 k ^^^ -1))) then _ else _) = _
      generalize pc ((gI D 4 s ^^^ gI D 4 o) &&& (gI D 21 k ^^^ -1)) = w at *
      by_cases g : w ≤ e
      · rw [if_neg (nI_nlt g (by omega)), decide_eq_true g, if_pos rfl]
      · rw [if_pos (nI_lt (by omega) (by omega)), decide_eq_false g, if_neg (by decide)]
        rfl
    · intro m r _
      show fn_X3_pairsMixedBy_28 20 (nI k) 3 (nI e) D (fn_X3_pairsMixedBy_13 20 (nI k) 3 (nI e) D n) (m + 1) (gI D (20 + 1) k) (nI r) (nI s) (nI ns) = _
      rw [fn_X3_pairsMixedBy_28, h2]
      simp (disch := omega) only [Option.bind_some, Option.map_some, zlet_eq, ↓reduceIte, L_2, L_3, L_4, L_5, L_6, L_7, L_8, L_9, L_10, L_12, L_13, L_20, L_24, L_25, L_26, L_27, L_30, L_32, L_33, L_34, L_40, L_48, L_57, L_58, L_60, L_64, L_90, L_93, L_97, L_99, L_100, L_122, L_144, L_255, L_364, L_480, L_500, L_800, L_1000, L_100000, L_4096, L_1023, L_1024, nLe, nLt, nEq, nI_1, nI_add, pk_mul, nSn, nDn, nCl, zck_nI, zdv_nI, nNeg, nLe0, n0Lt, nEq0, nM1, m1N, m1Lt, nLm1, zcb_0, zcb_1, i10, i01, nEq1, n1Eq, nLt1, gI_eq, gI_nb, gI_na, x_badF, x_badT1, x_badT2, bt_0, bt_1, bit1_u, Bool.true_eq_false, Bool.false_eq_true, eq_self, Int32.or_zero, L_11, L_14, L_15, L_16, L_17, L_18, L_19, L_21, L_22, L_23, L_28, L_29, if_pos, if_neg]
  · intro n q _
    show fn_X3_pairsMixedBy_13 20 (nI k) 3 (nI e) D (n + 1) (gI D (20 + 1) k) (nI q) (nI ns) = _
    rw [fn_X3_pairsMixedBy_13, h2]
    simp (disch := omega) only [Option.bind_some, Option.map_some, zlet_eq, ↓reduceIte, L_2, L_3, L_4, L_5, L_6, L_7, L_8, L_9, L_10, L_12, L_13, L_20, L_24, L_25, L_26, L_27, L_30, L_32, L_33, L_34, L_40, L_48, L_57, L_58, L_60, L_64, L_90, L_93, L_97, L_99, L_100, L_122, L_144, L_255, L_364, L_480, L_500, L_800, L_1000, L_100000, L_4096, L_1023, L_1024, nLe, nLt, nEq, nI_1, nI_add, pk_mul, nSn, nDn, nCl, zck_nI, zdv_nI, nNeg, nLe0, n0Lt, nEq0, nM1, m1N, m1Lt, nLm1, zcb_0, zcb_1, i10, i01, nEq1, n1Eq, nLt1, gI_eq, gI_nb, gI_na, x_badF, x_badT1, x_badT2, bt_0, bt_1, bit1_u, Bool.true_eq_false, Bool.false_eq_true, eq_self, Int32.or_zero, L_11, L_14, L_15, L_16, L_17, L_18, L_19, L_21, L_22, L_23, L_28, L_29, if_pos, if_neg]
theorem c_blindest {ns nc e : Nat} (h2 : gI D 3 2 = nI ns) (hn : ns ≤ 12) (h20 : gI D 20 1 = nI nc) (hnc : nc ≤ 500) (h1 : 1 ≤ nc) (he : e < 100) : fn_X3_blindest 20 3 (nI e) D = some (nI (sBl ns (gI D 4) nc (gI D 21) e)) := by
  have hpl : ∀ k, pby ns (gI D 4) (gI D 21) e k ≤ 144 := fun k => pby_le hn
  have e1 := z_fori nc (fun n i (b : Nat) => fn_X3_blindest_8 20 3 (nI e) D n (nI b) (nI (if i = 0 then 0 else pby ns (gI D 4) (gI D 21) e b)) (nI i)) (fun k b => if pby ns (gI D 4) (gI D 21) e b < pby ns (gI D 4) (gI D 21) e k then k else b) (fun b => some (nI b)) (fun i b => i = 0 → b = 0) ?_ ?_ 0 zFU 0 (Nat.zero_le _) (zfu_gt (by omega)) (fun _ => rfl)
  · exact e1
  · intro n i b hi hb
    refine ⟨?_, fun q => by omega⟩
    show fn_X3_blindest_8 20 3 (nI e) D (n + 1) (nI b) (nI (if i = 0 then 0 else pby ns (gI D 4) (gI D 21) e b)) (nI i) = fn_X3_blindest_8 20 3 (nI e) D n (nI (if pby ns (gI D 4) (gI D 21) e b < pby ns (gI D 4) (gI D 21) e i then i else b)) (nI (if i + 1 = 0 then 0 else pby ns (gI D 4) (gI D 21) e (if pby ns (gI D 4) (gI D 21) e b < pby ns (gI D 4) (gI D 21) e i then i else b))) (nI (i + 1))
    have p1 := hpl i
    have p2 := hpl b
    rw [fn_X3_blindest_8, h20, if_neg (nI_ge hi (by omega)), c_pairsBy h2 hn h20 hnc hi he, Option.bind_some, nI_1, if_neg (show ¬ i + 1 = 0 by omega)]
    by_cases q : i = 0
    · have hb0 := hb q
      subst q
      subst hb0
      rw [if_pos rfl, if_neg (Nat.lt_irrefl _)]
      by_cases g : pby ns (gI D 4) (gI D 21) e 0 = 0
      · rw [if_pos (nI_le (by omega) (by omega)), g]
      · rw [if_neg (nI_ge (by omega) (by omega))]
    · rw [if_neg q]
      by_cases g : pby ns (gI D 4) (gI D 21) e b < pby ns (gI D 4) (gI D 21) e i
      · rw [if_neg (nI_ge g (by omega)), if_pos g]
      · rw [if_pos (nI_le (by omega) (by omega)), if_neg g]
  · intro n b _
    show fn_X3_blindest_8 20 3 (nI e) D (n + 1) (nI b) _ (nI nc) = _
    rw [fn_X3_blindest_8, h20, if_pos (nI_le (Nat.le_refl _) (by omega))]
theorem r_pairsBy {ns nc d k : Nat} (h16 : gI D 102 16 = nI ns) (hn : ns ≤ 12) (h34 : gI D 102 34 = nI d) (hd : d < 50) (hk : k < 500) : fn_X12_pairsBy (nI k) D = some (nI (pby ns (gI D 105) (gI D 128) (2 * d) k)) := by
  generalize hf : (fun i j => decide (pc ((gI D 105 i ^^^ gI D 105 j) &&& (gI D 128 k ^^^ -1)) ≤ 2 * d)) = f
  have hfv : ∀ i j, f i j = decide (pc ((gI D 105 i ^^^ gI D 105 j) &&& (gI D 128 k ^^^ -1)) ≤ 2 * d) := fun i j => by rw [← hf]
  have e := z_fori ns (fun n s (q : Nat) => fn_X12_pairsBy_4 (nI k) D n (nI q) (nI s)) (fun s q => q + fb_ct (fun o => f s o) s) (fun q => some (nI q)) (fun s q => q = fb_sm (fun i => fb_ct (fun o => f i o) i) s) ?_ ?_ 0 zFU 0 (Nat.zero_le _) (zfu_gt (by omega)) rfl
  · unfold fn_X12_pairsBy
    refine Eq.trans e ?_
    unfold pby
    rw [hf]
    congr 2
    exact zfo_inv (N := ns) (fun s k => k = fb_sm (fun i => fb_ct (fun o => f i o) i) s) (fun s k _ hk => by rw [hk]; rfl) (by omega) rfl
  · intro n s q hs hq
    refine ⟨?_, by rw [hq]; rfl⟩
    show fn_X12_pairsBy_4 (nI k) D (n + 1) (nI q) (nI s) = fn_X12_pairsBy_4 (nI k) D n (nI (q + fb_ct (fun o => f s o) s)) (nI (s + 1))
    rw [fn_X12_pairsBy_4, h16]
    simp (disch := omega) only [Option.bind_some, Option.map_some, zlet_eq, ↓reduceIte, L_2, L_3, L_4, L_5, L_6, L_7, L_8, L_9, L_10, L_12, L_13, L_20, L_24, L_25, L_26, L_27, L_30, L_32, L_33, L_34, L_40, L_48, L_57, L_58, L_60, L_64, L_90, L_93, L_97, L_99, L_100, L_122, L_144, L_255, L_364, L_480, L_500, L_800, L_1000, L_100000, L_4096, L_1023, L_1024, nLe, nLt, nEq, nI_1, nI_add, pk_mul, nSn, nDn, nCl, zck_nI, zdv_nI, nNeg, nLe0, n0Lt, nEq0, nM1, m1N, m1Lt, nLm1, zcb_0, zcb_1, i10, i01, nEq1, n1Eq, nLt1, gI_eq, gI_nb, gI_na, x_badF, x_badT1, x_badT2, bt_0, bt_1, bit1_u, Bool.true_eq_false, Bool.false_eq_true, eq_self, Int32.or_zero, L_11, L_14, L_15, L_16, L_17, L_18, L_19, L_21, L_22, L_23, L_28, L_29, if_pos, if_neg]
    have e2 := z_fori s (fun m o (r : Nat) => fn_X12_pairsBy_15 (nI k) D (fn_X12_pairsBy_4 (nI k) D n) m (nI r) (nI s) (nI o)) (fun o r => r + if f s o = true then 1 else 0) (fun r => fn_X12_pairsBy_4 (nI k) D n (nI r) (nI (s + 1))) (fun o r => r = q + fb_ct (fun o => f s o) o) ?_ ?_ 0 zFU q (Nat.zero_le _) (zfu_gt (by omega)) rfl
    · refine Eq.trans e2 ?_
      congr 2
      exact zfo_inv (N := s) (fun o r => r = q + fb_ct (fun o => f s o) o) (fun o r _ hr => by rw [hr, fb_ct_succ]; omega) (by omega) rfl
    · intro m o r ho hr
      refine ⟨?_, by rw [hr, fb_ct_succ]; omega⟩
      show fn_X12_pairsBy_15 (nI k) D (fn_X12_pairsBy_4 (nI k) D n) (m + 1) (nI r) (nI s) (nI o) = fn_X12_pairsBy_15 (nI k) D (fn_X12_pairsBy_4 (nI k) D n) m (nI (r + if f s o = true then 1 else 0)) (nI s) (nI (o + 1))
      have hb := pc_le ((gI D 105 s ^^^ gI D 105 o) &&& (gI D 128 k ^^^ -1))
      rw [fn_X12_pairsBy_15, hfv, h34]
      by_cases g : pc ((gI D 105 s ^^^ gI D 105 o) &&& (gI D 128 k ^^^ -1)) ≤ 2 * d
      · simp (disch := omega) only [Option.bind_some, Option.map_some, zlet_eq, ↓reduceIte, L_2, L_3, L_4, L_5, L_6, L_7, L_8, L_9, L_10, L_12, L_13, L_20, L_24, L_25, L_26, L_27, L_30, L_32, L_33, L_34, L_40, L_48, L_57, L_58, L_60, L_64, L_90, L_93, L_97, L_99, L_100, L_122, L_144, L_255, L_364, L_480, L_500, L_800, L_1000, L_100000, L_4096, L_1023, L_1024, nLe, nLt, nEq, nI_1, nI_add, pk_mul, nSn, nDn, nCl, zck_nI, zdv_nI, nNeg, nLe0, n0Lt, nEq0, nM1, m1N, m1Lt, nLm1, zcb_0, zcb_1, i10, i01, nEq1, n1Eq, nLt1, gI_eq, gI_nb, gI_na, x_badF, x_badT1, x_badT2, bt_0, bt_1, bit1_u, Bool.true_eq_false, Bool.false_eq_true, eq_self, Int32.or_zero, L_11, L_14, L_15, L_16, L_17, L_18, L_19, L_21, L_22, L_23, L_28, L_29, if_pos, if_neg, z_ones, decide_eq_true g]
      · simp (disch := omega) only [Option.bind_some, Option.map_some, zlet_eq, ↓reduceIte, L_2, L_3, L_4, L_5, L_6, L_7, L_8, L_9, L_10, L_12, L_13, L_20, L_24, L_25, L_26, L_27, L_30, L_32, L_33, L_34, L_40, L_48, L_57, L_58, L_60, L_64, L_90, L_93, L_97, L_99, L_100, L_122, L_144, L_255, L_364, L_480, L_500, L_800, L_1000, L_100000, L_4096, L_1023, L_1024, nLe, nLt, nEq, nI_1, nI_add, pk_mul, nSn, nDn, nCl, zck_nI, zdv_nI, nNeg, nLe0, n0Lt, nEq0, nM1, m1N, m1Lt, nLm1, zcb_0, zcb_1, i10, i01, nEq1, n1Eq, nLt1, gI_eq, gI_nb, gI_na, x_badF, x_badT1, x_badT2, bt_0, bt_1, bit1_u, Bool.true_eq_false, Bool.false_eq_true, eq_self, Int32.or_zero, L_11, L_14, L_15, L_16, L_17, L_18, L_19, L_21, L_22, L_23, L_28, L_29, if_pos, if_neg, z_ones, decide_eq_false g, Int32.add_zero, Nat.add_zero]
    · intro m r _
      show fn_X12_pairsBy_15 (nI k) D (fn_X12_pairsBy_4 (nI k) D n) (m + 1) (nI r) (nI s) (nI s) = _
      rw [fn_X12_pairsBy_15]
      simp (disch := omega) only [Option.bind_some, Option.map_some, zlet_eq, ↓reduceIte, L_2, L_3, L_4, L_5, L_6, L_7, L_8, L_9, L_10, L_12, L_13, L_20, L_24, L_25, L_26, L_27, L_30, L_32, L_33, L_34, L_40, L_48, L_57, L_58, L_60, L_64, L_90, L_93, L_97, L_99, L_100, L_122, L_144, L_255, L_364, L_480, L_500, L_800, L_1000, L_100000, L_4096, L_1023, L_1024, nLe, nLt, nEq, nI_1, nI_add, pk_mul, nSn, nDn, nCl, zck_nI, zdv_nI, nNeg, nLe0, n0Lt, nEq0, nM1, m1N, m1Lt, nLm1, zcb_0, zcb_1, i10, i01, nEq1, n1Eq, nLt1, gI_eq, gI_nb, gI_na, x_badF, x_badT1, x_badT2, bt_0, bt_1, bit1_u, Bool.true_eq_false, Bool.false_eq_true, eq_self, Int32.or_zero, L_11, L_14, L_15, L_16, L_17, L_18, L_19, L_21, L_22, L_23, L_28, L_29, if_pos, if_neg]
  · intro n q _
    show fn_X12_pairsBy_4 (nI k) D (n + 1) (nI q) (nI ns) = _
    rw [fn_X12_pairsBy_4, h16]
    simp (disch := omega) only [Option.bind_some, Option.map_some, zlet_eq, ↓reduceIte, L_2, L_3, L_4, L_5, L_6, L_7, L_8, L_9, L_10, L_12, L_13, L_20, L_24, L_25, L_26, L_27, L_30, L_32, L_33, L_34, L_40, L_48, L_57, L_58, L_60, L_64, L_90, L_93, L_97, L_99, L_100, L_122, L_144, L_255, L_364, L_480, L_500, L_800, L_1000, L_100000, L_4096, L_1023, L_1024, nLe, nLt, nEq, nI_1, nI_add, pk_mul, nSn, nDn, nCl, zck_nI, zdv_nI, nNeg, nLe0, n0Lt, nEq0, nM1, m1N, m1Lt, nLm1, zcb_0, zcb_1, i10, i01, nEq1, n1Eq, nLt1, gI_eq, gI_nb, gI_na, x_badF, x_badT1, x_badT2, bt_0, bt_1, bit1_u, Bool.true_eq_false, Bool.false_eq_true, eq_self, Int32.or_zero, L_11, L_14, L_15, L_16, L_17, L_18, L_19, L_21, L_22, L_23, L_28, L_29, if_pos, if_neg]
theorem r_blind33 (h : iv P D) (w : Int32) : fn_X12_blind_33 w zFU 0 1 D = fn_X12_blind_62 w (nI (sBl (P 2) (gI D 105) (P 4) (gI D 128) (2 * P 5))) D := by
  have h' := h
  obtain ⟨⟨⟨hb, ⟨a0, a1, a2, a3⟩, ⟨b0, b1, b2, b3⟩, hs, hw⟩, ⟨hc, c1, c2, hcv⟩, ⟨hd, ⟨z0, z1, z2⟩, ⟨y0, y1, y2⟩, hp, ht⟩, ⟨hi, i0, i1, him⟩, ⟨hta, ta0, ta1, hpl, htb⟩⟩, hK, hO⟩ := h
  replace y0 : gI _ 102 34 = nI (P 5) := y0
  replace y1 : gI _ 102 35 = nI (P 6) := y1
  replace y2 : gI _ 102 36 = nI (P 7) := y2
  have hpl : ∀ k, pby (P 2) (gI D 105) (gI D 128) (2 * P 5) k ≤ 144 := fun k => pby_le (by omega)
  have e := z_fori (P 4) (fun n i (b : Nat) => fn_X12_blind_33 w n (nI b) (nI i) D) (fun k b => if pby (P 2) (gI D 105) (gI D 128) (2 * P 5) b < pby (P 2) (gI D 105) (gI D 128) (2 * P 5) k then k else b) (fun b => fn_X12_blind_62 w (nI b) D) (fun i b => b < P 4) ?_ ?_ 1 zFU 0 (by omega) (zfu_gt (by omega)) (by omega)
  · refine Eq.trans e ?_
    congr 2
    unfold sBl
    obtain ⟨m, hm⟩ : ∃ m, P 4 = m + 1 := ⟨P 4 - 1, by omega⟩
    rw [hm, zfo, if_neg (Nat.lt_irrefl _)]
    rfl
  · intro n i b hi' hb4
    refine ⟨?_, by split <;> omega⟩
    show fn_X12_blind_33 w (n + 1) (nI b) (nI i) D = fn_X12_blind_33 w n (nI (if _ then i else b)) (nI (i + 1)) D
    have p1 := hpl i
    have p2 := hpl b
    rw [fn_X12_blind_33, c2, if_neg (nI_ge hi' (by omega)), r_pairsBy (nc := P 4) b2 (by omega) y0 (by omega) (by omega), Option.bind_some, r_pairsBy (nc := P 4) b2 (by omega) y0 (by omega) (by omega), Option.bind_some, nI_1]
    by_cases g : pby (P 2) (gI D 105) (gI D 128) (2 * P 5) b < pby (P 2) (gI D 105) (gI D 128) (2 * P 5) i
    · rw [if_neg (nI_ge g (by omega)), if_pos g]
    · rw [if_pos (nI_le (by omega) (by omega)), if_neg g]
  · intro n b hb4
    show fn_X12_blind_33 w (n + 1) (nI b) (nI (P 4)) D = _
    rw [fn_X12_blind_33, c2, if_pos (nI_le (Nat.le_refl _) (by omega))]
theorem tk_blind (h : iv P D) (v : Int32) : twin (wk1 1) (fn_X11_blind v D) (fn_X12_blind v) := by
  have h' := h
  obtain ⟨⟨⟨hb, ⟨a0, a1, a2, a3⟩, ⟨b0, b1, b2, b3⟩, hs, hw⟩, ⟨hc, c1, c2, hcv⟩, ⟨hd, ⟨z0, z1, z2⟩, ⟨y0, y1, y2⟩, hp, ht⟩, ⟨hi, i0, i1, him⟩, ⟨hta, ta0, ta1, hpl, htb⟩⟩, hK, hO⟩ := h
  replace y0 : gI _ 102 34 = nI (P 5) := y0
  replace y1 : gI _ 102 35 = nI (P 6) := y1
  replace y2 : gI _ 102 36 = nI (P 7) := y2
  unfold fn_X11_blind
  rcases x_inK (v := v) (n := 1) (by omega) with ⟨e, g⟩ | ⟨e, j, hj, rfl⟩
  · replace e : fn_X12_in v 0 1 = some 0 := e
    refine twin_tt h' (e := 1) (t := 1) rfl (by decide) (by rw [show (1 : Int32) = nI 1 from rfl, c_needWhat (by omega) g]; rfl) fun E hE he => ?_
    unfold fn_X12_blind fn_X12_blind_20
    simp (disch := omega) only [Option.bind_some, Option.map_some, zlet_eq, ↓reduceIte, L_2, L_3, L_4, L_5, L_6, L_7, L_8, L_9, L_10, L_12, L_13, L_20, L_24, L_25, L_26, L_27, L_30, L_32, L_33, L_34, L_40, L_48, L_57, L_58, L_60, L_64, L_90, L_93, L_97, L_99, L_100, L_122, L_144, L_255, L_364, L_480, L_500, L_800, L_1000, L_100000, L_4096, L_1023, L_1024, nLe, nLt, nEq, nI_1, nI_add, pk_mul, nSn, nDn, nCl, zck_nI, zdv_nI, nNeg, nLe0, n0Lt, nEq0, nM1, m1N, m1Lt, nLm1, zcb_0, zcb_1, i10, i01, nEq1, n1Eq, nLt1, gI_eq, gI_nb, gI_na, x_badF, x_badT1, x_badT2, bt_0, bt_1, bit1_u, Bool.true_eq_false, Bool.false_eq_true, eq_self, Int32.or_zero, L_11, L_14, L_15, L_16, L_17, L_18, L_19, L_21, L_22, L_23, L_28, L_29, if_pos, if_neg, e]
  · replace e : fn_X12_in (nI j) 0 1 = some 1 := e
    rw [show fn_X11_needWhat (nI j) 1 = some 0 from c_needWhatJ (n := 1) (by omega) hj, Option.bind_some, if_pos rfl, show fn_X11_keptAt 0 D = some (gI D 101 0) from c_keptAt (k := 0) (by omega), Option.bind_some]
    have hsb := sBl_lt (ns := P 2) (pt := gI D 105) (cv := gI D 128) (e := 2 * P 5) hc.1
    -- the class's answer
    have main : ∀ F, iv P F → ag pM D F → (gI F 101 0 = nI (sBl (P 2) (gI D 105) (P 4) (gI D 128) (2 * P 5)) ∧ gI F 101 1 = nI (pby (P 2) (gI D 105) (gI D 128) (2 * P 5) (sBl (P 2) (gI D 105) (P 4) (gI D 128) (2 * P 5)))) → twin (wk1 1) (fn_X11_blind_69 (nI j) F) (fn_X12_blind (nI j)) := by
      intro F hF hag ⟨k0, k1⟩
      have hcl : fn_X11_blind_69 (nI j) F = some (.inr (gI F 101 j), F) := by
        unfold fn_X11_blind_69
        rw [show (0 : Int32) + nI j = nI j from Int32.zero_add _, c_keptAt (by omega)]
        rfl
      refine twin_s (D1 := F) (F := fun E => sI E 102 0 0) hcl fun E hE => ?_
      have hi' := (hF.int hE).thr 0
      refine ⟨?_, ⟨P, hi'⟩, gI_eq, rfl⟩
      have m := r_blind33 hi' (nI j)
      have f105 : gI (sI E 102 0 0) 105 = gI D 105 := funext fun b => by rw [gI_na (by omega), ← hag _ _ (by unfold pM; omega)]; show E.2 105 b = _; rw [hE]; rfl
      have f128 : gI (sI E 102 0 0) 128 = gI D 128 := funext fun b => by rw [gI_na (by omega), ← hag _ _ (by unfold pM; omega)]; show E.2 128 b = _; rw [hE]; rfl
      have hP := r_pairsBy (D := sI E 102 0 0) (ns := P 2) (nc := P 4) (d := P 5) (k := sBl (P 2) (gI D 105) (P 4) (gI D 128) (2 * P 5)) hi'.1.1.2.2.1.2.2.1 (by omega) hi'.1.2.2.1.2.2.1.1 (by omega) (by omega)
      rw [f105, f128] at m hP
      unfold fn_X12_blind fn_X12_blind_20
      unfold fn_X12_blind_62 at m
      rcases (show j = 0 ∨ j = 1 by omega) with rfl | rfl
      · rw [k0]
        rw [if_pos (show nI 0 = 0 from rfl)] at m
        simp (disch := omega) only [Option.bind_some, Option.map_some, zlet_eq, ↓reduceIte, L_2, L_3, L_4, L_5, L_6, L_7, L_8, L_9, L_10, L_12, L_13, L_20, L_24, L_25, L_26, L_27, L_30, L_32, L_33, L_34, L_40, L_48, L_57, L_58, L_60, L_64, L_90, L_93, L_97, L_99, L_100, L_122, L_144, L_255, L_364, L_480, L_500, L_800, L_1000, L_100000, L_4096, L_1023, L_1024, nLe, nLt, nEq, nI_1, nI_add, pk_mul, nSn, nDn, nCl, zck_nI, zdv_nI, nNeg, nLe0, n0Lt, nEq0, nM1, m1N, m1Lt, nLm1, zcb_0, zcb_1, i10, i01, nEq1, n1Eq, nLt1, gI_eq, gI_nb, gI_na, x_badF, x_badT1, x_badT2, bt_0, bt_1, bit1_u, Bool.true_eq_false, Bool.false_eq_true, eq_self, Int32.or_zero, L_11, L_14, L_15, L_16, L_17, L_18, L_19, L_21, L_22, L_23, L_28, L_29, if_pos, if_neg, e]
        exact m
      · rw [k1]
        rw [if_neg (show ¬ nI 1 = 0 by decide), hP] at m
        simp (disch := omega) only [Option.bind_some, Option.map_some, zlet_eq, ↓reduceIte, L_2, L_3, L_4, L_5, L_6, L_7, L_8, L_9, L_10, L_12, L_13, L_20, L_24, L_25, L_26, L_27, L_30, L_32, L_33, L_34, L_40, L_48, L_57, L_58, L_60, L_64, L_90, L_93, L_97, L_99, L_100, L_122, L_144, L_255, L_364, L_480, L_500, L_800, L_1000, L_100000, L_4096, L_1023, L_1024, nLe, nLt, nEq, nI_1, nI_add, pk_mul, nSn, nDn, nCl, zck_nI, zdv_nI, nNeg, nLe0, n0Lt, nEq0, nM1, m1N, m1Lt, nLm1, zcb_0, zcb_1, i10, i01, nEq1, n1Eq, nLt1, gI_eq, gI_nb, gI_na, x_badF, x_badT1, x_badT2, bt_0, bt_1, bit1_u, Bool.true_eq_false, Bool.false_eq_true, eq_self, Int32.or_zero, L_11, L_14, L_15, L_16, L_17, L_18, L_19, L_21, L_22, L_23, L_28, L_29, if_pos, if_neg, e]
        exact m
    by_cases q : gI D 101 0 = -1000000
    · rw [if_pos q]
      have cb : sBl (P 2) (gI D 4) (P 4) (gI D 21) (2 * P 5) = sBl (P 2) (gI D 105) (P 4) (gI D 128) (2 * P 5) := sBl_cong (fun s hs' => (hs s hs').1) (fun k hk => (hcv k hk).1)
      have z0' : ∀ F : zD, ag pM D F → gI F 57 0 = nI (P 5) := fun F hF => by rw [hF _ _ (by unfold pM; omega), z0]
      generalize hB : sBl (P 2) (gI D 105) (P 4) (gI D 128) (2 * P 5) = B at *
      have hg0 : ag pM D (sI D 101 0 (nI B)) := ag.refl.sI (by unfold pM; omega)
      rw [z0, show (2 : Int32) * nI (P 5) = nI (2 * P 5) from pk_mul 2 _, c_blindest a2 (by omega) c1 hc.2 hc.1 (by omega), Option.bind_some, cb, show fn_X11_keep 0 (nI B) D = some (sI D 101 0 (nI B)) from c_keep (k := 0) (by omega) _, Option.bind_some, z0' _ hg0, show (2 : Int32) * nI (P 5) = nI (2 * P 5) from pk_mul 2 _, c_pairsBy (D := sI D 101 0 (nI B)) (ns := P 2) (nc := P 4) (by rw [gI_na (by omega), a2]) (by omega) (by rw [gI_na (by omega), c1]) hc.2 (by omega) (by omega), Option.bind_some, gIf (by omega), gIf (by omega), pby_cong (fun s hs' => (hs s hs').1) (hcv B (by omega)).1, show ∀ v (F : zD), fn_X11_keep 1 v F = some (sI F 101 1 v) from fun v F => c_keep (k := 1) (by omega) _, Option.bind_some]
      have hg1 : ag pM D (sI (sI D 101 0 (nI B)) 101 1 (nI (pby (P 2) (gI D 105) (gI D 128) (2 * P 5) B))) := hg0.sI (by unfold pM; omega)
      refine main _ (pM_iv h' hg1 (hK.mk hg1 (Or.inr ⟨by rw [hB]; simp (disch := omega) only [Option.bind_some, Option.map_some, zlet_eq, ↓reduceIte, L_2, L_3, L_4, L_5, L_6, L_7, L_8, L_9, L_10, L_12, L_13, L_20, L_24, L_25, L_26, L_27, L_30, L_32, L_33, L_34, L_40, L_48, L_57, L_58, L_60, L_64, L_90, L_93, L_97, L_99, L_100, L_122, L_144, L_255, L_364, L_480, L_500, L_800, L_1000, L_100000, L_4096, L_1023, L_1024, nLe, nLt, nEq, nI_1, nI_add, pk_mul, nSn, nDn, nCl, zck_nI, zdv_nI, nNeg, nLe0, n0Lt, nEq0, nM1, m1N, m1Lt, nLm1, zcb_0, zcb_1, i10, i01, nEq1, n1Eq, nLt1, gI_eq, gI_nb, gI_na, x_badF, x_badT1, x_badT2, bt_0, bt_1, bit1_u, Bool.true_eq_false, Bool.false_eq_true, eq_self, Int32.or_zero, L_11, L_14, L_15, L_16, L_17, L_18, L_19, L_21, L_22, L_23, L_28, L_29, if_pos, if_neg], by rw [hB]; simp (disch := omega) only [Option.bind_some, Option.map_some, zlet_eq, ↓reduceIte, L_2, L_3, L_4, L_5, L_6, L_7, L_8, L_9, L_10, L_12, L_13, L_20, L_24, L_25, L_26, L_27, L_30, L_32, L_33, L_34, L_40, L_48, L_57, L_58, L_60, L_64, L_90, L_93, L_97, L_99, L_100, L_122, L_144, L_255, L_364, L_480, L_500, L_800, L_1000, L_100000, L_4096, L_1023, L_1024, nLe, nLt, nEq, nI_1, nI_add, pk_mul, nSn, nDn, nCl, zck_nI, zdv_nI, nNeg, nLe0, n0Lt, nEq0, nM1, m1N, m1Lt, nLm1, zcb_0, zcb_1, i10, i01, nEq1, n1Eq, nLt1, gI_eq, gI_nb, gI_na, x_badF, x_badT1, x_badT2, bt_0, bt_1, bit1_u, Bool.true_eq_false, Bool.false_eq_true, eq_self, Int32.or_zero, L_11, L_14, L_15, L_16, L_17, L_18, L_19, L_21, L_22, L_23, L_28, L_29, if_pos, if_neg]⟩) (Or.inl ⟨by simp (disch := omega) only [Option.bind_some, Option.map_some, zlet_eq, ↓reduceIte, L_2, L_3, L_4, L_5, L_6, L_7, L_8, L_9, L_10, L_12, L_13, L_20, L_24, L_25, L_26, L_27, L_30, L_32, L_33, L_34, L_40, L_48, L_57, L_58, L_60, L_64, L_90, L_93, L_97, L_99, L_100, L_122, L_144, L_255, L_364, L_480, L_500, L_800, L_1000, L_100000, L_4096, L_1023, L_1024, nLe, nLt, nEq, nI_1, nI_add, pk_mul, nSn, nDn, nCl, zck_nI, zdv_nI, nNeg, nLe0, n0Lt, nEq0, nM1, m1N, m1Lt, nLm1, zcb_0, zcb_1, i10, i01, nEq1, n1Eq, nLt1, gI_eq, gI_nb, gI_na, x_badF, x_badT1, x_badT2, bt_0, bt_1, bit1_u, Bool.true_eq_false, Bool.false_eq_true, eq_self, Int32.or_zero, L_11, L_14, L_15, L_16, L_17, L_18, L_19, L_21, L_22, L_23, L_28, L_29, if_pos, if_neg], by simp (disch := omega) only [Option.bind_some, Option.map_some, zlet_eq, ↓reduceIte, L_2, L_3, L_4, L_5, L_6, L_7, L_8, L_9, L_10, L_12, L_13, L_20, L_24, L_25, L_26, L_27, L_30, L_32, L_33, L_34, L_40, L_48, L_57, L_58, L_60, L_64, L_90, L_93, L_97, L_99, L_100, L_122, L_144, L_255, L_364, L_480, L_500, L_800, L_1000, L_100000, L_4096, L_1023, L_1024, nLe, nLt, nEq, nI_1, nI_add, pk_mul, nSn, nDn, nCl, zck_nI, zdv_nI, nNeg, nLe0, n0Lt, nEq0, nM1, m1N, m1Lt, nLm1, zcb_0, zcb_1, i10, i01, nEq1, n1Eq, nLt1, gI_eq, gI_nb, gI_na, x_badF, x_badT1, x_badT2, bt_0, bt_1, bit1_u, Bool.true_eq_false, Bool.false_eq_true, eq_self, Int32.or_zero, L_11, L_14, L_15, L_16, L_17, L_18, L_19, L_21, L_22, L_23, L_28, L_29, if_pos, if_neg], by simp (disch := omega) only [Option.bind_some, Option.map_some, zlet_eq, ↓reduceIte, L_2, L_3, L_4, L_5, L_6, L_7, L_8, L_9, L_10, L_12, L_13, L_20, L_24, L_25, L_26, L_27, L_30, L_32, L_33, L_34, L_40, L_48, L_57, L_58, L_60, L_64, L_90, L_93, L_97, L_99, L_100, L_122, L_144, L_255, L_364, L_480, L_500, L_800, L_1000, L_100000, L_4096, L_1023, L_1024, nLe, nLt, nEq, nI_1, nI_add, pk_mul, nSn, nDn, nCl, zck_nI, zdv_nI, nNeg, nLe0, n0Lt, nEq0, nM1, m1N, m1Lt, nLm1, zcb_0, zcb_1, i10, i01, nEq1, n1Eq, nLt1, gI_eq, gI_nb, gI_na, x_badF, x_badT1, x_badT2, bt_0, bt_1, bit1_u, Bool.true_eq_false, Bool.false_eq_true, eq_self, Int32.or_zero, L_11, L_14, L_15, L_16, L_17, L_18, L_19, L_21, L_22, L_23, L_28, L_29, if_pos, if_neg]⟩) (Or.inl ⟨by simp (disch := omega) only [Option.bind_some, Option.map_some, zlet_eq, ↓reduceIte, L_2, L_3, L_4, L_5, L_6, L_7, L_8, L_9, L_10, L_12, L_13, L_20, L_24, L_25, L_26, L_27, L_30, L_32, L_33, L_34, L_40, L_48, L_57, L_58, L_60, L_64, L_90, L_93, L_97, L_99, L_100, L_122, L_144, L_255, L_364, L_480, L_500, L_800, L_1000, L_100000, L_4096, L_1023, L_1024, nLe, nLt, nEq, nI_1, nI_add, pk_mul, nSn, nDn, nCl, zck_nI, zdv_nI, nNeg, nLe0, n0Lt, nEq0, nM1, m1N, m1Lt, nLm1, zcb_0, zcb_1, i10, i01, nEq1, n1Eq, nLt1, gI_eq, gI_nb, gI_na, x_badF, x_badT1, x_badT2, bt_0, bt_1, bit1_u, Bool.true_eq_false, Bool.false_eq_true, eq_self, Int32.or_zero, L_11, L_14, L_15, L_16, L_17, L_18, L_19, L_21, L_22, L_23, L_28, L_29, if_pos, if_neg], by simp (disch := omega) only [Option.bind_some, Option.map_some, zlet_eq, ↓reduceIte, L_2, L_3, L_4, L_5, L_6, L_7, L_8, L_9, L_10, L_12, L_13, L_20, L_24, L_25, L_26, L_27, L_30, L_32, L_33, L_34, L_40, L_48, L_57, L_58, L_60, L_64, L_90, L_93, L_97, L_99, L_100, L_122, L_144, L_255, L_364, L_480, L_500, L_800, L_1000, L_100000, L_4096, L_1023, L_1024, nLe, nLt, nEq, nI_1, nI_add, pk_mul, nSn, nDn, nCl, zck_nI, zdv_nI, nNeg, nLe0, n0Lt, nEq0, nM1, m1N, m1Lt, nLm1, zcb_0, zcb_1, i10, i01, nEq1, n1Eq, nLt1, gI_eq, gI_nb, gI_na, x_badF, x_badT1, x_badT2, bt_0, bt_1, bit1_u, Bool.true_eq_false, Bool.false_eq_true, eq_self, Int32.or_zero, L_11, L_14, L_15, L_16, L_17, L_18, L_19, L_21, L_22, L_23, L_28, L_29, if_pos, if_neg]⟩) (Or.inl (by simp (disch := omega) only [Option.bind_some, Option.map_some, zlet_eq, ↓reduceIte, L_2, L_3, L_4, L_5, L_6, L_7, L_8, L_9, L_10, L_12, L_13, L_20, L_24, L_25, L_26, L_27, L_30, L_32, L_33, L_34, L_40, L_48, L_57, L_58, L_60, L_64, L_90, L_93, L_97, L_99, L_100, L_122, L_144, L_255, L_364, L_480, L_500, L_800, L_1000, L_100000, L_4096, L_1023, L_1024, nLe, nLt, nEq, nI_1, nI_add, pk_mul, nSn, nDn, nCl, zck_nI, zdv_nI, nNeg, nLe0, n0Lt, nEq0, nM1, m1N, m1Lt, nLm1, zcb_0, zcb_1, i10, i01, nEq1, n1Eq, nLt1, gI_eq, gI_nb, gI_na, x_badF, x_badT1, x_badT2, bt_0, bt_1, bit1_u, Bool.true_eq_false, Bool.false_eq_true, eq_self, Int32.or_zero, L_11, L_14, L_15, L_16, L_17, L_18, L_19, L_21, L_22, L_23, L_28, L_29, if_pos, if_neg])) (Or.inl (by simp (disch := omega) only [Option.bind_some, Option.map_some, zlet_eq, ↓reduceIte, L_2, L_3, L_4, L_5, L_6, L_7, L_8, L_9, L_10, L_12, L_13, L_20, L_24, L_25, L_26, L_27, L_30, L_32, L_33, L_34, L_40, L_48, L_57, L_58, L_60, L_64, L_90, L_93, L_97, L_99, L_100, L_122, L_144, L_255, L_364, L_480, L_500, L_800, L_1000, L_100000, L_4096, L_1023, L_1024, nLe, nLt, nEq, nI_1, nI_add, pk_mul, nSn, nDn, nCl, zck_nI, zdv_nI, nNeg, nLe0, n0Lt, nEq0, nM1, m1N, m1Lt, nLm1, zcb_0, zcb_1, i10, i01, nEq1, n1Eq, nLt1, gI_eq, gI_nb, gI_na, x_badF, x_badT1, x_badT2, bt_0, bt_1, bit1_u, Bool.true_eq_false, Bool.false_eq_true, eq_self, Int32.or_zero, L_11, L_14, L_15, L_16, L_17, L_18, L_19, L_21, L_22, L_23, L_28, L_29, if_pos, if_neg])) (Or.inl (by simp (disch := omega) only [Option.bind_some, Option.map_some, zlet_eq, ↓reduceIte, L_2, L_3, L_4, L_5, L_6, L_7, L_8, L_9, L_10, L_12, L_13, L_20, L_24, L_25, L_26, L_27, L_30, L_32, L_33, L_34, L_40, L_48, L_57, L_58, L_60, L_64, L_90, L_93, L_97, L_99, L_100, L_122, L_144, L_255, L_364, L_480, L_500, L_800, L_1000, L_100000, L_4096, L_1023, L_1024, nLe, nLt, nEq, nI_1, nI_add, pk_mul, nSn, nDn, nCl, zck_nI, zdv_nI, nNeg, nLe0, n0Lt, nEq0, nM1, m1N, m1Lt, nLm1, zcb_0, zcb_1, i10, i01, nEq1, n1Eq, nLt1, gI_eq, gI_nb, gI_na, x_badF, x_badT1, x_badT2, bt_0, bt_1, bit1_u, Bool.true_eq_false, Bool.false_eq_true, eq_self, Int32.or_zero, L_11, L_14, L_15, L_16, L_17, L_18, L_19, L_21, L_22, L_23, L_28, L_29, if_pos, if_neg])) (fun s hs' => Or.inl ⟨by simp (disch := omega) only [Option.bind_some, Option.map_some, zlet_eq, ↓reduceIte, L_2, L_3, L_4, L_5, L_6, L_7, L_8, L_9, L_10, L_12, L_13, L_20, L_24, L_25, L_26, L_27, L_30, L_32, L_33, L_34, L_40, L_48, L_57, L_58, L_60, L_64, L_90, L_93, L_97, L_99, L_100, L_122, L_144, L_255, L_364, L_480, L_500, L_800, L_1000, L_100000, L_4096, L_1023, L_1024, nLe, nLt, nEq, nI_1, nI_add, pk_mul, nSn, nDn, nCl, zck_nI, zdv_nI, nNeg, nLe0, n0Lt, nEq0, nM1, m1N, m1Lt, nLm1, zcb_0, zcb_1, i10, i01, nEq1, n1Eq, nLt1, gI_eq, gI_nb, gI_na, x_badF, x_badT1, x_badT2, bt_0, bt_1, bit1_u, Bool.true_eq_false, Bool.false_eq_true, eq_self, Int32.or_zero, L_11, L_14, L_15, L_16, L_17, L_18, L_19, L_21, L_22, L_23, L_28, L_29, if_pos, if_neg], by simp (disch := omega) only [Option.bind_some, Option.map_some, zlet_eq, ↓reduceIte, L_2, L_3, L_4, L_5, L_6, L_7, L_8, L_9, L_10, L_12, L_13, L_20, L_24, L_25, L_26, L_27, L_30, L_32, L_33, L_34, L_40, L_48, L_57, L_58, L_60, L_64, L_90, L_93, L_97, L_99, L_100, L_122, L_144, L_255, L_364, L_480, L_500, L_800, L_1000, L_100000, L_4096, L_1023, L_1024, nLe, nLt, nEq, nI_1, nI_add, pk_mul, nSn, nDn, nCl, zck_nI, zdv_nI, nNeg, nLe0, n0Lt, nEq0, nM1, m1N, m1Lt, nLm1, zcb_0, zcb_1, i10, i01, nEq1, n1Eq, nLt1, gI_eq, gI_nb, gI_na, x_badF, x_badT1, x_badT2, bt_0, bt_1, bit1_u, Bool.true_eq_false, Bool.false_eq_true, eq_self, Int32.or_zero, L_11, L_14, L_15, L_16, L_17, L_18, L_19, L_21, L_22, L_23, L_28, L_29, if_pos, if_neg]⟩))) hg1 ⟨by simp (disch := omega) only [Option.bind_some, Option.map_some, zlet_eq, ↓reduceIte, L_2, L_3, L_4, L_5, L_6, L_7, L_8, L_9, L_10, L_12, L_13, L_20, L_24, L_25, L_26, L_27, L_30, L_32, L_33, L_34, L_40, L_48, L_57, L_58, L_60, L_64, L_90, L_93, L_97, L_99, L_100, L_122, L_144, L_255, L_364, L_480, L_500, L_800, L_1000, L_100000, L_4096, L_1023, L_1024, nLe, nLt, nEq, nI_1, nI_add, pk_mul, nSn, nDn, nCl, zck_nI, zdv_nI, nNeg, nLe0, n0Lt, nEq0, nM1, m1N, m1Lt, nLm1, zcb_0, zcb_1, i10, i01, nEq1, n1Eq, nLt1, gI_eq, gI_nb, gI_na, x_badF, x_badT1, x_badT2, bt_0, bt_1, bit1_u, Bool.true_eq_false, Bool.false_eq_true, eq_self, Int32.or_zero, L_11, L_14, L_15, L_16, L_17, L_18, L_19, L_21, L_22, L_23, L_28, L_29, if_pos, if_neg], by simp (disch := omega) only [Option.bind_some, Option.map_some, zlet_eq, ↓reduceIte, L_2, L_3, L_4, L_5, L_6, L_7, L_8, L_9, L_10, L_12, L_13, L_20, L_24, L_25, L_26, L_27, L_30, L_32, L_33, L_34, L_40, L_48, L_57, L_58, L_60, L_64, L_90, L_93, L_97, L_99, L_100, L_122, L_144, L_255, L_364, L_480, L_500, L_800, L_1000, L_100000, L_4096, L_1023, L_1024, nLe, nLt, nEq, nI_1, nI_add, pk_mul, nSn, nDn, nCl, zck_nI, zdv_nI, nNeg, nLe0, n0Lt, nEq0, nM1, m1N, m1Lt, nLm1, zcb_0, zcb_1, i10, i01, nEq1, n1Eq, nLt1, gI_eq, gI_nb, gI_na, x_badF, x_badT1, x_badT2, bt_0, bt_1, bit1_u, Bool.true_eq_false, Bool.false_eq_true, eq_self, Int32.or_zero, L_11, L_14, L_15, L_16, L_17, L_18, L_19, L_21, L_22, L_23, L_28, L_29, if_pos, if_neg]⟩
    · rw [if_neg q]
      rcases hK.2.1 with k | k
      · exact absurd k q
      · exact main D h' ag.refl k
end M71
