/-! THE MATHEMATICS: most signs, the reference and both -/
def pRm (a b : Nat) : Prop := a ≠ 201 ∧ ¬ (a = 102 ∧ b = 53)
section M93
variable {D : zD} {P : Nat → Nat} {nc ns c d w k : Nat} {cv : Nat → Int32}
theorem r_mostOf (h14 : gI D 102 14 = nI w) (h15 : gI D 102 15 = nI k) (hw : w ≤ 6) (hk : k ≤ 5) (h6 : w * k ≤ 6) (hn : 1 ≤ nc) (hal : ∀ x, x < 2 ^ (w * k) → gI D 201 x = bI (cfx nc cv (2 * d) (nI x))) (h206 : True) : zok (fn_X12_most_22 zFU 0 D) fun q => sp_mo (w * k) nc cv (2 * d) q.1 ∧ ag pRm D q.2 ∧ gL q.2 206 0 = gL D 206 0 := by
  have hp : 2 ^ (w * k) ≤ 2 ^ 6 := Nat.pow_le_pow_right (by decide) h6
  have hp0 : 0 < 2 ^ (w * k) := Nat.two_pow_pos _
  refine z_inv (2 ^ (w * k)) (fun n v (E : zD) => fn_X12_most_22 n (nI v) E) (fun v E => E.2 = D.2 ∧ gL E 206 0 = gL D 206 0 ∧ ∀ x, x < v → ∀ u, u < 64 → lb (gL E 202 x) u = apt (w * k) nc cv (2 * d) x u) _ ?_ ?_ 0 zFU D (Nat.zero_le _) (zfu_gt (by omega)) ⟨rfl, rfl, fun x hx => absurd hx (Nat.not_lt_zero _)⟩
  · intro n v E hv ⟨g1, g2, g3⟩ ih
    show zok (fn_X12_most_22 (n + 1) (nI v) E) _
    have gE' : ∀ a b, gI E a b = gI D a b := fun a b => by show E.2 a b = D.2 a b; rw [g1]
    rw [fn_X12_most_22, x_allCells (w := w) (h := k) (by rw [gE', h14]) (by rw [gE', h15]) hw hk, Option.bind_some, if_neg (show ¬ nI (2 ^ (w * k) - 1) < nI v by rw [nLt _ _ (by omega) (by omega)]; omega), zck_nI (by omega) (by omega), nI_clamp (by omega), zlet_eq]
    refine z_inv (2 ^ (w * k)) (fun m j (F : zD) => fn_X12_most_39 (fn_X12_most_22 n) m (nI v) (nI j) F) (fun j F => F.2 = D.2 ∧ gL F 206 0 = gL D 206 0 ∧ (∀ x, x < v → ∀ u, u < 64 → lb (gL F 202 x) u = apt (w * k) nc cv (2 * d) x u) ∧ ∀ u, u < 64 → lb (gL F 202 v) u = (decide (u < j) && apt (w * k) nc cv (2 * d) v u)) _ ?_ ?_ 0 zFU (sL E 202 v 0) (Nat.zero_le _) (zfu_gt (by omega)) ⟨g1, by rw [gL_na (by omega), g2], fun x hx u hu => by rw [gL_nb (by omega)]; exact g3 x hx u hu, fun u hu => by rw [gL_eq, l_0, decide_eq_false (Nat.not_lt_zero _), Bool.false_and]⟩
    · intro m j F hj ⟨k1, k2, k3, k4⟩ ih2
      show zok (fn_X12_most_39 (fn_X12_most_22 n) (m + 1) (nI v) (nI j) F) _
      have gF' : ∀ a b, gI F a b = gI D a b := fun a b => by show F.2 a b = D.2 a b; rw [k1]
      have hx : v ^^^ j < 2 ^ (w * k) := Nat.xor_lt_two_pow hv hj
      have e6 : apt (w * k) nc cv (2 * d) v j = !cfx nc cv (2 * d) (nI (v ^^^ j)) := by
        unfold apt
        rw [decide_eq_true hv, decide_eq_true hj, nx_xor]; rfl
      rw [fn_X12_most_39, x_allCells (w := w) (h := k) (by rw [gF', h14]) (by rw [gF', h15]) hw hk, Option.bind_some, if_neg (show ¬ nI (2 ^ (w * k) - 1) < nI j by rw [nLt _ _ (by omega) (by omega)]; omega), nx_xor, zck_nI (by omega) (by omega), nI_clamp (by omega), gF', hal _ hx, nI_1]
      cases q : cfx nc cv (2 * d) (nI (v ^^^ j))
      · rw [if_pos (show bI false = 0 from rfl), zck_nI (by omega) (by omega), zck_nI (by omega) (by omega), nI_clamp (by omega), zlet_eq]
        refine ih2 _ ⟨k1, by rw [gL_na (by omega), k2], fun x hx u hu => by rw [gL_nb (by omega)]; exact k3 x hx u hu, fun u hu => ?_⟩
        rw [gL_eq, l_or, l_bit j (by omega) u hu, k4 u hu]
        by_cases e : u = j
        · rw [e, e6, q, decide_eq_true rfl, Bool.or_true, decide_eq_true (Nat.lt_succ_self _)]; rfl
        · rw [decide_eq_false e, Bool.or_false]
          congr 1
          rw [decide_eq_decide]; omega
      · rw [if_neg (show ¬ bI true = 0 by decide)]
        refine ih2 F ⟨k1, k2, k3, fun u hu => ?_⟩
        rw [k4 u hu]
        by_cases e : u = j
        · rw [e, e6, q, Bool.not_true, Bool.and_false, Bool.and_false]
        · congr 1
          rw [decide_eq_decide]; omega
    · intro m F ⟨k1, k2, k3, k4⟩
      show zok (fn_X12_most_39 (fn_X12_most_22 n) (m + 1) (nI v) (nI (2 ^ (w * k))) F) _
      have gF' : ∀ a b, gI F a b = gI D a b := fun a b => by show F.2 a b = D.2 a b; rw [k1]
      rw [fn_X12_most_39, x_allCells (w := w) (h := k) (by rw [gF', h14]) (by rw [gF', h15]) hw hk, Option.bind_some, if_pos (show nI (2 ^ (w * k) - 1) < nI (2 ^ (w * k)) by rw [nLt _ _ (by omega) (by omega)]; omega), nI_1]
      refine ih F ⟨k1, k2, fun x hx u hu => ?_⟩
      by_cases e : x = v
      · rw [e, k4 u hu]
        by_cases g : u < 2 ^ (w * k)
        · rw [decide_eq_true g, Bool.true_and]
        · rw [decide_eq_false g, Bool.false_and]
          unfold apt
          rw [decide_eq_false g, Bool.and_false, Bool.false_and]
      · exact k3 x (by omega) u hu
  · intro n E ⟨g1, g2, g3⟩
    show zok (fn_X12_most_22 (n + 1) (nI (2 ^ (w * k))) E) _
    have gE' : ∀ a b, gI E a b = gI D a b := fun a b => by show E.2 a b = D.2 a b; rw [g1]
    rw [fn_X12_most_22, x_allCells (w := w) (h := k) (by rw [gE', h14]) (by rw [gE', h15]) hw hk, Option.bind_some, if_pos (show nI (2 ^ (w * k) - 1) < nI (2 ^ (w * k)) by rw [nLt _ _ (by omega) (by omega)]; omega)]
    unfold fn_X12_most_82
    rw [zlet_eq]
    have hrow0 := g3 0 (by omega)
    have apN : ∀ u v, apt (w * k) nc cv (2 * d) u v = true → u < 2 ^ (w * k) ∧ v < 2 ^ (w * k) := fun u v r => by
      unfold apt at r
      rw [Bool.and_eq_true, Bool.and_eq_true, decide_eq_true_eq, decide_eq_true_eq] at r
      exact ⟨r.1.1, r.1.2⟩
    have hl64 := lct_le (gL E 202 0)
    refine (r_grows (A := apt (w * k) nc cv (2 * d)) apt_sym (apt_irr hn) 100 (gL E 202 0) 1 1 (sI E 102 53 1) (by omega) (by omega) (by omega) gI_eq (fun v hv u hu => ?_)).bind fun F ⟨b', f1, f2, f3⟩ => ?_
    · have hv64 := lb_lt hv
      rw [hrow0 v hv64] at hv
      exact g3 v (apN _ _ hv).2 u hu
    · rw [zok_some]
      refine ⟨by show sp_mo (w * k) nc cv (2 * d) (gI F 102 53); rw [f1]; exact gQ_mo h6 hn hrow0 f2, fun x y hxy => ?_, by show gL F 206 0 = _; rw [f3.l]; exact g2⟩
      show gI F x y = gI D x y
      rw [f3.1 x y (by unfold pRm at hxy; unfold p53; omega)]
      show gI (sI E 102 53 1) x y = _
      rw [← gE' x y]
      exact if_neg (fun r => hxy.2 r)
theorem pRm_iv {E : zD} (h : iv P D) (g : ag pRm D E) : iv P E := h.keep (g.mono (by unfold pRm pcr pA pB pS pI pT; intros; omega)) (g.mono (by unfold pRm pK; intros; omega)) (g.mono (by unfold pRm pO; intros; omega))
theorem pMo_iv {E : zD} (h : iv P D) (g : ag pMo D E) : iv P E := h.keep (g.mono (by unfold pMo pcr pA pB pS pI pT; intros; omega)) (g.mono (by unfold pMo pK; intros; omega)) (g.mono (by unfold pMo pO; intros; omega))
theorem r_most (h : iv P D) : zok (fn_X12_most D) fun q => sp_mo (P 0 * P 1) (P 4) (gI D 128) (2 * P 5) q.1 ∧ iv P q.2 := by
  have hi := h.thr 0
  unfold fn_X12_most
  have hr := iv_rcv hi
  have f128 : gI (sI D 102 0 0) 128 = gI D 128 := gIf (by omega)
  rw [f128] at hr
  have hc := hi.1.2.1.1
  generalize gI D 128 = cv at *
  have hb := hi.1.1.1
  have h14 := hi.1.1.2.2.1.1
  have h15 := hi.1.1.2.2.1.2.1
  have h30 := wh_le hb.2.1 hb.2.2.2.1
  rw [zlet_eq, r_cells h14 h15, Option.bind_some]
  by_cases q : P 0 * P 1 ≤ 6
  · rw [if_pos (show nI (P 0 * P 1) ≤ (6 : Int32) from nI_le (b := 6) q (by omega))]
    refine (r_layAlike h14 h15 hb.2.1 hb.2.2.2.1 (by omega) hr).bind fun E ⟨e1, e2⟩ => ?_
    refine (r_mostOf (D := E) (by rw [e2.1 _ _ (by unfold pAl; omega)]; exact h14) (by rw [e2.1 _ _ (by unfold pAl; omega)]; exact h15) hb.2.1 hb.2.2.2.1 q hc.1 e1 trivial).mono fun r ⟨r1, r2, r3⟩ => ⟨r1, ?_⟩
    exact pRm_iv hi ((e2.1.mono (by unfold pAl pRm; intros; omega)).trans r2)
  · rw [if_neg (show ¬ nI (P 0 * P 1) ≤ (6 : Int32) from nI_ge (a := 6) (by omega) (by omega)), zok_some]
    exact ⟨Or.inl ⟨by omega, rfl⟩, hi⟩
theorem apt_cong {cw : Nat → Int32} {e : Nat} (h : ∀ k, k < nc → cv k = cw k) : apt c nc cv e = apt c nc cw e := by
  funext u v
  unfold apt
  rw [cfx_cong h]
theorem sp_mo_cong {cw : Nat → Int32} {e : Nat} {v : Int32} (h : ∀ k, k < nc → cv k = cw k) (g : sp_mo c nc cv e v) : sp_mo c nc cw e v := by
  unfold sp_mo at *
  rw [apt_cong h] at g
  exact g
theorem tk_most (h : iv P D) : duo fn_X11_most fn_X12_most D := by
  have hc : zok (fn_X11_most D) fun q => sp_mo (P 0 * P 1) (P 4) (gI D 128) (2 * P 5) q.1 ∧ iv P q.2 ∧ gI q.2 128 = gI D 128 := by
    have h' := h
    obtain ⟨⟨⟨hb, ⟨a0, a1, a2, a3⟩, ⟨b0, b1, b2, b3⟩, hs, hw⟩, ⟨hc, c1, c2, hcv⟩, ⟨hd, ⟨z0, z1, z2⟩, ⟨y0, y1, y2⟩, hp, ht⟩, ⟨hi, i0, i1, him⟩, ⟨hta, ta0, ta1, hpl, htb⟩⟩, hK, hO⟩ := h
    replace y0 : gI _ 102 34 = nI (P 5) := y0
    replace y1 : gI _ 102 35 = nI (P 6) := y1
    replace y2 : gI _ 102 36 = nI (P 7) := y2
    have h30 := wh_le (w := P 0) (h := P 1) (by omega) (by omega)
    unfold fn_X11_most
    rw [show fn_X11_keptAt 8 D = some (gI D 101 8) from c_keptAt (k := 8) (by omega), Option.bind_some]
    by_cases q : gI D 101 8 = -1000000
    · rw [if_pos q, show fn_X0_cells 3 D = some (nI (P 0 * P 1)) from by unfold fn_X0_cells; rw [a0, a1, pk_mul], Option.bind_some, z0]
      have big : zok (fn_X2_largest 20 (nI (P 0 * P 1)) (nI (P 5)) D) fun q => sp_mo (P 0 * P 1) (P 4) (gI D 21) (2 * P 5) q.1 ∧ ag pMo D q.2 := by
        by_cases q6 : P 0 * P 1 ≤ 6
        · have h46 : P 0 * P 1 = 4 ∨ P 0 * P 1 = 6 := by
            have w1 : P 0 * 2 ≤ P 0 * P 1 := Nat.mul_le_mul_left _ hb.2.2.1
            have w2 : 2 * P 1 ≤ P 0 * P 1 := Nat.mul_le_mul_right _ hb.1
            have w3 : P 0 = 2 ∨ P 0 = 3 := by omega
            rcases w3 with w3 | w3 <;> rw [w3] at w2 q6 ⊢ <;> omega
          exact c_mostOf (a := 20) c1 hc (by omega) h46 (by omega) fun k hk => by
            have := hcv k hk
            rw [show gI D (20 + 1) k = gI D 128 k from this.1]
            exact this.2
        · unfold fn_X2_largest
          rw [if_neg (show ¬ nI (P 0 * P 1) ≤ (6 : Int32) from nI_ge (a := 6) (by omega) (by omega)), zok_some]
          exact ⟨Or.inl ⟨by omega, rfl⟩, ag.refl⟩
      refine big.bind fun r ⟨r1, r2⟩ => ?_
      have hr := pMo_iv h' r2
      have hg : ag pM r.2 (sI r.2 101 8 r.1) := ag.refl.sI (by unfold pM; omega)
      have f128 : gI r.2 128 = gI D 128 := funext fun b => r2 _ _ (by unfold pMo; omega)
      have e1 : sp_mo (P 0 * P 1) (P 4) (gI D 128) (2 * P 5) r.1 := sp_mo_cong (fun k hk => (hcv k hk).1) r1
      rw [show ∀ v, fn_X11_keep 8 v r.2 = some (sI r.2 101 8 v) from fun v => c_keep (k := 8) (by omega) v, Option.bind_some, show fn_X11_keptAt 8 (sI r.2 101 8 r.1) = some _ from c_keptAt (k := 8) (by omega), Option.bind_some, zok_some]
      refine ⟨?_, pM_iv hr hg (hr.2.1.mk hg (Or.inl ⟨by simp (disch := omega) only [Option.bind_some, Option.map_some, zlet_eq, ↓reduceIte, L_2, L_3, L_4, L_5, L_6, L_7, L_8, L_9, L_10, L_12, L_13, L_20, L_24, L_25, L_26, L_27, L_30, L_32, L_33, L_34, L_40, L_48, L_57, L_58, L_60, L_64, L_90, L_93, L_97, L_99, L_100, L_122, L_144, L_255, L_364, L_480, L_500, L_800, L_1000, L_100000, L_4096, L_1023, L_1024, nLe, nLt, nEq, nI_1, nI_add, pk_mul, nSn, nDn, nCl, zck_nI, zdv_nI, nNeg, nLe0, n0Lt, nEq0, nM1, m1N, m1Lt, nLm1, zcb_0, zcb_1, i10, i01, nEq1, n1Eq, nLt1, gI_eq, gI_nb, gI_na, x_badF, x_badT1, x_badT2, bt_0, bt_1, bit1_u, Bool.true_eq_false, Bool.false_eq_true, eq_self, Int32.or_zero, L_11, L_14, L_15, L_16, L_17, L_18, L_19, L_21, L_22, L_23, L_28, L_29, if_pos, if_neg], by simp (disch := omega) only [Option.bind_some, Option.map_some, zlet_eq, ↓reduceIte, L_2, L_3, L_4, L_5, L_6, L_7, L_8, L_9, L_10, L_12, L_13, L_20, L_24, L_25, L_26, L_27, L_30, L_32, L_33, L_34, L_40, L_48, L_57, L_58, L_60, L_64, L_90, L_93, L_97, L_99, L_100, L_122, L_144, L_255, L_364, L_480, L_500, L_800, L_1000, L_100000, L_4096, L_1023, L_1024, nLe, nLt, nEq, nI_1, nI_add, pk_mul, nSn, nDn, nCl, zck_nI, zdv_nI, nNeg, nLe0, n0Lt, nEq0, nM1, m1N, m1Lt, nLm1, zcb_0, zcb_1, i10, i01, nEq1, n1Eq, nLt1, gI_eq, gI_nb, gI_na, x_badF, x_badT1, x_badT2, bt_0, bt_1, bit1_u, Bool.true_eq_false, Bool.false_eq_true, eq_self, Int32.or_zero, L_11, L_14, L_15, L_16, L_17, L_18, L_19, L_21, L_22, L_23, L_28, L_29, if_pos, if_neg]⟩) (Or.inl ⟨by simp (disch := omega) only [Option.bind_some, Option.map_some, zlet_eq, ↓reduceIte, L_2, L_3, L_4, L_5, L_6, L_7, L_8, L_9, L_10, L_12, L_13, L_20, L_24, L_25, L_26, L_27, L_30, L_32, L_33, L_34, L_40, L_48, L_57, L_58, L_60, L_64, L_90, L_93, L_97, L_99, L_100, L_122, L_144, L_255, L_364, L_480, L_500, L_800, L_1000, L_100000, L_4096, L_1023, L_1024, nLe, nLt, nEq, nI_1, nI_add, pk_mul, nSn, nDn, nCl, zck_nI, zdv_nI, nNeg, nLe0, n0Lt, nEq0, nM1, m1N, m1Lt, nLm1, zcb_0, zcb_1, i10, i01, nEq1, n1Eq, nLt1, gI_eq, gI_nb, gI_na, x_badF, x_badT1, x_badT2, bt_0, bt_1, bit1_u, Bool.true_eq_false, Bool.false_eq_true, eq_self, Int32.or_zero, L_11, L_14, L_15, L_16, L_17, L_18, L_19, L_21, L_22, L_23, L_28, L_29, if_pos, if_neg], by simp (disch := omega) only [Option.bind_some, Option.map_some, zlet_eq, ↓reduceIte, L_2, L_3, L_4, L_5, L_6, L_7, L_8, L_9, L_10, L_12, L_13, L_20, L_24, L_25, L_26, L_27, L_30, L_32, L_33, L_34, L_40, L_48, L_57, L_58, L_60, L_64, L_90, L_93, L_97, L_99, L_100, L_122, L_144, L_255, L_364, L_480, L_500, L_800, L_1000, L_100000, L_4096, L_1023, L_1024, nLe, nLt, nEq, nI_1, nI_add, pk_mul, nSn, nDn, nCl, zck_nI, zdv_nI, nNeg, nLe0, n0Lt, nEq0, nM1, m1N, m1Lt, nLm1, zcb_0, zcb_1, i10, i01, nEq1, n1Eq, nLt1, gI_eq, gI_nb, gI_na, x_badF, x_badT1, x_badT2, bt_0, bt_1, bit1_u, Bool.true_eq_false, Bool.false_eq_true, eq_self, Int32.or_zero, L_11, L_14, L_15, L_16, L_17, L_18, L_19, L_21, L_22, L_23, L_28, L_29, if_pos, if_neg], by simp (disch := omega) only [Option.bind_some, Option.map_some, zlet_eq, ↓reduceIte, L_2, L_3, L_4, L_5, L_6, L_7, L_8, L_9, L_10, L_12, L_13, L_20, L_24, L_25, L_26, L_27, L_30, L_32, L_33, L_34, L_40, L_48, L_57, L_58, L_60, L_64, L_90, L_93, L_97, L_99, L_100, L_122, L_144, L_255, L_364, L_480, L_500, L_800, L_1000, L_100000, L_4096, L_1023, L_1024, nLe, nLt, nEq, nI_1, nI_add, pk_mul, nSn, nDn, nCl, zck_nI, zdv_nI, nNeg, nLe0, n0Lt, nEq0, nM1, m1N, m1Lt, nLm1, zcb_0, zcb_1, i10, i01, nEq1, n1Eq, nLt1, gI_eq, gI_nb, gI_na, x_badF, x_badT1, x_badT2, bt_0, bt_1, bit1_u, Bool.true_eq_false, Bool.false_eq_true, eq_self, Int32.or_zero, L_11, L_14, L_15, L_16, L_17, L_18, L_19, L_21, L_22, L_23, L_28, L_29, if_pos, if_neg]⟩) (Or.inl ⟨by simp (disch := omega) only [Option.bind_some, Option.map_some, zlet_eq, ↓reduceIte, L_2, L_3, L_4, L_5, L_6, L_7, L_8, L_9, L_10, L_12, L_13, L_20, L_24, L_25, L_26, L_27, L_30, L_32, L_33, L_34, L_40, L_48, L_57, L_58, L_60, L_64, L_90, L_93, L_97, L_99, L_100, L_122, L_144, L_255, L_364, L_480, L_500, L_800, L_1000, L_100000, L_4096, L_1023, L_1024, nLe, nLt, nEq, nI_1, nI_add, pk_mul, nSn, nDn, nCl, zck_nI, zdv_nI, nNeg, nLe0, n0Lt, nEq0, nM1, m1N, m1Lt, nLm1, zcb_0, zcb_1, i10, i01, nEq1, n1Eq, nLt1, gI_eq, gI_nb, gI_na, x_badF, x_badT1, x_badT2, bt_0, bt_1, bit1_u, Bool.true_eq_false, Bool.false_eq_true, eq_self, Int32.or_zero, L_11, L_14, L_15, L_16, L_17, L_18, L_19, L_21, L_22, L_23, L_28, L_29, if_pos, if_neg], by simp (disch := omega) only [Option.bind_some, Option.map_some, zlet_eq, ↓reduceIte, L_2, L_3, L_4, L_5, L_6, L_7, L_8, L_9, L_10, L_12, L_13, L_20, L_24, L_25, L_26, L_27, L_30, L_32, L_33, L_34, L_40, L_48, L_57, L_58, L_60, L_64, L_90, L_93, L_97, L_99, L_100, L_122, L_144, L_255, L_364, L_480, L_500, L_800, L_1000, L_100000, L_4096, L_1023, L_1024, nLe, nLt, nEq, nI_1, nI_add, pk_mul, nSn, nDn, nCl, zck_nI, zdv_nI, nNeg, nLe0, n0Lt, nEq0, nM1, m1N, m1Lt, nLm1, zcb_0, zcb_1, i10, i01, nEq1, n1Eq, nLt1, gI_eq, gI_nb, gI_na, x_badF, x_badT1, x_badT2, bt_0, bt_1, bit1_u, Bool.true_eq_false, Bool.false_eq_true, eq_self, Int32.or_zero, L_11, L_14, L_15, L_16, L_17, L_18, L_19, L_21, L_22, L_23, L_28, L_29, if_pos, if_neg]⟩) (Or.inl (by simp (disch := omega) only [Option.bind_some, Option.map_some, zlet_eq, ↓reduceIte, L_2, L_3, L_4, L_5, L_6, L_7, L_8, L_9, L_10, L_12, L_13, L_20, L_24, L_25, L_26, L_27, L_30, L_32, L_33, L_34, L_40, L_48, L_57, L_58, L_60, L_64, L_90, L_93, L_97, L_99, L_100, L_122, L_144, L_255, L_364, L_480, L_500, L_800, L_1000, L_100000, L_4096, L_1023, L_1024, nLe, nLt, nEq, nI_1, nI_add, pk_mul, nSn, nDn, nCl, zck_nI, zdv_nI, nNeg, nLe0, n0Lt, nEq0, nM1, m1N, m1Lt, nLm1, zcb_0, zcb_1, i10, i01, nEq1, n1Eq, nLt1, gI_eq, gI_nb, gI_na, x_badF, x_badT1, x_badT2, bt_0, bt_1, bit1_u, Bool.true_eq_false, Bool.false_eq_true, eq_self, Int32.or_zero, L_11, L_14, L_15, L_16, L_17, L_18, L_19, L_21, L_22, L_23, L_28, L_29, if_pos, if_neg])) (Or.inr (by rw [gI_eq, f128]; exact e1)) (Or.inl (by simp (disch := omega) only [Option.bind_some, Option.map_some, zlet_eq, ↓reduceIte, L_2, L_3, L_4, L_5, L_6, L_7, L_8, L_9, L_10, L_12, L_13, L_20, L_24, L_25, L_26, L_27, L_30, L_32, L_33, L_34, L_40, L_48, L_57, L_58, L_60, L_64, L_90, L_93, L_97, L_99, L_100, L_122, L_144, L_255, L_364, L_480, L_500, L_800, L_1000, L_100000, L_4096, L_1023, L_1024, nLe, nLt, nEq, nI_1, nI_add, pk_mul, nSn, nDn, nCl, zck_nI, zdv_nI, nNeg, nLe0, n0Lt, nEq0, nM1, m1N, m1Lt, nLm1, zcb_0, zcb_1, i10, i01, nEq1, n1Eq, nLt1, gI_eq, gI_nb, gI_na, x_badF, x_badT1, x_badT2, bt_0, bt_1, bit1_u, Bool.true_eq_false, Bool.false_eq_true, eq_self, Int32.or_zero, L_11, L_14, L_15, L_16, L_17, L_18, L_19, L_21, L_22, L_23, L_28, L_29, if_pos, if_neg])) (fun s hs' => Or.inl ⟨by simp (disch := omega) only [Option.bind_some, Option.map_some, zlet_eq, ↓reduceIte, L_2, L_3, L_4, L_5, L_6, L_7, L_8, L_9, L_10, L_12, L_13, L_20, L_24, L_25, L_26, L_27, L_30, L_32, L_33, L_34, L_40, L_48, L_57, L_58, L_60, L_64, L_90, L_93, L_97, L_99, L_100, L_122, L_144, L_255, L_364, L_480, L_500, L_800, L_1000, L_100000, L_4096, L_1023, L_1024, nLe, nLt, nEq, nI_1, nI_add, pk_mul, nSn, nDn, nCl, zck_nI, zdv_nI, nNeg, nLe0, n0Lt, nEq0, nM1, m1N, m1Lt, nLm1, zcb_0, zcb_1, i10, i01, nEq1, n1Eq, nLt1, gI_eq, gI_nb, gI_na, x_badF, x_badT1, x_badT2, bt_0, bt_1, bit1_u, Bool.true_eq_false, Bool.false_eq_true, eq_self, Int32.or_zero, L_11, L_14, L_15, L_16, L_17, L_18, L_19, L_21, L_22, L_23, L_28, L_29, if_pos, if_neg], by simp (disch := omega) only [Option.bind_some, Option.map_some, zlet_eq, ↓reduceIte, L_2, L_3, L_4, L_5, L_6, L_7, L_8, L_9, L_10, L_12, L_13, L_20, L_24, L_25, L_26, L_27, L_30, L_32, L_33, L_34, L_40, L_48, L_57, L_58, L_60, L_64, L_90, L_93, L_97, L_99, L_100, L_122, L_144, L_255, L_364, L_480, L_500, L_800, L_1000, L_100000, L_4096, L_1023, L_1024, nLe, nLt, nEq, nI_1, nI_add, pk_mul, nSn, nDn, nCl, zck_nI, zdv_nI, nNeg, nLe0, n0Lt, nEq0, nM1, m1N, m1Lt, nLm1, zcb_0, zcb_1, i10, i01, nEq1, n1Eq, nLt1, gI_eq, gI_nb, gI_na, x_badF, x_badT1, x_badT2, bt_0, bt_1, bit1_u, Bool.true_eq_false, Bool.false_eq_true, eq_self, Int32.or_zero, L_11, L_14, L_15, L_16, L_17, L_18, L_19, L_21, L_22, L_23, L_28, L_29, if_pos, if_neg]⟩)), ?_⟩
      · show sp_mo (P 0 * P 1) (P 4) (gI D 128) (2 * P 5) (gI (sI r.2 101 8 _) 101 8)
        rw [gI_eq]; exact e1
      · show gI (sI r.2 101 8 _) 128 = _
        rw [gIf (by omega), f128]
    · rw [if_neg q, Option.bind_some, zok_some]
      rcases hK.2.2.2.2.2.1 with k | k
      · exact absurd k q
      · exact ⟨k, h', rfl⟩
  refine hc.mono fun q ⟨e1, e2, e3⟩ => (r_most e2).mono fun r ⟨k1, k2⟩ => ⟨⟨P, k2⟩, ?_⟩
  rw [e3] at k1
  exact sp_mo_one k1 e1
end M93
